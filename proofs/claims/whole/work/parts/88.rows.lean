/-! LEVEL 2: rows of the reference are copied: what is held, saved, recorded, put back -/
section ROWS
variable {σ : SG} {M : Nat}
abbrev RW : Type := Nat → Nat → Int32
/-- row q from place k on is v -/
def rcp (r : RW) (q k : Nat) (v : Nat → Int32) : RW := fun q' j => if q' = q ∧ k ≤ j ∧ j < 190 then v j else r q' j
def st1 (r : RW) (f : Nat → Int32) : RW := fun q j => if q = 1 then f j else r q j
theorem st1_flat (r : RW) (g : NW) : st1 r (flat g) = srow r g := rfl
theorem st1_of {r : RW} {f : Nat → Int32} {q : Nat} (h : q ≠ 1) (j : Nat) : st1 r f q j = r q j := if_neg h
theorem st1_1 {r : RW} {f : Nat → Int32} (j : Nat) : st1 r f 1 j = f j := if_pos rfl
theorem st1_up (r : RW) (f : Nat → Int32) (j : Nat) (v : Int32) : up2 (st1 r f) 1 j v = st1 r (fun j' => if j' = j then v else f j') := by
  funext q j'
  by_cases h : q = 1
  · subst h; simp [up2, st1]
  · simp [up2, st1, h]
theorem sld_1 {r : RW} {g : NW} {j : Nat} (h : j < 190) : sAld (some (M + 1)) 1 (nI j) (ovs σ M r g) = some (flat g j) := (mld_1 h).trans rfl
theorem nI_190 {s : Nat} (j : Nat) : (190 : Int32) * nI s + nI j = nI (190 * s + j) := by
  rw [show (190 : Int32) = nI 190 from rfl, nI_mul, nI_add]
theorem nI_190' (j : Nat) : (190 : Int32) + nI j = nI (190 + j) := by
  rw [show (190 : Int32) = nI 190 from rfl, nI_add]
theorem rcp_end (r : RW) (q : Nat) (v : Nat → Int32) : rcp r q 190 v = r := by
  funext q' j
  exact if_neg (by omega)
theorem rcp_step (r : RW) (q k : Nat) (v : Nat → Int32) (hk : k < 190) : rcp (up2 r q k (v k)) q (k + 1) v = rcp r q k v := by
  funext q' j
  unfold rcp up2
  by_cases h : q' = q ∧ k ≤ j ∧ j < 190
  · rw [if_pos h]
    by_cases hj : j = k
    · subst hj; rw [if_neg (by omega), if_pos ⟨h.1, rfl⟩]
    · rw [if_pos (by omega)]
  · rw [if_neg h, if_neg (by omega), if_neg (by omega)]
theorem sput_end (f v : Nat → Int32) : (fun j => if 190 ≤ j ∧ j < 190 then v j else f j) = f := by
  funext j
  exact if_neg (by omega)
theorem sput_step (f v : Nat → Int32) {k : Nat} (hk : k < 190) : (fun j => if k + 1 ≤ j ∧ j < 190 then v j else (if j = k then v k else f j)) = fun j => if k ≤ j ∧ j < 190 then v j else f j := by
  funext j
  by_cases h : k ≤ j ∧ j < 190
  · rw [if_pos h]
    by_cases hj : j = k
    · subst hj; rw [if_neg (by omega), if_pos rfl]
    · rw [if_pos (by omega)]
  · rw [if_neg h, if_neg (by omega), if_neg (by omega)]
theorem sput_flat {g g' : NW} {v : Nat → Int32} (h : ∀ j, j < 190 → v j = flat g' j) : (fun j => if 0 ≤ j ∧ j < 190 then v j else flat g j) = flat g' := by
  funext j
  by_cases hj : j < 190
  · rw [if_pos ⟨Nat.zero_le _, hj⟩]; exact h j hj
  · rw [if_neg (by omega), flat_out hj, flat_out hj]
theorem q_holdL {g : NW} : ∀ (d k : Nat), k + d = 190 → ∀ (F : Nat), d < F → ∀ (r : RW), m_X9_hold_L2 F (some M) (nI k) (ovs σ M r g) = some ((), ovs σ M (rcp r 2 k (flat g)) g) := by
  intro d
  induction d with
  | zero =>
    intro k hk F hF r
    obtain ⟨F, rfl⟩ : ∃ m, F = m + 1 := ⟨F - 1, by omega⟩
    obtain rfl : k = 190 := by omega
    rw [show m_X9_hold_L2 (F + 1) = m_X9_hold_B2 (m_X9_hold_L2 F) from rfl]
    unfold m_X9_hold_B2
    rw [if_pos (show (190 : Int32) ≤ nI 190 by decide)]
    rw [rcp_end]
  | succ d ih =>
    intro k hk F hF r
    obtain ⟨F, rfl⟩ : ∃ m, F = m + 1 := ⟨F - 1, by omega⟩
    have hk' : k < 190 := by omega
    rw [show m_X9_hold_L2 (F + 1) = m_X9_hold_B2 (m_X9_hold_L2 F) from rfl]
    unfold m_X9_hold_B2
    rw [if_neg (show ¬ (190 : Int32) ≤ nI k from nI_ge (b := 190) hk' (by decide))]
    simp only [gR_s_0, gR_s_1, sld_1 hk', sst_2 hk', Option.bind_some, ← nI_succ]
    rw [ih (k + 1) (by omega) F (by omega), rcp_step _ _ _ _ hk']
theorem q_keepTrialL {g : NW} : ∀ (d k : Nat), k + d = 190 → ∀ (F : Nat), d < F → ∀ (r : RW), m_X9_keepTrial_L2 F (some M) (nI k) (ovs σ M r g) = some ((), ovs σ M (rcp r 3 k (flat g)) g) := by
  intro d
  induction d with
  | zero =>
    intro k hk F hF r
    obtain ⟨F, rfl⟩ : ∃ m, F = m + 1 := ⟨F - 1, by omega⟩
    obtain rfl : k = 190 := by omega
    rw [show m_X9_keepTrial_L2 (F + 1) = m_X9_keepTrial_B2 (m_X9_keepTrial_L2 F) from rfl]
    unfold m_X9_keepTrial_B2
    rw [if_pos (show (190 : Int32) ≤ nI 190 by decide)]
    rw [rcp_end]
  | succ d ih =>
    intro k hk F hF r
    obtain ⟨F, rfl⟩ : ∃ m, F = m + 1 := ⟨F - 1, by omega⟩
    have hk' : k < 190 := by omega
    rw [show m_X9_keepTrial_L2 (F + 1) = m_X9_keepTrial_B2 (m_X9_keepTrial_L2 F) from rfl]
    unfold m_X9_keepTrial_B2
    rw [if_neg (show ¬ (190 : Int32) ≤ nI k from nI_ge (b := 190) hk' (by decide))]
    simp only [gR_s_0, gR_s_2, sld_1 hk', sst_3 hk', Option.bind_some, ← nI_succ]
    rw [ih (k + 1) (by omega) F (by omega), rcp_step _ _ _ _ hk']
theorem q_saveL {g : NW} : ∀ (d k : Nat), k + d = 190 → ∀ (F : Nat), d < F → ∀ (r : RW), m_X9_save_L2 F (some M) (nI k) (ovs σ M r g) = some (g 0 0 0, ovs σ M (up2 (rcp r 5 k (flat g)) 0 10 1) g) := by
  intro d
  induction d with
  | zero =>
    intro k hk F hF r
    obtain ⟨F, rfl⟩ : ∃ m, F = m + 1 := ⟨F - 1, by omega⟩
    obtain rfl : k = 190 := by omega
    rw [show m_X9_save_L2 (F + 1) = m_X9_save_B2 (m_X9_save_L2 F) from rfl]
    unfold m_X9_save_B2
    rw [if_pos (show (190 : Int32) ≤ nI 190 by decide)]
    simp only [pZ_s_10 _ (Or.inr rfl), gR_s_0, Option.bind_some]
    rw [show (4 : Int32) = nI 4 from rfl, sld_1 (by decide)]
    rw [rcp_end, show flat g 4 = g 0 0 0 from flat_at (g := g) (c := 0) (i := 0) (j := 0) (Or.inr (Or.inl ⟨rfl, rfl, rfl⟩))]
    rfl
  | succ d ih =>
    intro k hk F hF r
    obtain ⟨F, rfl⟩ : ∃ m, F = m + 1 := ⟨F - 1, by omega⟩
    have hk' : k < 190 := by omega
    rw [show m_X9_save_L2 (F + 1) = m_X9_save_B2 (m_X9_save_L2 F) from rfl]
    unfold m_X9_save_B2
    rw [if_neg (show ¬ (190 : Int32) ≤ nI k from nI_ge (b := 190) hk' (by decide))]
    simp only [gR_s_0, gR_s_4, sld_1 hk', sst_5 hk', Option.bind_some, ← nI_succ]
    rw [ih (k + 1) (by omega) F (by omega), rcp_step _ _ _ _ hk']
theorem q_hold (r : RW) (g : NW) : m_X9_hold (some M) (ovs σ M r g) = some ((), ovs σ M (rcp r 2 0 (flat g)) g) := by
  have h := q_holdL (σ := σ) (M := M) (g := g) 190 0 rfl 1000 (by decide) r
  rw [← nI0] at h
  exact h
theorem q_keepTrial (r : RW) (g : NW) : m_X9_keepTrial (some M) (ovs σ M r g) = some ((), ovs σ M (rcp r 3 0 (flat g)) g) := by
  have h := q_keepTrialL (σ := σ) (M := M) (g := g) 190 0 rfl 1000 (by decide) r
  rw [← nI0] at h
  exact h
theorem q_save (r : RW) (g : NW) : m_X9_save (some M) (ovs σ M r g) = some (g 0 0 0, ovs σ M (up2 (rcp r 5 0 (flat g)) 0 10 1) g) := by
  have h := q_saveL (σ := σ) (M := M) (g := g) 190 0 rfl 1000 (by decide) r
  rw [← nI0] at h
  exact h
theorem q_putBackL {r : RW} : ∀ (d k : Nat), k + d = 190 → ∀ (F : Nat), d < F → ∀ (f : Nat → Int32), m_X9_putBack_L2 F (some M) (nI k) (ovm σ M (st1 r f)) = some ((), ovm σ M (st1 r (fun j => if k ≤ j ∧ j < 190 then r 3 j else f j))) := by
  intro d
  induction d with
  | zero =>
    intro k hk F hF f
    obtain ⟨F, rfl⟩ : ∃ m, F = m + 1 := ⟨F - 1, by omega⟩
    obtain rfl : k = 190 := by omega
    rw [show m_X9_putBack_L2 (F + 1) = m_X9_putBack_B2 (m_X9_putBack_L2 F) from rfl]
    unfold m_X9_putBack_B2
    rw [if_pos (show (190 : Int32) ≤ nI 190 by decide)]
    rw [sput_end]
  | succ d ih =>
    intro k hk F hF f
    obtain ⟨F, rfl⟩ : ∃ m, F = m + 1 := ⟨F - 1, by omega⟩
    have hk' : k < 190 := by omega
    rw [show m_X9_putBack_L2 (F + 1) = m_X9_putBack_B2 (m_X9_putBack_L2 F) from rfl]
    unfold m_X9_putBack_B2
    rw [if_neg (show ¬ (190 : Int32) ≤ nI k from nI_ge (b := 190) hk' (by decide))]
    simp only [gR_mdl_0, gR_mdl_2, mld_3 hk', mst_1 hk', Option.bind_some, ← nI_succ, st1_up]
    rw [st1_of (by decide)] 
    rw [ih (k + 1) (by omega) F (by omega), sput_step f (fun j => r 3 j) hk']
theorem q_putBack {r : RW} {g g' : NW} (h : ∀ j, j < 190 → r 3 j = flat g' j) : m_X9_putBack (some M) (ovs σ M r g) = some ((), ovs σ M r g') := by
  have e := q_putBackL (σ := σ) (M := M) (r := r) 190 0 rfl 1000 (by decide) (flat g)
  rw [← nI0, sput_flat h] at e
  exact e
theorem q_undoL {r : RW} {s : Nat} (hs : s < 4) (hr : r 0 12 = nI s) : ∀ (d k : Nat), k + d = 190 → ∀ (F : Nat), d < F → ∀ (f : Nat → Int32), m_X9_undo_L22 F (some M) (nI k) (ovm σ M (st1 r f)) = some (nI s, ovm σ M (st1 r (fun j => if k ≤ j ∧ j < 190 then r 4 (190 * s + j) else f j))) := by
  intro d
  induction d with
  | zero =>
    intro k hk F hF f
    obtain ⟨F, rfl⟩ : ∃ m, F = m + 1 := ⟨F - 1, by omega⟩
    obtain rfl : k = 190 := by omega
    rw [show m_X9_undo_L22 (F + 1) = m_X9_undo_B22 (m_X9_undo_L22 F) from rfl]
    unfold m_X9_undo_B22
    rw [if_pos (show (190 : Int32) ≤ nI 190 by decide)]
    simp only [gI_mdl_12, st1_of (show (0 : Nat) ≠ 1 by decide), hr, Option.bind_some]
    rw [sput_end]
  | succ d ih =>
    intro k hk F hF f
    obtain ⟨F, rfl⟩ : ∃ m, F = m + 1 := ⟨F - 1, by omega⟩
    have hk' : k < 190 := by omega
    rw [show m_X9_undo_L22 (F + 1) = m_X9_undo_B22 (m_X9_undo_L22 F) from rfl]
    unfold m_X9_undo_B22
    rw [if_neg (show ¬ (190 : Int32) ≤ nI k from nI_ge (b := 190) hk' (by decide))]
    simp only [gR_mdl_0, gR_mdl_3, gI_mdl_12, st1_of (show (0 : Nat) ≠ 1 by decide), hr, nI_190, mld_4 (show 190 * s + k < 760 by omega), mst_1 hk', Option.bind_some, ← nI_succ, st1_up]
    rw [st1_of (by decide)] 
    rw [ih (k + 1) (by omega) F (by omega), sput_step f (fun j => r 4 (190 * s + j)) hk']
end ROWS
