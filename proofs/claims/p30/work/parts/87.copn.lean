/-! LEVEL 2: a whole Net is copied -/
section CPN
variable {σ : SG} {a b : Nat} {wa : NW}
def D164 (wa w : NW) : Prop := (∀ j, j < 4 → w 6 0 j = wa 6 0 j) ∧ (∀ j, j < 5 → w 7 0 j = wa 7 0 j) ∧ w 0 0 0 = wa 0 0 0
def D125 (wa w : NW) : Prop := (∀ i, i < 6 → ∀ j, j < 7 → w 4 i j = wa 4 i j) ∧ D164 wa w
def D84 (wa w : NW) : Prop := (∀ i, i < 8 → ∀ j, j < 6 → w 3 i j = wa 3 i j) ∧ D125 wa w
def D43 (wa w : NW) : Prop := (∀ i, i < 4 → ∀ j, j < 5 → w 2 i j = wa 2 i j) ∧ D84 wa w
def D2 (wa w : NW) : Prop := (∀ i, i < 5 → ∀ j, j < 14 → w 1 i j = wa 1 i j) ∧ D43 wa w
/-- the truth values of the Net that is copied -/
def BB (w : NW) : Prop := (∀ i, i < 5 → b01 (w 1 i 0) ∧ b01 (w 1 i 4)) ∧ (∀ i, i < 4 → b01 (w 2 i 0) ∧ b01 (w 2 i 4)) ∧ (∀ i, i < 8 → b01 (w 3 i 0) ∧ b01 (w 3 i 5)) ∧ (∀ i, i < 6 → b01 (w 4 i 0))
theorem c_copy_b164 (hA : ∀ w, ovr (ovr σ b w) a wa = ovr σ b w) (w : NW) : ∃ w', m_X3_copyFrom_b164 (some b) (some a) (ovr σ b w) = some ((), ovr σ b w') ∧ Mix w' w wa ∧ D164 wa w' := by
  obtain ⟨w1, e1, m1, q1⟩ := c_row (σ := σ) (b := b) (x := a + 5) (y := b + 5) (N := 4) (c := 6) (i := 0) (o := 0) (V := fun j => wa 6 0 j) (by decide) (aL_5 hA) (fun _ => len_5) (aA_5 hA) (fun w j hj v => by rw [Nat.zero_add]; exact ast_5 hj v) wa w (fun j _ => by rw [Nat.zero_add])
  obtain ⟨w2, e2, m2, q2⟩ := c_row (σ := σ) (b := b) (x := a + 6) (y := b + 6) (N := 5) (c := 7) (i := 0) (o := 0) (V := fun j => wa 7 0 j) (by decide) (aL_6 hA) (fun _ => len_6) (aA_6 hA) (fun w j hj v => by rw [Nat.zero_add]; exact ast_6 hj v) wa w1 (fun j _ => by rw [Nat.zero_add])
  have m3 : Mix (up3 w2 0 0 0 (wa 0 0 0)) w2 wa := (Mix_id _ _).up rfl
  refine ⟨up3 w2 0 0 0 (wa 0 0 0), ?_, m3.trans (m2.trans m1), fun j hj => m3.keep (m2.keep ?_), fun j hj => m3.keep ?_, up3_eq _ _ _ _ _⟩
  · unfold m_X3_copyFrom_b164
    simp only [aR_net_4 hA, gR_net_4, e1, aR_net_5 hA, gR_net_5, e2, aI_net_6 hA, pI_net_6, Option.bind_some, bnd_some]
  · have := q1 j hj
    rwa [Nat.zero_add] at this
  · have := q2 j hj
    rwa [Nat.zero_add] at this
theorem c_copy_L125 (hA : ∀ w, ovr (ovr σ b w) a wa = ovr σ b w) (hZ : BB wa) : ∀ (d k : Nat), k + d = 6 → ∀ (F : Nat), d < F → ∀ (w : NW), (∀ i, i < k → ∀ j, j < 7 → w 4 i j = wa 4 i j) → ∃ w', m_X3_copyFrom_L125 F (some b) (some a) (nI k) (ovr σ b w) = some ((), ovr σ b w') ∧ Mix w' w wa ∧ D125 wa w' := by
  intro d
  induction d with
  | zero =>
    intro k hk F hF w hd
    obtain ⟨F, rfl⟩ : ∃ m, F = m + 1 := ⟨F - 1, by omega⟩
    rw [show m_X3_copyFrom_L125 (F + 1) = m_X3_copyFrom_B125 (m_X3_copyFrom_L125 F) from rfl]
    unfold m_X3_copyFrom_B125
    simp only [gR_net_3, len_4, Option.bind_some]
    rw [if_pos (show (6 : Int32) ≤ nI k from nI_le (a := 6) (by omega) (by omega))]
    obtain ⟨w', e, m, q⟩ := c_copy_b164 hA w
    exact ⟨w', e, m, fun i hi j hj => m.keep (hd i (by omega) j hj), q⟩
  | succ d ih =>
    intro k hk F hF w hd
    obtain ⟨F, rfl⟩ : ∃ m, F = m + 1 := ⟨F - 1, by omega⟩
    rw [show m_X3_copyFrom_L125 (F + 1) = m_X3_copyFrom_B125 (m_X3_copyFrom_L125 F) from rfl]
    unfold m_X3_copyFrom_B125
    have hk' : k < 6 := by omega
    obtain ⟨w1, e1, m1, q1⟩ := c_copy_rcv hA hk' (hZ.2.2.2 _ hk') w
    simp only [gR_net_3, len_4, aR_net_3 hA, aL_4 hA, ald_4 hk', aA_4 hA hk', ob_rcv hk', e1, bnd_some, Option.bind_some, ← nI_succ]
    rw [if_neg (show ¬ (6 : Int32) ≤ nI k from nI_ge (b := 6) (by omega) (by decide)), if_neg (show ¬ (6 : Int32) ≤ nI k from nI_ge (b := 6) (by omega) (by decide))]
    obtain ⟨w', e, m, q⟩ := ih (k + 1) (by omega) F (by omega) w1 (fun i hi j hj => by
      by_cases hik : i = k
      · subst hik; exact q1 j hj
      · exact m1.keep (hd i (by omega) j hj))
    exact ⟨w', e, m.trans m1, q⟩
theorem c_copy_b123 (hA : ∀ w, ovr (ovr σ b w) a wa = ovr σ b w) (hZ : BB wa) (w : NW) : ∃ w', m_X3_copyFrom_b123 (some b) (some a) (ovr σ b w) = some ((), ovr σ b w') ∧ Mix w' w wa ∧ D125 wa w' := by
  have h := c_copy_L125 hA hZ 6 0 rfl 1000 (by decide) w (fun i hi => absurd hi (Nat.not_lt_zero i))
  rw [← nI0] at h
  exact h
theorem c_copy_L84 (hA : ∀ w, ovr (ovr σ b w) a wa = ovr σ b w) (hZ : BB wa) : ∀ (d k : Nat), k + d = 8 → ∀ (F : Nat), d < F → ∀ (w : NW), (∀ i, i < k → ∀ j, j < 6 → w 3 i j = wa 3 i j) → ∃ w', m_X3_copyFrom_L84 F (some b) (some a) (nI k) (ovr σ b w) = some ((), ovr σ b w') ∧ Mix w' w wa ∧ D84 wa w' := by
  intro d
  induction d with
  | zero =>
    intro k hk F hF w hd
    obtain ⟨F, rfl⟩ : ∃ m, F = m + 1 := ⟨F - 1, by omega⟩
    rw [show m_X3_copyFrom_L84 (F + 1) = m_X3_copyFrom_B84 (m_X3_copyFrom_L84 F) from rfl]
    unfold m_X3_copyFrom_B84
    simp only [gR_net_2, len_3, Option.bind_some]
    rw [if_pos (show (8 : Int32) ≤ nI k from nI_le (a := 8) (by omega) (by omega))]
    obtain ⟨w', e, m, q⟩ := c_copy_b123 hA hZ w
    exact ⟨w', e, m, fun i hi j hj => m.keep (hd i (by omega) j hj), q⟩
  | succ d ih =>
    intro k hk F hF w hd
    obtain ⟨F, rfl⟩ : ∃ m, F = m + 1 := ⟨F - 1, by omega⟩
    rw [show m_X3_copyFrom_L84 (F + 1) = m_X3_copyFrom_B84 (m_X3_copyFrom_L84 F) from rfl]
    unfold m_X3_copyFrom_B84
    have hk' : k < 8 := by omega
    obtain ⟨w1, e1, m1, q1⟩ := c_copy_lam hA hk' (hZ.2.2.1 _ hk').1 (hZ.2.2.1 _ hk').2 w
    simp only [gR_net_2, len_3, aR_net_2 hA, aL_3 hA, ald_3 hk', aA_3 hA hk', ob_lam hk', e1, bnd_some, Option.bind_some, ← nI_succ]
    rw [if_neg (show ¬ (8 : Int32) ≤ nI k from nI_ge (b := 8) (by omega) (by decide)), if_neg (show ¬ (8 : Int32) ≤ nI k from nI_ge (b := 8) (by omega) (by decide))]
    obtain ⟨w', e, m, q⟩ := ih (k + 1) (by omega) F (by omega) w1 (fun i hi j hj => by
      by_cases hik : i = k
      · subst hik; exact q1 j hj
      · exact m1.keep (hd i (by omega) j hj))
    exact ⟨w', e, m.trans m1, q⟩
theorem c_copy_b82 (hA : ∀ w, ovr (ovr σ b w) a wa = ovr σ b w) (hZ : BB wa) (w : NW) : ∃ w', m_X3_copyFrom_b82 (some b) (some a) (ovr σ b w) = some ((), ovr σ b w') ∧ Mix w' w wa ∧ D84 wa w' := by
  have h := c_copy_L84 hA hZ 8 0 rfl 1000 (by decide) w (fun i hi => absurd hi (Nat.not_lt_zero i))
  rw [← nI0] at h
  exact h
theorem c_copy_L43 (hA : ∀ w, ovr (ovr σ b w) a wa = ovr σ b w) (hZ : BB wa) : ∀ (d k : Nat), k + d = 4 → ∀ (F : Nat), d < F → ∀ (w : NW), (∀ i, i < k → ∀ j, j < 5 → w 2 i j = wa 2 i j) → ∃ w', m_X3_copyFrom_L43 F (some b) (some a) (nI k) (ovr σ b w) = some ((), ovr σ b w') ∧ Mix w' w wa ∧ D43 wa w' := by
  intro d
  induction d with
  | zero =>
    intro k hk F hF w hd
    obtain ⟨F, rfl⟩ : ∃ m, F = m + 1 := ⟨F - 1, by omega⟩
    rw [show m_X3_copyFrom_L43 (F + 1) = m_X3_copyFrom_B43 (m_X3_copyFrom_L43 F) from rfl]
    unfold m_X3_copyFrom_B43
    simp only [gR_net_1, len_2, Option.bind_some]
    rw [if_pos (show (4 : Int32) ≤ nI k from nI_le (a := 4) (by omega) (by omega))]
    obtain ⟨w', e, m, q⟩ := c_copy_b82 hA hZ w
    exact ⟨w', e, m, fun i hi j hj => m.keep (hd i (by omega) j hj), q⟩
  | succ d ih =>
    intro k hk F hF w hd
    obtain ⟨F, rfl⟩ : ∃ m, F = m + 1 := ⟨F - 1, by omega⟩
    rw [show m_X3_copyFrom_L43 (F + 1) = m_X3_copyFrom_B43 (m_X3_copyFrom_L43 F) from rfl]
    unfold m_X3_copyFrom_B43
    have hk' : k < 4 := by omega
    obtain ⟨w1, e1, m1, q1⟩ := c_copy_mac hA hk' (hZ.2.1 _ hk').1 (hZ.2.1 _ hk').2 w
    simp only [gR_net_1, len_2, aR_net_1 hA, aL_2 hA, ald_2 hk', aA_2 hA hk', ob_mac hk', e1, bnd_some, Option.bind_some, ← nI_succ]
    rw [if_neg (show ¬ (4 : Int32) ≤ nI k from nI_ge (b := 4) (by omega) (by decide)), if_neg (show ¬ (4 : Int32) ≤ nI k from nI_ge (b := 4) (by omega) (by decide))]
    obtain ⟨w', e, m, q⟩ := ih (k + 1) (by omega) F (by omega) w1 (fun i hi j hj => by
      by_cases hik : i = k
      · subst hik; exact q1 j hj
      · exact m1.keep (hd i (by omega) j hj))
    exact ⟨w', e, m.trans m1, q⟩
theorem c_copy_b41 (hA : ∀ w, ovr (ovr σ b w) a wa = ovr σ b w) (hZ : BB wa) (w : NW) : ∃ w', m_X3_copyFrom_b41 (some b) (some a) (ovr σ b w) = some ((), ovr σ b w') ∧ Mix w' w wa ∧ D43 wa w' := by
  have h := c_copy_L43 hA hZ 4 0 rfl 1000 (by decide) w (fun i hi => absurd hi (Nat.not_lt_zero i))
  rw [← nI0] at h
  exact h
theorem c_copy_L2 (hA : ∀ w, ovr (ovr σ b w) a wa = ovr σ b w) (hZ : BB wa) : ∀ (d k : Nat), k + d = 5 → ∀ (F : Nat), d < F → ∀ (w : NW), (∀ i, i < k → ∀ j, j < 14 → w 1 i j = wa 1 i j) → ∃ w', m_X3_copyFrom_L2 F (some b) (some a) (nI k) (ovr σ b w) = some ((), ovr σ b w') ∧ Mix w' w wa ∧ D2 wa w' := by
  intro d
  induction d with
  | zero =>
    intro k hk F hF w hd
    obtain ⟨F, rfl⟩ : ∃ m, F = m + 1 := ⟨F - 1, by omega⟩
    rw [show m_X3_copyFrom_L2 (F + 1) = m_X3_copyFrom_B2 (m_X3_copyFrom_L2 F) from rfl]
    unfold m_X3_copyFrom_B2
    simp only [gR_net_0, len_1, Option.bind_some]
    rw [if_pos (show (5 : Int32) ≤ nI k from nI_le (a := 5) (by omega) (by omega))]
    obtain ⟨w', e, m, q⟩ := c_copy_b41 hA hZ w
    exact ⟨w', e, m, fun i hi j hj => m.keep (hd i (by omega) j hj), q⟩
  | succ d ih =>
    intro k hk F hF w hd
    obtain ⟨F, rfl⟩ : ∃ m, F = m + 1 := ⟨F - 1, by omega⟩
    rw [show m_X3_copyFrom_L2 (F + 1) = m_X3_copyFrom_B2 (m_X3_copyFrom_L2 F) from rfl]
    unfold m_X3_copyFrom_B2
    have hk' : k < 5 := by omega
    obtain ⟨w1, e1, m1, q1⟩ := c_copy_snd hA hk' (hZ.1 _ hk').1 (hZ.1 _ hk').2 w
    simp only [gR_net_0, len_1, aR_net_0 hA, aL_1 hA, ald_1 hk', aA_1 hA hk', ob_snd hk', e1, bnd_some, Option.bind_some, ← nI_succ]
    rw [if_neg (show ¬ (5 : Int32) ≤ nI k from nI_ge (b := 5) (by omega) (by decide)), if_neg (show ¬ (5 : Int32) ≤ nI k from nI_ge (b := 5) (by omega) (by decide))]
    obtain ⟨w', e, m, q⟩ := ih (k + 1) (by omega) F (by omega) w1 (fun i hi j hj => by
      by_cases hik : i = k
      · subst hik; exact q1 j hj
      · exact m1.keep (hd i (by omega) j hj))
    exact ⟨w', e, m.trans m1, q⟩
/-- a Net copies another one -/
theorem c_copyNet (hA : ∀ w, ovr (ovr σ b w) a wa = ovr σ b w) (hZ : BB wa) (w : NW) : ∃ w', m_X3_copyFrom (some b) (some a) (ovr σ b w) = some ((), ovr σ b w') ∧ Mix w' w wa ∧ D2 wa w' := by
  have h := c_copy_L2 hA hZ 5 0 rfl 1000 (by decide) w (fun i hi => absurd hi (Nat.not_lt_zero i))
  rw [← nI0] at h
  exact h
theorem D2.ok {wa w : NW} (h : D2 wa w) {c i j : Nat} (hk : okN c i j) : w c i j = wa c i j := by
  obtain ⟨h1, h2, h3, h4, h5, h6, h7⟩ := h
  rcases hk with ⟨rfl, rfl, hk⟩ | ⟨rfl, rfl, rfl⟩ | ⟨rfl, rfl, hk⟩ | ⟨rfl, hi, hk⟩ | ⟨rfl, hi, hk⟩ | ⟨rfl, hi, hk⟩ | ⟨rfl, hi, hk⟩
  · exact h5 _ hk
  · exact h7
  · exact h6 _ hk
  · exact h1 _ hi _ hk
  · exact h2 _ hi _ hk
  · exact h3 _ hi _ hk
  · exact h4 _ hi _ hk
def okND (c i j : Nat) : Decidable (okN c i j) := by unfold okN; infer_instance
/-- g on the entries that a Net has, w elsewhere -/
def onN (g w : NW) : NW := fun c i j => @ite _ (okN c i j) (okND c i j) (g c i j) (w c i j)
theorem flat_congr {g g' : NW} (h : ∀ c i j, okN c i j → g' c i j = g c i j) : flat g' = flat g := by
  funext k
  by_cases hk : k < 190
  · obtain ⟨c, i, j, ho, rfl⟩ := posN_inv k hk
    rw [flat_at ho, flat_at ho, h c i j ho]
  · rw [flat_out hk, flat_out hk]
theorem flat_ok {g g' : NW} (h : ∀ k, k < 190 → flat g' k = flat g k) {c i j : Nat} (ho : okN c i j) : g' c i j = g c i j := by
  exact (flat_at (g := g') ho).symm.trans ((h _ (posN_lt ho)).trans (flat_at (g := g) ho))
theorem onN_ok {g w : NW} {c i j : Nat} (h : okN c i j) : onN g w c i j = g c i j := if_pos h
theorem onN_no {g w : NW} {c i j : Nat} (h : ¬ okN c i j) : onN g w c i j = w c i j := if_neg h
theorem RelR_ok {g w g' w' : NW} {i : Nat} (hi : i < 6) (h : RelR g w i) (hg : ∀ c i j, okN c i j → g' c i j = g c i j) (hw : ∀ c i j, okN c i j → w' c i j = w c i j) : RelR g' w' i := by
  have o : ∀ j, j < 7 → okN 4 i j := fun j hj => by unfold okN; omega
  unfold RelR at h ⊢
  rw [hg 4 i 0 (o 0 (by decide)), hg 4 i 1 (o 1 (by decide)), hg 4 i 2 (o 2 (by decide)), hg 4 i 3 (o 3 (by decide)), hg 4 i 4 (o 4 (by decide)), hg 4 i 5 (o 5 (by decide)), hg 4 i 6 (o 6 (by decide)), hw 4 i 0 (o 0 (by decide)), hw 4 i 1 (o 1 (by decide)), hw 4 i 2 (o 2 (by decide)), hw 4 i 3 (o 3 (by decide)), hw 4 i 4 (o 4 (by decide)), hw 4 i 5 (o 5 (by decide)), hw 4 i 6 (o 6 (by decide))]
  exact h
/-- the copy shows the same numbers of the reference -/
theorem D2.rel {g wa w : NW} (h : D2 wa w) (hR : Rel g wa) : ∃ g', (∀ c i j, okN c i j → g' c i j = g c i j) ∧ Rel g' w := by
  refine ⟨onN g w, fun c i j ho => onN_ok ho, ⟨fun i j => ?_, fun i j => ?_, fun i j => ?_, fun i j => ?_, fun i j hj => ?_, fun i j hj hl => ?_, fun i j hj => ?_⟩, fun i hi => RelR_ok hi (hR.2 i hi) (fun c i j ho => onN_ok ho) (fun c i j ho => h.ok ho)⟩
  · by_cases ho : okN 0 i j
    · rw [onN_ok ho, h.ok ho]; exact hR.1.c0 _ _
    · rw [onN_no ho]
  · by_cases ho : okN 6 i j
    · rw [onN_ok ho, h.ok ho]; exact hR.1.c6 _ _
    · rw [onN_no ho]
  · by_cases ho : okN 7 i j
    · rw [onN_ok ho, h.ok ho]; exact hR.1.c7 _ _
    · rw [onN_no ho]
  · by_cases ho : okN 3 i j
    · rw [onN_ok ho, h.ok ho]; exact hR.1.c3 _ _
    · rw [onN_no ho]
  · by_cases ho : okN 1 i j
    · rw [onN_ok ho, h.ok ho]; exact hR.1.c1 _ hj
    · rw [onN_no ho]
  · by_cases ho : okN 1 i (8 + j)
    · rw [onN_ok (show okN 1 i 3 by unfold okN at ho ⊢; omega)] at hl
      rw [onN_ok ho, h.ok ho]; exact hR.1.cq _ hj hl
    · rw [onN_no ho]
  · by_cases ho : okN 2 i j
    · rw [onN_ok (show okN 2 i 0 by unfold okN at ho ⊢; omega)] at hj
      rw [onN_ok ho, h.ok ho]; exact hR.1.c2 _ hj
    · rw [onN_no ho]
/-- what holds of the numbers holds of others that are the same where a Net has them -/
theorem Inv_ok {g g' : NW} (hg : ∀ c i j, okN c i j → g' c i j = g c i j) (h : Inv g) : Inv g' := by
  obtain ⟨h1, h2, h3, h4⟩ := h
  refine ⟨fun i hi => ?_, fun i hi => ?_, fun i hi => ?_, fun i hi => ?_⟩
  · have o : ∀ j, j < 14 → g' 1 i j = g 1 i j := fun j hj => hg _ _ _ (by unfold okN; omega)
    have := h1 i hi
    unfold InvS at this ⊢
    rw [o 0 (by decide), o 1 (by decide), o 3 (by decide), o 4 (by decide), o 6 (by decide), o 7 (by decide)]
    refine ⟨this.1, this.2.1, fun hp => ?_⟩
    obtain ⟨a1, ⟨q, q6, a2, a3, a4⟩, a5⟩ := this.2.2 hp
    exact ⟨a1, ⟨q, q6, a2, a3, fun j hj => by rw [o (8 + j) (by omega)]; exact a4 j hj⟩, a5⟩
  · have o : ∀ j, j < 5 → g' 2 i j = g 2 i j := fun j hj => hg _ _ _ (by unfold okN; omega)
    have := h2 i hi
    unfold InvM at this ⊢
    rw [o 0 (by decide), o 1 (by decide), o 3 (by decide), o 4 (by decide)]
    exact this
  · have o : ∀ j, j < 6 → g' 3 i j = g 3 i j := fun j hj => hg _ _ _ (by unfold okN; omega)
    have := h3 i hi
    unfold InvL at this ⊢
    rw [o 0 (by decide), o 5 (by decide)]
    exact this
  · have o : ∀ j, j < 7 → g' 4 i j = g 4 i j := fun j hj => hg _ _ _ (by unfold okN; omega)
    have := h4 i hi
    unfold InvR at this ⊢
    rw [o 0 (by decide), o 1 (by decide), o 6 (by decide)]
    exact this
theorem Rel_BB {g w : NW} (hR : Rel g w) (hI : Inv g) : BB w := by
  obtain ⟨h1, h2, h3, h4⟩ := hI
  refine ⟨fun i hi => ?_, fun i hi => ?_, fun i hi => ?_, fun i hi => ?_⟩
  · rw [hR.1.c1 i (by decide), hR.1.c1 i (by decide)]; exact ⟨(h1 i hi).1, (h1 i hi).2.1⟩
  · rw [hR.1.c2 i (Or.inl (by decide)), hR.1.c2 i (Or.inl (by decide))]; exact ⟨(h2 i hi).1, (h2 i hi).2.1⟩
  · rw [hR.1.c3 i, hR.1.c3 i]; exact h3 i hi
  · rw [(hR.2 i hi).1]; exact (h4 i hi).1
end CPN

