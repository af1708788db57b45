/-! LEVEL 2: things are looked up, made and put, on both sides -/
/-- the least place whose entry is not 1 -/
def frN (p : Nat → Int32) : Nat → Nat → Nat
  | 0, k => k
  | d + 1, k => if p k = 1 then frN p d (k + 1) else k
theorem frN_rng (p : Nat → Int32) : ∀ d k, k ≤ frN p d k ∧ frN p d k ≤ k + d
  | 0, k => ⟨Nat.le_refl _, Nat.le_refl _⟩
  | d + 1, k => by
    unfold frN
    split
    · have := frN_rng p d (k + 1)
      omega
    · omega
theorem frN_not (p : Nat → Int32) : ∀ d k, frN p d k < k + d → ¬ p (frN p d k) = 1
  | 0, k => fun h => absurd h (Nat.lt_irrefl _)
  | d + 1, k => by
    unfold frN
    split
    · intro h
      exact frN_not p d (k + 1) (by omega)
    · rename_i h
      exact fun _ => h
theorem frN_congr {p q : Nat → Int32} {N : Nat} (h : ∀ i, i < N → p i = q i) : ∀ d k, k + d ≤ N → frN p d k = frN q d k
  | 0, _, _ => rfl
  | d + 1, k, hk => by
    unfold frN
    rw [h k (by omega), frN_congr h d (k + 1) (by omega)]
theorem le_lt {a : Int32} {n : Nat} (h : nI (n + 1) ≤ a) (hn : n + 1 < 2 ^ 31) : nI n < a := by
  rw [Int32.le_iff_toInt_le, nI_toInt hn] at h
  rw [Int32.lt_iff_toInt_lt, nI_toInt (by omega)]
  omega
theorem not_b {x : Int32} (h : b01 x) (h1 : ¬ x = 1) : x = 0 := h.resolve_right h1
theorem up3_slot (g : NW) {c i j : Nat} (v : Int32) {c' i' j' : Nat} (h : ¬ (c' = c ∧ i' = i)) : up3 g c i j v c' i' j' = g c' i' j' := if_neg (fun e => h ⟨e.1, e.2.1⟩)
section LOOK
variable {σ : SG} {n M : Nat} {w : NW} {g : NW}
theorem inst_none (c : Nat) (σ : SG) : sInst none c σ = some 0 := rfl

theorem inst_snd {i : Nat} (h : i < 5) : sInst (some (sndA n i)) 6 (ovr σ n w) = some 1 := by
  show (sObj (some (sndA n i)) 6 (ovr σ n w)).bind _ = _
  rw [ob_snd h]
  rfl
theorem cast_snd {i : Nat} (h : i < 5) : sCast (some (sndA n i)) 6 (ovr σ n w) = some () := ob_snd h
theorem c_presS_out {a : Int32} (h : a < 0 ∨ nI 5 ≤ a) : m_X8_presentAt (some (n + 1)) a (ovr σ n w) = some (none, ovr σ n w) := by
  unfold m_X8_presentAt m_X8_presentAt_b10
  rcases h with h | h
  · rw [if_pos h]
  · split
    · rfl
    · simp only [len_1, Option.bind_some]
      rw [if_neg (show ¬ a < 5 from Int32.not_lt.mpr h)]
theorem c_presS {i : Nat} (h : i < 5) : m_X8_presentAt (some (n + 1)) (nI i) (ovr σ n w) = some (if w 1 i 0 = 0 then none else some (sndA n i), ovr σ n w) := by
  unfold m_X8_presentAt m_X8_presentAt_b10
  rw [if_neg (nI_pos (by omega))]
  simp only [len_1, Option.bind_some]
  rw [if_pos (show nI i < 5 from nI_lt (b := 5) h (by decide))]
  simp only [ald_1 h, gT_snd_1 h, Option.bind_some]
  by_cases h0 : w 1 i 0 = 0
  · rw [if_pos h0, if_pos h0]
  · rw [if_neg h0, if_neg h0]
theorem c_senderAt_out {a : Int32} (h : a < 0 ∨ nI 5 ≤ a) : m_X3_senderAt (some n) a (ovr σ n w) = some (none, ovr σ n w) := by
  unfold m_X3_senderAt
  simp only [gR_net_0, c_presS_out h, Option.bind_some, bnd_some, inst_none, if_true]
theorem c_senderAt {i : Nat} (h : i < 5) : m_X3_senderAt (some n) (nI i) (ovr σ n w) = some (if w 1 i 0 = 0 then none else some (sndA n i), ovr σ n w) := by
  unfold m_X3_senderAt
  simp only [gR_net_0, c_presS h, Option.bind_some, bnd_some]
  by_cases h0 : w 1 i 0 = 0
  · rw [if_pos h0]
    simp only [inst_none, Option.bind_some, if_true]
  · rw [if_neg h0]
    simp only [inst_snd h, cast_snd h, Option.bind_some]
    rw [if_neg one_ne]
theorem c_freeSL : ∀ (d k : Nat), k + d = 5 → ∀ (F : Nat), d < F → (∀ i, i < 5 → b01 (w 1 i 0)) → m_X8_firstFree_L7 F (some (n + 1)) 5 (nI k) (ovr σ n w) = some (if frN (fun i => w 1 i 0) d k = 5 then none else some (sndA n (frN (fun i => w 1 i 0) d k)), ovr σ n w) := by
  intro d
  induction d with
  | zero =>
    intro k hk F hF hb
    obtain ⟨F, rfl⟩ : ∃ m, F = m + 1 := ⟨F - 1, by omega⟩
    rw [show m_X8_firstFree_L7 (F + 1) = m_X8_firstFree_B7 (m_X8_firstFree_L7 F) from rfl]
    unfold m_X8_firstFree_B7
    rw [if_pos (show (5 : Int32) ≤ nI k from nI_le (a := 5) (by omega) (by omega)), if_pos (show frN (fun i => w 1 i 0) 0 k = 5 from hk)]
  | succ d ih =>
    intro k hk F hF hb
    obtain ⟨F, rfl⟩ : ∃ m, F = m + 1 := ⟨F - 1, by omega⟩
    have hk' : k < 5 := by omega
    rw [show m_X8_firstFree_L7 (F + 1) = m_X8_firstFree_B7 (m_X8_firstFree_L7 F) from rfl]
    unfold m_X8_firstFree_B7
    rw [if_neg (show ¬ (5 : Int32) ≤ nI k from nI_ge (b := 5) hk' (by decide))]
    simp only [ald_1 hk', gT_snd_1 hk', Option.bind_some]
    by_cases h1 : w 1 k 0 = 1
    · rw [if_neg (by rw [h1]; exact one_ne), ← nI_succ, ih (k + 1) (by omega) F (by omega) hb]
      rw [show frN (fun i => w 1 i 0) (d + 1) k = frN (fun i => w 1 i 0) d (k + 1) from if_pos h1]
    · rw [if_pos (not_b (hb k hk') h1)]
      rw [show frN (fun i => w 1 i 0) (d + 1) k = k from if_neg h1, if_neg (by omega)]
theorem c_freeS (hb : ∀ i, i < 5 → b01 (w 1 i 0)) : m_X3_freeSender (some n) (ovr σ n w) = some (if frN (fun i => w 1 i 0) 5 0 = 5 then none else some (sndA n (frN (fun i => w 1 i 0) 5 0)), ovr σ n w) := by
  unfold m_X3_freeSender m_X8_firstFree
  have e := c_freeSL (σ := σ) (n := n) (w := w) 5 0 (by omega) 1000 (by decide) hb
  rw [← nI0] at e
  simp only [gR_net_0, len_1, Option.bind_some, e, bnd_some]
  by_cases h : frN (fun i => w 1 i 0) 5 0 = 5
  · rw [if_pos h]
    simp only [inst_none, Option.bind_some, if_true]
  · have hl : frN (fun i => w 1 i 0) 5 0 < 5 := by
      have := (frN_rng (fun i => w 1 i 0) 5 0).2
      omega
    rw [if_neg h]
    simp only [inst_snd hl, cast_snd hl, Option.bind_some]
    rw [if_neg one_ne]
/-- a new thing: from field k on all is 0 -/
def zerS (g : NW) (i k : Nat) : NW := fun c i' j => if c = 1 ∧ i' = i ∧ k ≤ j ∧ j < 14 then 0 else g c i' j
def putSG (g : NW) (i : Nat) (a b c : Int32) : NW := up3 (up3 (up3 (up3 (zerS g i 0) 1 i 0 1) 1 i 1 a) 1 i 2 b) 1 i 3 c
theorem putSG_o (g : NW) (i : Nat) (a b c : Int32) {c' i' j : Nat} (h : ¬ (c' = 1 ∧ i' = i)) : putSG g i a b c c' i' j = g c' i' j := by
  unfold putSG
  rw [up3_slot _ _ h, up3_slot _ _ h, up3_slot _ _ h, up3_slot _ _ h]
  exact if_neg (by omega)
theorem putSG_z (g : NW) (i : Nat) (a b c : Int32) {j : Nat} (h : 4 ≤ j ∧ j < 14) : putSG g i a b c 1 i j = 0 := by
  unfold putSG
  simp only [up3]
  rw [if_neg (by omega), if_neg (by omega), if_neg (by omega), if_neg (by omega)]
  exact if_pos (by omega)
theorem putSG_0 (g : NW) (i : Nat) (a b c : Int32) : putSG g i a b c 1 i 0 = 1 := by simp [putSG, up3]
theorem putSG_1 (g : NW) (i : Nat) (a b c : Int32) : putSG g i a b c 1 i 1 = a := by simp [putSG, up3]
theorem putSG_2 (g : NW) (i : Nat) (a b c : Int32) : putSG g i a b c 1 i 2 = b := by simp [putSG, up3]
theorem putSG_3 (g : NW) (i : Nat) (a b c : Int32) : putSG g i a b c 1 i 3 = c := by simp [putSG, up3]
theorem inst_mac {i : Nat} (h : i < 4) : sInst (some (macA n i)) 2 (ovr σ n w) = some 1 := by
  show (sObj (some (macA n i)) 2 (ovr σ n w)).bind _ = _
  rw [ob_mac h]
  rfl
theorem cast_mac {i : Nat} (h : i < 4) : sCast (some (macA n i)) 2 (ovr σ n w) = some () := ob_mac h
theorem c_presM_out {a : Int32} (h : a < 0 ∨ nI 4 ≤ a) : m_X8_presentAt (some (n + 2)) a (ovr σ n w) = some (none, ovr σ n w) := by
  unfold m_X8_presentAt m_X8_presentAt_b10
  rcases h with h | h
  · rw [if_pos h]
  · split
    · rfl
    · simp only [len_2, Option.bind_some]
      rw [if_neg (show ¬ a < 4 from Int32.not_lt.mpr h)]
theorem c_presM {i : Nat} (h : i < 4) : m_X8_presentAt (some (n + 2)) (nI i) (ovr σ n w) = some (if w 2 i 0 = 0 then none else some (macA n i), ovr σ n w) := by
  unfold m_X8_presentAt m_X8_presentAt_b10
  rw [if_neg (nI_pos (by omega))]
  simp only [len_2, Option.bind_some]
  rw [if_pos (show nI i < 4 from nI_lt (b := 4) h (by decide))]
  simp only [ald_2 h, gT_mac_1 h, Option.bind_some]
  by_cases h0 : w 2 i 0 = 0
  · rw [if_pos h0, if_pos h0]
  · rw [if_neg h0, if_neg h0]
theorem c_machineAt_out {a : Int32} (h : a < 0 ∨ nI 4 ≤ a) : m_X3_machineAt (some n) a (ovr σ n w) = some (none, ovr σ n w) := by
  unfold m_X3_machineAt
  simp only [gR_net_1, c_presM_out h, Option.bind_some, bnd_some, inst_none, if_true]
theorem c_machineAt {i : Nat} (h : i < 4) : m_X3_machineAt (some n) (nI i) (ovr σ n w) = some (if w 2 i 0 = 0 then none else some (macA n i), ovr σ n w) := by
  unfold m_X3_machineAt
  simp only [gR_net_1, c_presM h, Option.bind_some, bnd_some]
  by_cases h0 : w 2 i 0 = 0
  · rw [if_pos h0]
    simp only [inst_none, Option.bind_some, if_true]
  · rw [if_neg h0]
    simp only [inst_mac h, cast_mac h, Option.bind_some]
    rw [if_neg one_ne]
theorem c_freeML : ∀ (d k : Nat), k + d = 4 → ∀ (F : Nat), d < F → (∀ i, i < 4 → b01 (w 2 i 0)) → m_X8_firstFree_L7 F (some (n + 2)) 4 (nI k) (ovr σ n w) = some (if frN (fun i => w 2 i 0) d k = 4 then none else some (macA n (frN (fun i => w 2 i 0) d k)), ovr σ n w) := by
  intro d
  induction d with
  | zero =>
    intro k hk F hF hb
    obtain ⟨F, rfl⟩ : ∃ m, F = m + 1 := ⟨F - 1, by omega⟩
    rw [show m_X8_firstFree_L7 (F + 1) = m_X8_firstFree_B7 (m_X8_firstFree_L7 F) from rfl]
    unfold m_X8_firstFree_B7
    rw [if_pos (show (4 : Int32) ≤ nI k from nI_le (a := 4) (by omega) (by omega)), if_pos (show frN (fun i => w 2 i 0) 0 k = 4 from hk)]
  | succ d ih =>
    intro k hk F hF hb
    obtain ⟨F, rfl⟩ : ∃ m, F = m + 1 := ⟨F - 1, by omega⟩
    have hk' : k < 4 := by omega
    rw [show m_X8_firstFree_L7 (F + 1) = m_X8_firstFree_B7 (m_X8_firstFree_L7 F) from rfl]
    unfold m_X8_firstFree_B7
    rw [if_neg (show ¬ (4 : Int32) ≤ nI k from nI_ge (b := 4) hk' (by decide))]
    simp only [ald_2 hk', gT_mac_1 hk', Option.bind_some]
    by_cases h1 : w 2 k 0 = 1
    · rw [if_neg (by rw [h1]; exact one_ne), ← nI_succ, ih (k + 1) (by omega) F (by omega) hb]
      rw [show frN (fun i => w 2 i 0) (d + 1) k = frN (fun i => w 2 i 0) d (k + 1) from if_pos h1]
    · rw [if_pos (not_b (hb k hk') h1)]
      rw [show frN (fun i => w 2 i 0) (d + 1) k = k from if_neg h1, if_neg (by omega)]
theorem c_freeM (hb : ∀ i, i < 4 → b01 (w 2 i 0)) : m_X3_freeMachine (some n) (ovr σ n w) = some (if frN (fun i => w 2 i 0) 4 0 = 4 then none else some (macA n (frN (fun i => w 2 i 0) 4 0)), ovr σ n w) := by
  unfold m_X3_freeMachine m_X8_firstFree
  have e := c_freeML (σ := σ) (n := n) (w := w) 4 0 (by omega) 1000 (by decide) hb
  rw [← nI0] at e
  simp only [gR_net_1, len_2, Option.bind_some, e, bnd_some]
  by_cases h : frN (fun i => w 2 i 0) 4 0 = 4
  · rw [if_pos h]
    simp only [inst_none, Option.bind_some, if_true]
  · have hl : frN (fun i => w 2 i 0) 4 0 < 4 := by
      have := (frN_rng (fun i => w 2 i 0) 4 0).2
      omega
    rw [if_neg h]
    simp only [inst_mac hl, cast_mac hl, Option.bind_some]
    rw [if_neg one_ne]
/-- a new thing: from field k on all is 0 -/
def zerM (g : NW) (i k : Nat) : NW := fun c i' j => if c = 2 ∧ i' = i ∧ k ≤ j ∧ j < 5 then 0 else g c i' j
def putMG (g : NW) (i : Nat) (a b c : Int32) : NW := up3 (up3 (up3 (up3 (zerM g i 0) 2 i 0 1) 2 i 1 a) 2 i 2 b) 2 i 3 c
theorem putMG_o (g : NW) (i : Nat) (a b c : Int32) {c' i' j : Nat} (h : ¬ (c' = 2 ∧ i' = i)) : putMG g i a b c c' i' j = g c' i' j := by
  unfold putMG
  rw [up3_slot _ _ h, up3_slot _ _ h, up3_slot _ _ h, up3_slot _ _ h]
  exact if_neg (by omega)
theorem putMG_z (g : NW) (i : Nat) (a b c : Int32) {j : Nat} (h : 4 ≤ j ∧ j < 5) : putMG g i a b c 2 i j = 0 := by
  unfold putMG
  simp only [up3]
  rw [if_neg (by omega), if_neg (by omega), if_neg (by omega), if_neg (by omega)]
  exact if_pos (by omega)
theorem putMG_0 (g : NW) (i : Nat) (a b c : Int32) : putMG g i a b c 2 i 0 = 1 := by simp [putMG, up3]
theorem putMG_1 (g : NW) (i : Nat) (a b c : Int32) : putMG g i a b c 2 i 1 = a := by simp [putMG, up3]
theorem putMG_2 (g : NW) (i : Nat) (a b c : Int32) : putMG g i a b c 2 i 2 = b := by simp [putMG, up3]
theorem putMG_3 (g : NW) (i : Nat) (a b c : Int32) : putMG g i a b c 2 i 3 = c := by simp [putMG, up3]
theorem inst_lam {i : Nat} (h : i < 8) : sInst (some (lamA n i)) 1 (ovr σ n w) = some 1 := by
  show (sObj (some (lamA n i)) 1 (ovr σ n w)).bind _ = _
  rw [ob_lam h]
  rfl
theorem cast_lam {i : Nat} (h : i < 8) : sCast (some (lamA n i)) 1 (ovr σ n w) = some () := ob_lam h
theorem c_presL_out {a : Int32} (h : a < 0 ∨ nI 8 ≤ a) : m_X8_presentAt (some (n + 3)) a (ovr σ n w) = some (none, ovr σ n w) := by
  unfold m_X8_presentAt m_X8_presentAt_b10
  rcases h with h | h
  · rw [if_pos h]
  · split
    · rfl
    · simp only [len_3, Option.bind_some]
      rw [if_neg (show ¬ a < 8 from Int32.not_lt.mpr h)]
theorem c_presL {i : Nat} (h : i < 8) : m_X8_presentAt (some (n + 3)) (nI i) (ovr σ n w) = some (if w 3 i 0 = 0 then none else some (lamA n i), ovr σ n w) := by
  unfold m_X8_presentAt m_X8_presentAt_b10
  rw [if_neg (nI_pos (by omega))]
  simp only [len_3, Option.bind_some]
  rw [if_pos (show nI i < 8 from nI_lt (b := 8) h (by decide))]
  simp only [ald_3 h, gT_lam_1 h, Option.bind_some]
  by_cases h0 : w 3 i 0 = 0
  · rw [if_pos h0, if_pos h0]
  · rw [if_neg h0, if_neg h0]
theorem c_lampAt_out {a : Int32} (h : a < 0 ∨ nI 8 ≤ a) : m_X3_lampAt (some n) a (ovr σ n w) = some (none, ovr σ n w) := by
  unfold m_X3_lampAt
  simp only [gR_net_2, c_presL_out h, Option.bind_some, bnd_some, inst_none, if_true]
theorem c_lampAt {i : Nat} (h : i < 8) : m_X3_lampAt (some n) (nI i) (ovr σ n w) = some (if w 3 i 0 = 0 then none else some (lamA n i), ovr σ n w) := by
  unfold m_X3_lampAt
  simp only [gR_net_2, c_presL h, Option.bind_some, bnd_some]
  by_cases h0 : w 3 i 0 = 0
  · rw [if_pos h0]
    simp only [inst_none, Option.bind_some, if_true]
  · rw [if_neg h0]
    simp only [inst_lam h, cast_lam h, Option.bind_some]
    rw [if_neg one_ne]
theorem c_freeLL : ∀ (d k : Nat), k + d = 8 → ∀ (F : Nat), d < F → (∀ i, i < 8 → b01 (w 3 i 0)) → m_X8_firstFree_L7 F (some (n + 3)) 8 (nI k) (ovr σ n w) = some (if frN (fun i => w 3 i 0) d k = 8 then none else some (lamA n (frN (fun i => w 3 i 0) d k)), ovr σ n w) := by
  intro d
  induction d with
  | zero =>
    intro k hk F hF hb
    obtain ⟨F, rfl⟩ : ∃ m, F = m + 1 := ⟨F - 1, by omega⟩
    rw [show m_X8_firstFree_L7 (F + 1) = m_X8_firstFree_B7 (m_X8_firstFree_L7 F) from rfl]
    unfold m_X8_firstFree_B7
    rw [if_pos (show (8 : Int32) ≤ nI k from nI_le (a := 8) (by omega) (by omega)), if_pos (show frN (fun i => w 3 i 0) 0 k = 8 from hk)]
  | succ d ih =>
    intro k hk F hF hb
    obtain ⟨F, rfl⟩ : ∃ m, F = m + 1 := ⟨F - 1, by omega⟩
    have hk' : k < 8 := by omega
    rw [show m_X8_firstFree_L7 (F + 1) = m_X8_firstFree_B7 (m_X8_firstFree_L7 F) from rfl]
    unfold m_X8_firstFree_B7
    rw [if_neg (show ¬ (8 : Int32) ≤ nI k from nI_ge (b := 8) hk' (by decide))]
    simp only [ald_3 hk', gT_lam_1 hk', Option.bind_some]
    by_cases h1 : w 3 k 0 = 1
    · rw [if_neg (by rw [h1]; exact one_ne), ← nI_succ, ih (k + 1) (by omega) F (by omega) hb]
      rw [show frN (fun i => w 3 i 0) (d + 1) k = frN (fun i => w 3 i 0) d (k + 1) from if_pos h1]
    · rw [if_pos (not_b (hb k hk') h1)]
      rw [show frN (fun i => w 3 i 0) (d + 1) k = k from if_neg h1, if_neg (by omega)]
theorem c_freeL (hb : ∀ i, i < 8 → b01 (w 3 i 0)) : m_X3_freeLamp (some n) (ovr σ n w) = some (if frN (fun i => w 3 i 0) 8 0 = 8 then none else some (lamA n (frN (fun i => w 3 i 0) 8 0)), ovr σ n w) := by
  unfold m_X3_freeLamp m_X8_firstFree
  have e := c_freeLL (σ := σ) (n := n) (w := w) 8 0 (by omega) 1000 (by decide) hb
  rw [← nI0] at e
  simp only [gR_net_2, len_3, Option.bind_some, e, bnd_some]
  by_cases h : frN (fun i => w 3 i 0) 8 0 = 8
  · rw [if_pos h]
    simp only [inst_none, Option.bind_some, if_true]
  · have hl : frN (fun i => w 3 i 0) 8 0 < 8 := by
      have := (frN_rng (fun i => w 3 i 0) 8 0).2
      omega
    rw [if_neg h]
    simp only [inst_lam hl, cast_lam hl, Option.bind_some]
    rw [if_neg one_ne]
/-- a new thing: from field k on all is 0 -/
def zerL (g : NW) (i k : Nat) : NW := fun c i' j => if c = 3 ∧ i' = i ∧ k ≤ j ∧ j < 6 then 0 else g c i' j
def putLG (g : NW) (i : Nat) (a b c : Int32) : NW := up3 (up3 (up3 (up3 (zerL g i 0) 3 i 0 1) 3 i 1 a) 3 i 2 b) 3 i 3 c
theorem putLG_o (g : NW) (i : Nat) (a b c : Int32) {c' i' j : Nat} (h : ¬ (c' = 3 ∧ i' = i)) : putLG g i a b c c' i' j = g c' i' j := by
  unfold putLG
  rw [up3_slot _ _ h, up3_slot _ _ h, up3_slot _ _ h, up3_slot _ _ h]
  exact if_neg (by omega)
theorem putLG_z (g : NW) (i : Nat) (a b c : Int32) {j : Nat} (h : 4 ≤ j ∧ j < 6) : putLG g i a b c 3 i j = 0 := by
  unfold putLG
  simp only [up3]
  rw [if_neg (by omega), if_neg (by omega), if_neg (by omega), if_neg (by omega)]
  exact if_pos (by omega)
theorem putLG_0 (g : NW) (i : Nat) (a b c : Int32) : putLG g i a b c 3 i 0 = 1 := by simp [putLG, up3]
theorem putLG_1 (g : NW) (i : Nat) (a b c : Int32) : putLG g i a b c 3 i 1 = a := by simp [putLG, up3]
theorem putLG_2 (g : NW) (i : Nat) (a b c : Int32) : putLG g i a b c 3 i 2 = b := by simp [putLG, up3]
theorem putLG_3 (g : NW) (i : Nat) (a b c : Int32) : putLG g i a b c 3 i 3 = c := by simp [putLG, up3]
/-! the class's own -/
def putSW (w : NW) (i : Nat) (a b : Int32) : NW := up3 (up3 (up3 (up3 (up3 (up3 (up3 (up3 w 1 i 0 1) 1 i 1 a) 1 i 2 b) 1 i 3 0) 1 i 4 0) 1 i 5 0) 1 i 6 0) 1 i 7 0
def putMW (w : NW) (i : Nat) (a b c : Int32) : NW := up3 (up3 (up3 (up3 (up3 w 2 i 0 1) 2 i 1 a) 2 i 2 b) 2 i 3 c) 2 i 4 1
def putLW (w : NW) (i : Nat) (a b c : Int32) : NW := up3 (up3 (up3 (up3 (up3 (up3 w 3 i 0 1) 3 i 1 a) 3 i 2 b) 3 i 3 c) 3 i 4 0) 3 i 5 0
theorem c_putS {i : Nat} (hi : i < 5) (a b : Int32) : m_X6_put (some (sndA n i)) a b (ovr σ n w) = some ((), ovr σ n (putSW w i a b)) := by
  unfold m_X6_put putSW
  simp only [pZ_snd_1 hi _ (Or.inr rfl), pI_snd_2 hi, pI_snd_5 hi, pI_snd_4 hi, pZ_snd_6 hi _ (Or.inl rfl), pI_snd_7 hi, pI_snd_8 hi, pI_snd_9 hi, Option.bind_some]
theorem c_putM {i : Nat} (hi : i < 4) (a b c : Int32) : m_X2_put (some (macA n i)) a b c (ovr σ n w) = some ((), ovr σ n (putMW w i a b c)) := by
  unfold m_X2_put putMW
  simp only [pZ_mac_1 hi _ (Or.inr rfl), pI_mac_2 hi, pI_mac_3 hi, pI_mac_4 hi, pZ_mac_5 hi _ (Or.inr rfl), Option.bind_some]
theorem c_putL {i : Nat} (hi : i < 8) (a b c : Int32) : m_X1_put (some (lamA n i)) a b c (ovr σ n w) = some ((), ovr σ n (putLW w i a b c)) := by
  unfold m_X1_put putLW
  simp only [pZ_lam_1 hi _ (Or.inr rfl), pI_lam_2 hi, pI_lam_3 hi, pI_lam_4 hi, pI_lam_5 hi, pZ_lam_6 hi _ (Or.inl rfl), Option.bind_some]
/-! one thing's numbers change on both sides -/
theorem Rel.slot {g' w' : NW} (h : Rel g w) {c0 i0 : Nat} (hc : c0 = 1 ∨ c0 = 2 ∨ c0 = 3) (hg : ∀ c i j, ¬ (c = c0 ∧ i = i0) → g' c i j = g c i j) (hw : ∀ c i j, ¬ (c = c0 ∧ i = i0) → w' c i j = w c i j) (hj : ∀ j, (c0 = 1 → j < 8) → (c0 = 2 → j ≠ 3 ∨ g' 2 i0 0 = 1) → w' c0 i0 j = g' c0 i0 j) (hq : c0 = 1 → ∀ j, j < 6 → nI j < g' 1 i0 3 → w' 1 i0 (8 + j) = g' 1 i0 (8 + j)) : Rel g' w' := by
  refine ⟨⟨fun i j => ?_, fun i j => ?_, fun i j => ?_, fun i j => ?_, fun i j hj8 => ?_, fun i j hj6 hl => ?_, fun i j hjm => ?_⟩, fun i hi => (h.2 i hi).of4 (fun j => hg 4 i j (by omega)) (fun j => hw 4 i j (by omega))⟩
  · rw [hg _ _ _ (by omega), hw _ _ _ (by omega)]; exact h.1.c0 _ _
  · rw [hg _ _ _ (by omega), hw _ _ _ (by omega)]; exact h.1.c6 _ _
  · rw [hg _ _ _ (by omega), hw _ _ _ (by omega)]; exact h.1.c7 _ _
  · by_cases e : 3 = c0 ∧ i = i0
    · obtain ⟨e1, rfl⟩ := e
      subst e1
      exact hj j (fun e => absurd e (by decide)) (fun e => absurd e (by decide))
    · rw [hg _ _ _ e, hw _ _ _ e]; exact h.1.c3 _ _
  · by_cases e : 1 = c0 ∧ i = i0
    · obtain ⟨e1, rfl⟩ := e
      subst e1
      exact hj j (fun _ => hj8) (fun e => absurd e (by decide))
    · rw [hg _ _ _ e, hw _ _ _ e]; exact h.1.c1 _ hj8
  · by_cases e : 1 = c0 ∧ i = i0
    · obtain ⟨e1, rfl⟩ := e
      exact hq e1.symm j hj6 hl
    · rw [hg _ _ _ e] at hl
      rw [hg _ _ _ e, hw _ _ _ e]; exact h.1.cq _ hj6 hl
  · by_cases e : 2 = c0 ∧ i = i0
    · obtain ⟨e1, rfl⟩ := e
      subst e1
      exact hj j (fun e => absurd e (by decide)) (fun _ => hjm)
    · rw [hg _ _ _ e] at hjm
      rw [hg _ _ _ e, hw _ _ _ e]; exact h.1.c2 _ hjm
theorem InvS.of2 {g g' : NW} {i : Nat} (h : InvS g i) (e : ∀ j, g' 1 i j = g 1 i j) : InvS g' i := by
  unfold InvS
  simp only [e]
  exact h
theorem InvM.of2 {g g' : NW} {i : Nat} (h : InvM g i) (e : ∀ j, g' 2 i j = g 2 i j) : InvM g' i := by
  unfold InvM
  simp only [e]
  exact h
theorem InvL.of2 {g g' : NW} {i : Nat} (h : InvL g i) (e : ∀ j, g' 3 i j = g 3 i j) : InvL g' i := by
  unfold InvL
  simp only [e]
  exact h
theorem InvR.of2 {g g' : NW} {i : Nat} (h : InvR g i) (e : ∀ j, g' 4 i j = g 4 i j) : InvR g' i := by
  unfold InvR
  simp only [e]
  exact h
theorem Inv.slot {g' : NW} (h : Inv g) {c0 i0 : Nat} (hg : ∀ c i j, ¬ (c = c0 ∧ i = i0) → g' c i j = g c i j) (h1 : c0 = 1 → i0 < 5 → InvS g' i0) (h2 : c0 = 2 → i0 < 4 → InvM g' i0) (h3 : c0 = 3 → i0 < 8 → InvL g' i0) (h4 : c0 ≠ 4) : Inv g' := by
  refine ⟨fun i hi => ?_, fun i hi => ?_, fun i hi => ?_, fun i hi => (h.2.2.2 i hi).of2 fun j => hg _ _ _ (fun e => h4 e.1.symm)⟩
  · by_cases e : 1 = c0 ∧ i = i0
    · obtain ⟨e1, rfl⟩ := e
      exact h1 e1.symm hi
    · exact (h.1 i hi).of2 fun j => hg _ _ _ e
  · by_cases e : 2 = c0 ∧ i = i0
    · obtain ⟨e1, rfl⟩ := e
      exact h2 e1.symm hi
    · exact (h.2.1 i hi).of2 fun j => hg _ _ _ e
  · by_cases e : 3 = c0 ∧ i = i0
    · obtain ⟨e1, rfl⟩ := e
      exact h3 e1.symm hi
    · exact (h.2.2.1 i hi).of2 fun j => hg _ _ _ e
end LOOK

