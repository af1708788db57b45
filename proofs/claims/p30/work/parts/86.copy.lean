/-! LEVEL 2: one Net's numbers are copied to another: block a to block b, apart from each other -/
def Mix (w' w wa : NW) : Prop := ∀ c i j, w' c i j = wa c i j ∨ w' c i j = w c i j
theorem Mix_id (w wa : NW) : Mix w w wa := fun _ _ _ => Or.inr rfl
theorem Mix.up {w' w wa : NW} (h : Mix w' w wa) {c i j : Nat} {v : Int32} (hv : v = wa c i j) : Mix (up3 w' c i j v) w wa := by
  intro c' i' j'
  simp only [up3]
  split
  · rename_i hc
    obtain ⟨rfl, rfl, rfl⟩ := hc
    exact Or.inl hv
  · exact h c' i' j'
theorem Mix.trans {w2 w1 w0 wa : NW} (h2 : Mix w2 w1 wa) (h1 : Mix w1 w0 wa) : Mix w2 w0 wa := fun c i j => (h2 c i j).elim Or.inl (fun e => (h1 c i j).elim (fun e' => Or.inl (e.trans e')) (fun e' => Or.inr (e.trans e')))
theorem Mix.keep {w' w wa : NW} (h : Mix w' w wa) {c i j : Nat} (e : w c i j = wa c i j) : w' c i j = wa c i j := (h c i j).elim id (fun e' => e'.trans e)
/-- a row of N numbers is copied -/
theorem c_rowL {σ : SG} {b x y N c i o : Nat} {V : Nat → Int32} (hN : N < 1000) (lx : ∀ w, sLen (some x) (ovr σ b w) = some (nI N)) (ly : ∀ w, sLen (some y) (ovr σ b w) = some (nI N)) (ld : ∀ w j, j < N → sAld (some x) 1 (nI j) (ovr σ b w) = some (V j)) (st : ∀ w j, j < N → ∀ v, sAst (some y) 1 (nI j) v (ovr σ b w) = some (ovr σ b (up3 w c i (o + j) v))) : ∀ (d k : Nat), k + d = N → ∀ (F : Nat), d < F → ∀ (wa w : NW), (∀ j, j < N → V j = wa c i (o + j)) → (∀ j, j < k → w c i (o + j) = wa c i (o + j)) → ∃ w', m_X8_copyRow_L2 F (some x) (some y) (nI k) (ovr σ b w) = some ((), ovr σ b w') ∧ Mix w' w wa ∧ ∀ j, j < N → w' c i (o + j) = wa c i (o + j) := by
  intro d
  induction d with
  | zero =>
    intro k hk F hF wa w hV hd
    obtain ⟨F, rfl⟩ : ∃ m, F = m + 1 := ⟨F - 1, by omega⟩
    rw [show m_X8_copyRow_L2 (F + 1) = m_X8_copyRow_B2 (m_X8_copyRow_L2 F) from rfl]
    unfold m_X8_copyRow_B2
    simp only [lx, Option.bind_some]
    rw [if_pos (nI_le (by omega) (by omega))]
    exact ⟨w, rfl, Mix_id _ _, fun j hj => hd j (by omega)⟩
  | succ d ih =>
    intro k hk F hF wa w hV hd
    obtain ⟨F, rfl⟩ : ∃ m, F = m + 1 := ⟨F - 1, by omega⟩
    rw [show m_X8_copyRow_L2 (F + 1) = m_X8_copyRow_B2 (m_X8_copyRow_L2 F) from rfl]
    unfold m_X8_copyRow_B2
    have hk' : k < N := by omega
    simp only [lx, ly, ld _ _ hk', st _ _ hk', Option.bind_some, ← nI_succ]
    rw [if_neg (nI_ge (by omega) (by omega)), if_neg (nI_ge (by omega) (by omega))]
    have hm : Mix (up3 w c i (o + k) (V k)) w wa := (Mix_id w wa).up (hV k hk')
    obtain ⟨w', e, m, a⟩ := ih (k + 1) (by omega) F (by omega) wa (up3 w c i (o + k) (V k)) hV (fun j hj => by
      by_cases hjk : j = k
      · subst hjk; rw [up3_eq]; exact hV j hk'
      · exact hm.keep (hd j (by omega)))
    exact ⟨w', e, m.trans hm, a⟩
theorem c_row {σ : SG} {b x y N c i o : Nat} {V : Nat → Int32} (hN : N < 1000) (lx : ∀ w, sLen (some x) (ovr σ b w) = some (nI N)) (ly : ∀ w, sLen (some y) (ovr σ b w) = some (nI N)) (ld : ∀ w j, j < N → sAld (some x) 1 (nI j) (ovr σ b w) = some (V j)) (st : ∀ w j, j < N → ∀ v, sAst (some y) 1 (nI j) v (ovr σ b w) = some (ovr σ b (up3 w c i (o + j) v))) (wa w : NW) (hV : ∀ j, j < N → V j = wa c i (o + j)) : ∃ w', m_X8_copyRow (some x) (some y) (ovr σ b w) = some ((), ovr σ b w') ∧ Mix w' w wa ∧ ∀ j, j < N → w' c i (o + j) = wa c i (o + j) := by
  have h := c_rowL hN lx ly ld st N 0 (by omega) 1000 (by omega) wa w hV (fun j hj => absurd hj (by omega))
  rw [← nI0] at h
  exact h
section CPY
variable {σ : SG} {a b : Nat} {wa : NW}

theorem aT_snd_1 (hA : ∀ w, ovr (ovr σ b w) a wa = ovr σ b w) {i : Nat} (hi : i < 5) (w : NW) : sGetIT (some (sndA a i)) [1, 2, 6] 1 (ovr σ b w) = some (wa 1 i 0) := by
  rw [← hA w]; exact gT_snd_1 hi
theorem aT_snd_2 (hA : ∀ w, ovr (ovr σ b w) a wa = ovr σ b w) {i : Nat} (hi : i < 5) (w : NW) : sGetIT (some (sndA a i)) [1, 2, 6] 2 (ovr σ b w) = some (wa 1 i 1) := by
  rw [← hA w]; exact gT_snd_2 hi
theorem aI_snd_4 (hA : ∀ w, ovr (ovr σ b w) a wa = ovr σ b w) {i : Nat} (hi : i < 5) (w : NW) : sGetI (some (sndA a i)) 6 4 (ovr σ b w) = some (wa 1 i 3) := by
  rw [← hA w]; exact gI_snd_4 hi
theorem aI_snd_5 (hA : ∀ w, ovr (ovr σ b w) a wa = ovr σ b w) {i : Nat} (hi : i < 5) (w : NW) : sGetI (some (sndA a i)) 6 5 (ovr σ b w) = some (wa 1 i 2) := by
  rw [← hA w]; exact gI_snd_5 hi
theorem aI_snd_6 (hA : ∀ w, ovr (ovr σ b w) a wa = ovr σ b w) {i : Nat} (hi : i < 5) (w : NW) : sGetI (some (sndA a i)) 6 6 (ovr σ b w) = some (wa 1 i 4) := by
  rw [← hA w]; exact gI_snd_6 hi
theorem aI_snd_7 (hA : ∀ w, ovr (ovr σ b w) a wa = ovr σ b w) {i : Nat} (hi : i < 5) (w : NW) : sGetI (some (sndA a i)) 6 7 (ovr σ b w) = some (wa 1 i 5) := by
  rw [← hA w]; exact gI_snd_7 hi
theorem aI_snd_8 (hA : ∀ w, ovr (ovr σ b w) a wa = ovr σ b w) {i : Nat} (hi : i < 5) (w : NW) : sGetI (some (sndA a i)) 6 8 (ovr σ b w) = some (wa 1 i 6) := by
  rw [← hA w]; exact gI_snd_8 hi
theorem aI_snd_9 (hA : ∀ w, ovr (ovr σ b w) a wa = ovr σ b w) {i : Nat} (hi : i < 5) (w : NW) : sGetI (some (sndA a i)) 6 9 (ovr σ b w) = some (wa 1 i 7) := by
  rw [← hA w]; exact gI_snd_9 hi
theorem aR_snd_3 (hA : ∀ w, ovr (ovr σ b w) a wa = ovr σ b w) {i : Nat} (hi : i < 5) (w : NW) : sGetR (some (sndA a i)) 6 3 (ovr σ b w) = some (some (queA a i)) := by
  rw [← hA w]; exact gR_snd_3 hi
theorem aL_que (hA : ∀ w, ovr (ovr σ b w) a wa = ovr σ b w) {i : Nat} (hi : i < 5) (w : NW) : sLen (some (queA a i)) (ovr σ b w) = some 6 := by
  rw [← hA w]; exact len_que hi
theorem aA_que (hA : ∀ w, ovr (ovr σ b w) a wa = ovr σ b w) {i : Nat} (hi : i < 5) (w : NW) (j : Nat) (hj : j < 6) : sAld (some (queA a i)) 1 (nI j) (ovr σ b w) = some (wa 1 i (8 + j)) := by
  rw [← hA w]; exact ald_que hi hj
theorem aT_mac_1 (hA : ∀ w, ovr (ovr σ b w) a wa = ovr σ b w) {i : Nat} (hi : i < 4) (w : NW) : sGetIT (some (macA a i)) [1, 2, 6] 1 (ovr σ b w) = some (wa 2 i 0) := by
  rw [← hA w]; exact gT_mac_1 hi
theorem aT_mac_2 (hA : ∀ w, ovr (ovr σ b w) a wa = ovr σ b w) {i : Nat} (hi : i < 4) (w : NW) : sGetIT (some (macA a i)) [1, 2, 6] 2 (ovr σ b w) = some (wa 2 i 1) := by
  rw [← hA w]; exact gT_mac_2 hi
theorem aI_mac_3 (hA : ∀ w, ovr (ovr σ b w) a wa = ovr σ b w) {i : Nat} (hi : i < 4) (w : NW) : sGetI (some (macA a i)) 2 3 (ovr σ b w) = some (wa 2 i 2) := by
  rw [← hA w]; exact gI_mac_3 hi
theorem aI_mac_4 (hA : ∀ w, ovr (ovr σ b w) a wa = ovr σ b w) {i : Nat} (hi : i < 4) (w : NW) : sGetI (some (macA a i)) 2 4 (ovr σ b w) = some (wa 2 i 3) := by
  rw [← hA w]; exact gI_mac_4 hi
theorem aI_mac_5 (hA : ∀ w, ovr (ovr σ b w) a wa = ovr σ b w) {i : Nat} (hi : i < 4) (w : NW) : sGetI (some (macA a i)) 2 5 (ovr σ b w) = some (wa 2 i 4) := by
  rw [← hA w]; exact gI_mac_5 hi
theorem aT_lam_1 (hA : ∀ w, ovr (ovr σ b w) a wa = ovr σ b w) {i : Nat} (hi : i < 8) (w : NW) : sGetIT (some (lamA a i)) [1, 2, 6] 1 (ovr σ b w) = some (wa 3 i 0) := by
  rw [← hA w]; exact gT_lam_1 hi
theorem aT_lam_2 (hA : ∀ w, ovr (ovr σ b w) a wa = ovr σ b w) {i : Nat} (hi : i < 8) (w : NW) : sGetIT (some (lamA a i)) [1, 2, 6] 2 (ovr σ b w) = some (wa 3 i 1) := by
  rw [← hA w]; exact gT_lam_2 hi
theorem aI_lam_3 (hA : ∀ w, ovr (ovr σ b w) a wa = ovr σ b w) {i : Nat} (hi : i < 8) (w : NW) : sGetI (some (lamA a i)) 1 3 (ovr σ b w) = some (wa 3 i 2) := by
  rw [← hA w]; exact gI_lam_3 hi
theorem aI_lam_4 (hA : ∀ w, ovr (ovr σ b w) a wa = ovr σ b w) {i : Nat} (hi : i < 8) (w : NW) : sGetI (some (lamA a i)) 1 4 (ovr σ b w) = some (wa 3 i 3) := by
  rw [← hA w]; exact gI_lam_4 hi
theorem aI_lam_5 (hA : ∀ w, ovr (ovr σ b w) a wa = ovr σ b w) {i : Nat} (hi : i < 8) (w : NW) : sGetI (some (lamA a i)) 1 5 (ovr σ b w) = some (wa 3 i 4) := by
  rw [← hA w]; exact gI_lam_5 hi
theorem aI_lam_6 (hA : ∀ w, ovr (ovr σ b w) a wa = ovr σ b w) {i : Nat} (hi : i < 8) (w : NW) : sGetI (some (lamA a i)) 1 6 (ovr σ b w) = some (wa 3 i 5) := by
  rw [← hA w]; exact gI_lam_6 hi
theorem aI_rcv_0 (hA : ∀ w, ovr (ovr σ b w) a wa = ovr σ b w) {i : Nat} (hi : i < 6) (w : NW) : sGetI (some (rcvA a i)) 4 0 (ovr σ b w) = some (wa 4 i 0) := by
  rw [← hA w]; exact gI_rcv_0 hi
theorem aI_rcv_1 (hA : ∀ w, ovr (ovr σ b w) a wa = ovr σ b w) {i : Nat} (hi : i < 6) (w : NW) : sGetI (some (rcvA a i)) 4 1 (ovr σ b w) = some (wa 4 i 1) := by
  rw [← hA w]; exact gI_rcv_1 hi
theorem aI_rcv_2 (hA : ∀ w, ovr (ovr σ b w) a wa = ovr σ b w) {i : Nat} (hi : i < 6) (w : NW) : sGetI (some (rcvA a i)) 4 2 (ovr σ b w) = some (wa 4 i 2) := by
  rw [← hA w]; exact gI_rcv_2 hi
theorem aI_rcv_3 (hA : ∀ w, ovr (ovr σ b w) a wa = ovr σ b w) {i : Nat} (hi : i < 6) (w : NW) : sGetI (some (rcvA a i)) 4 3 (ovr σ b w) = some (wa 4 i 3) := by
  rw [← hA w]; exact gI_rcv_3 hi
theorem aI_rcv_4 (hA : ∀ w, ovr (ovr σ b w) a wa = ovr σ b w) {i : Nat} (hi : i < 6) (w : NW) : sGetI (some (rcvA a i)) 4 4 (ovr σ b w) = some (wa 4 i 4) := by
  rw [← hA w]; exact gI_rcv_4 hi
theorem aI_rcv_5 (hA : ∀ w, ovr (ovr σ b w) a wa = ovr σ b w) {i : Nat} (hi : i < 6) (w : NW) : sGetI (some (rcvA a i)) 4 5 (ovr σ b w) = some (wa 4 i 5) := by
  rw [← hA w]; exact gI_rcv_5 hi
theorem aI_rcv_6 (hA : ∀ w, ovr (ovr σ b w) a wa = ovr σ b w) {i : Nat} (hi : i < 6) (w : NW) : sGetI (some (rcvA a i)) 4 6 (ovr σ b w) = some (wa 4 i 6) := by
  rw [← hA w]; exact gI_rcv_6 hi
theorem aR_net_0 (hA : ∀ w, ovr (ovr σ b w) a wa = ovr σ b w) (w : NW) : sGetR (some a) 3 0 (ovr σ b w) = some (some (a + 1)) := by
  rw [← hA w]; exact gR_net_0
theorem aR_net_1 (hA : ∀ w, ovr (ovr σ b w) a wa = ovr σ b w) (w : NW) : sGetR (some a) 3 1 (ovr σ b w) = some (some (a + 2)) := by
  rw [← hA w]; exact gR_net_1
theorem aR_net_2 (hA : ∀ w, ovr (ovr σ b w) a wa = ovr σ b w) (w : NW) : sGetR (some a) 3 2 (ovr σ b w) = some (some (a + 3)) := by
  rw [← hA w]; exact gR_net_2
theorem aR_net_3 (hA : ∀ w, ovr (ovr σ b w) a wa = ovr σ b w) (w : NW) : sGetR (some a) 3 3 (ovr σ b w) = some (some (a + 4)) := by
  rw [← hA w]; exact gR_net_3
theorem aR_net_4 (hA : ∀ w, ovr (ovr σ b w) a wa = ovr σ b w) (w : NW) : sGetR (some a) 3 4 (ovr σ b w) = some (some (a + 5)) := by
  rw [← hA w]; exact gR_net_4
theorem aR_net_5 (hA : ∀ w, ovr (ovr σ b w) a wa = ovr σ b w) (w : NW) : sGetR (some a) 3 5 (ovr σ b w) = some (some (a + 6)) := by
  rw [← hA w]; exact gR_net_5
theorem aI_net_6 (hA : ∀ w, ovr (ovr σ b w) a wa = ovr σ b w) (w : NW) : sGetI (some a) 3 6 (ovr σ b w) = some (wa 0 0 0) := by
  rw [← hA w]; exact gI_net_6
theorem aA_1 (hA : ∀ w, ovr (ovr σ b w) a wa = ovr σ b w) {i : Nat} (hi : i < 5) (w : NW) : sAldR (some (a + 1)) (nI i) (ovr σ b w) = some (some (sndA a i)) := by
  rw [← hA w]; exact ald_1 hi
theorem aA_2 (hA : ∀ w, ovr (ovr σ b w) a wa = ovr σ b w) {i : Nat} (hi : i < 4) (w : NW) : sAldR (some (a + 2)) (nI i) (ovr σ b w) = some (some (macA a i)) := by
  rw [← hA w]; exact ald_2 hi
theorem aA_3 (hA : ∀ w, ovr (ovr σ b w) a wa = ovr σ b w) {i : Nat} (hi : i < 8) (w : NW) : sAldR (some (a + 3)) (nI i) (ovr σ b w) = some (some (lamA a i)) := by
  rw [← hA w]; exact ald_3 hi
theorem aA_4 (hA : ∀ w, ovr (ovr σ b w) a wa = ovr σ b w) {i : Nat} (hi : i < 6) (w : NW) : sAldR (some (a + 4)) (nI i) (ovr σ b w) = some (some (rcvA a i)) := by
  rw [← hA w]; exact ald_4 hi
theorem aL_1 (hA : ∀ w, ovr (ovr σ b w) a wa = ovr σ b w) (w : NW) : sLen (some (a + 1)) (ovr σ b w) = some 5 := by
  rw [← hA w]; exact len_1
theorem aL_2 (hA : ∀ w, ovr (ovr σ b w) a wa = ovr σ b w) (w : NW) : sLen (some (a + 2)) (ovr σ b w) = some 4 := by
  rw [← hA w]; exact len_2
theorem aL_3 (hA : ∀ w, ovr (ovr σ b w) a wa = ovr σ b w) (w : NW) : sLen (some (a + 3)) (ovr σ b w) = some 8 := by
  rw [← hA w]; exact len_3
theorem aL_4 (hA : ∀ w, ovr (ovr σ b w) a wa = ovr σ b w) (w : NW) : sLen (some (a + 4)) (ovr σ b w) = some 6 := by
  rw [← hA w]; exact len_4
theorem aL_5 (hA : ∀ w, ovr (ovr σ b w) a wa = ovr σ b w) (w : NW) : sLen (some (a + 5)) (ovr σ b w) = some 4 := by
  rw [← hA w]; exact len_5
theorem aL_6 (hA : ∀ w, ovr (ovr σ b w) a wa = ovr σ b w) (w : NW) : sLen (some (a + 6)) (ovr σ b w) = some 5 := by
  rw [← hA w]; exact len_6
theorem aA_5 (hA : ∀ w, ovr (ovr σ b w) a wa = ovr σ b w) (w : NW) (j : Nat) (hj : j < 4) : sAld (some (a + 5)) 1 (nI j) (ovr σ b w) = some (wa 6 0 j) := by
  rw [← hA w]; exact ald_5 hj
theorem aA_6 (hA : ∀ w, ovr (ovr σ b w) a wa = ovr σ b w) (w : NW) (j : Nat) (hj : j < 5) : sAld (some (a + 6)) 1 (nI j) (ovr σ b w) = some (wa 7 0 j) := by
  rw [← hA w]; exact ald_6 hj
theorem c_copy_snd (hA : ∀ w, ovr (ovr σ b w) a wa = ovr σ b w) {i : Nat} (hi : i < 5) (z0 : b01 (wa 1 i 0)) (z4 : b01 (wa 1 i 4)) (w : NW) : ∃ w', m_X6_copyFrom (some (sndA b i)) (some (sndA a i)) (ovr σ b w) = some ((), ovr σ b w') ∧ Mix w' w wa ∧ ∀ j, j < 14 → w' 1 i j = wa 1 i j := by
  obtain ⟨w1, e1, m1, q1⟩ := c_row (σ := σ) (b := b) (x := queA a i) (y := queA b i) (N := 6) (c := 1) (i := i) (o := 8) (V := fun j => wa 1 i (8 + j)) (by decide) (aL_que hA hi) (fun _ => len_que hi) (aA_que hA hi) (fun w j hj v => ast_que hi hj v) wa (up3 (up3 w 1 i 0 (wa 1 i 0)) 1 i 1 (wa 1 i 1)) (fun _ _ => rfl)
  refine ⟨_, by
    unfold m_X6_copyFrom m_X7_copyThing
    simp only [ob_snd hi, aR_snd_3 hA hi, gR_snd_3 hi, e1, aT_snd_1 hA hi, aT_snd_2 hA hi, pZT_snd_1 hi _ z0, pIT_snd_2 hi, aI_snd_4 hA hi, pI_snd_4 hi, aI_snd_5 hA hi, pI_snd_5 hi, aI_snd_6 hA hi, pZ_snd_6 hi _ z4, aI_snd_7 hA hi, pI_snd_7 hi, aI_snd_8 hA hi, pI_snd_8 hi, aI_snd_9 hA hi, pI_snd_9 hi, Option.bind_some, bnd_some]
    rfl, ?_, ?_⟩
  · have m0 : Mix (up3 (up3 w 1 i 0 (wa 1 i 0)) 1 i 1 (wa 1 i 1)) w wa := ((Mix_id _ _).up rfl).up rfl
    exact (((((((m1.trans m0).up rfl).up rfl).up rfl).up rfl).up rfl).up rfl)
  · have m2 : Mix (up3 (up3 (up3 (up3 (up3 (up3 w1 1 i 3 (wa 1 i 3)) 1 i 2 (wa 1 i 2)) 1 i 4 (wa 1 i 4)) 1 i 5 (wa 1 i 5)) 1 i 6 (wa 1 i 6)) 1 i 7 (wa 1 i 7)) w1 wa := (((((((Mix_id _ _).up rfl).up rfl).up rfl).up rfl).up rfl).up rfl)
    intro j hj
    by_cases h8 : 8 ≤ j
    · obtain ⟨k, rfl⟩ : ∃ k, j = 8 + k := ⟨j - 8, by omega⟩
      exact m2.keep (q1 k (by omega))
    · have hj : j = 0 ∨ j = 1 ∨ j = 2 ∨ j = 3 ∨ j = 4 ∨ j = 5 ∨ j = 6 ∨ j = 7 := by omega
      have e0 : w1 1 i 0 = wa 1 i 0 := m1.keep (by simp [up3])
      have e1' : w1 1 i 1 = wa 1 i 1 := m1.keep (by simp [up3])
      rcases hj with rfl | rfl | rfl | rfl | rfl | rfl | rfl | rfl <;> simp [up3, e0, e1']
theorem c_copy_mac (hA : ∀ w, ovr (ovr σ b w) a wa = ovr σ b w) {i : Nat} (hi : i < 4) (z0 : b01 (wa 2 i 0)) (z4 : b01 (wa 2 i 4)) (w : NW) : ∃ w', m_X2_copyFrom (some (macA b i)) (some (macA a i)) (ovr σ b w) = some ((), ovr σ b w') ∧ Mix w' w wa ∧ ∀ j, j < 5 → w' 2 i j = wa 2 i j := by
  refine ⟨_, by
    unfold m_X2_copyFrom m_X7_copyThing
    simp only [ob_mac hi, aT_mac_1 hA hi, aT_mac_2 hA hi, pZT_mac_1 hi _ z0, pIT_mac_2 hi, aI_mac_3 hA hi, pI_mac_3 hi, aI_mac_4 hA hi, pI_mac_4 hi, aI_mac_5 hA hi, pZ_mac_5 hi _ z4, Option.bind_some, bnd_some]
    rfl, ?_, ?_⟩
  · exact ((((((Mix_id _ _).up rfl).up rfl).up rfl).up rfl).up rfl)
  · intro j hj
    have hj : j = 0 ∨ j = 1 ∨ j = 2 ∨ j = 3 ∨ j = 4 := by omega
    rcases hj with rfl | rfl | rfl | rfl | rfl <;> simp [up3]
theorem c_copy_lam (hA : ∀ w, ovr (ovr σ b w) a wa = ovr σ b w) {i : Nat} (hi : i < 8) (z0 : b01 (wa 3 i 0)) (z5 : b01 (wa 3 i 5)) (w : NW) : ∃ w', m_X1_copyFrom (some (lamA b i)) (some (lamA a i)) (ovr σ b w) = some ((), ovr σ b w') ∧ Mix w' w wa ∧ ∀ j, j < 6 → w' 3 i j = wa 3 i j := by
  refine ⟨_, by
    unfold m_X1_copyFrom m_X7_copyThing
    simp only [ob_lam hi, aT_lam_1 hA hi, aT_lam_2 hA hi, pZT_lam_1 hi _ z0, pIT_lam_2 hi, aI_lam_3 hA hi, pI_lam_3 hi, aI_lam_4 hA hi, pI_lam_4 hi, aI_lam_5 hA hi, pI_lam_5 hi, aI_lam_6 hA hi, pZ_lam_6 hi _ z5, Option.bind_some, bnd_some]
    rfl, ?_, ?_⟩
  · exact (((((((Mix_id _ _).up rfl).up rfl).up rfl).up rfl).up rfl).up rfl)
  · intro j hj
    have hj : j = 0 ∨ j = 1 ∨ j = 2 ∨ j = 3 ∨ j = 4 ∨ j = 5 := by omega
    rcases hj with rfl | rfl | rfl | rfl | rfl | rfl <;> simp [up3]
theorem c_copy_rcv (hA : ∀ w, ovr (ovr σ b w) a wa = ovr σ b w) {i : Nat} (hi : i < 6) (z0 : b01 (wa 4 i 0)) (w : NW) : ∃ w', m_X4_copyFrom (some (rcvA b i)) (some (rcvA a i)) (ovr σ b w) = some ((), ovr σ b w') ∧ Mix w' w wa ∧ ∀ j, j < 7 → w' 4 i j = wa 4 i j := by
  refine ⟨_, by
    unfold m_X4_copyFrom
    simp only [aI_rcv_0 hA hi, pZ_rcv_0 hi _ z0, aI_rcv_1 hA hi, pI_rcv_1 hi, aI_rcv_2 hA hi, pI_rcv_2 hi, aI_rcv_3 hA hi, pI_rcv_3 hi, aI_rcv_4 hA hi, pI_rcv_4 hi, aI_rcv_5 hA hi, pI_rcv_5 hi, aI_rcv_6 hA hi, pI_rcv_6 hi, Option.bind_some, bnd_some]
    rfl, ?_, ?_⟩
  · exact ((((((((Mix_id _ _).up rfl).up rfl).up rfl).up rfl).up rfl).up rfl).up rfl)
  · intro j hj
    have hj : j = 0 ∨ j = 1 ∨ j = 2 ∨ j = 3 ∨ j = 4 ∨ j = 5 ∨ j = 6 := by omega
    rcases hj with rfl | rfl | rfl | rfl | rfl | rfl | rfl <;> simp [up3]
end CPY

