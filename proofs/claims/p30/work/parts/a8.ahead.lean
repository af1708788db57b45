/-! LEVEL 2: what would be: silentIn, levelIn; freshness -/
section AHD
variable {z0 : Nat} {σ : SG} {W : Nat → NW} {P : Nat → Nat} {kp : Nat} {h : Int32} {g w : NW} {M : Nat}
def qs (g : NW) : Int32 := sm (fS g 5) 5 0 0
theorem sm_nn {f : Nat → Int32} (hf : ∀ k, k < 5 → ∃ q, q ≤ 6 ∧ f k = nI q) : ∀ d k m0, k + d ≤ 5 → ∃ m, m ≤ m0 + 6 * d ∧ sm f d k (nI m0) = nI m
  | 0, k, m0, _ => ⟨m0, by omega, rfl⟩
  | d + 1, k, m0, hk => by
    obtain ⟨q, hq, e⟩ := hf k (by omega)
    obtain ⟨m, hm, e2⟩ := sm_nn hf d (k + 1) (m0 + q) (by omega)
    refine ⟨m, by omega, ?_⟩
    unfold sm
    rw [e, nI_add]
    exact e2
theorem qs_nn (hI : Inv g) : ∃ m, m ≤ 30 ∧ qs g = nI m := by
  obtain ⟨m, hm, e⟩ := sm_nn (f := fS g 5) (fun k hk => by
    unfold fS
    by_cases hp : g 1 k 0 = 1
    · obtain ⟨-, ⟨q, hq6, hq, -⟩, -⟩ := (hI.1 k hk).2.2 hp
      refine ⟨q, hq6, ?_⟩
      rw [if_pos hp, if_neg (by decide), if_neg (by decide), hq]
    · exact ⟨0, by omega, by rw [if_neg hp]; rfl⟩) 5 0 0 (by omega)
  exact ⟨m, by omega, e⟩
def silV (g : NW) : Nat → Nat → Int32
  | 0, _ => -5
  | d + 1, k => if qs g = 0 then nI k else silV (beatG g) d (k + 1)
theorem c_silL {n : Nat} (e1 : ∀ w, sGetR (some z0) 7 1 (ovr σ n w) = some (some n)) : ∀ (d k : Nat), k + d = 601 → ∀ (F : Nat), d < F → ∀ (g w : NW), Rel g w → Inv g → ∃ w', m_X8_silentIn_L13 F (some z0) (nI k) (ovr σ n w) = some (silV g d k, ovr σ n w') := by
  intro d
  induction d with
  | zero =>
    intro k hk F hF g w hR hI
    obtain ⟨F, rfl⟩ : ∃ m, F = m + 1 := ⟨F - 1, by omega⟩
    rw [show m_X8_silentIn_L13 (F + 1) = m_X8_silentIn_B13 (m_X8_silentIn_L13 F) from rfl]
    unfold m_X8_silentIn_B13
    rw [if_pos (show (600 : Int32) < nI k from nI_lt (a := 600) (by omega) (by omega))]
    exact ⟨w, rfl⟩
  | succ d ih =>
    intro k hk F hF g w hR hI
    obtain ⟨F, rfl⟩ : ∃ m, F = m + 1 := ⟨F - 1, by omega⟩
    rw [show m_X8_silentIn_L13 (F + 1) = m_X8_silentIn_B13 (m_X8_silentIn_L13 F) from rfl]
    unfold m_X8_silentIn_B13
    rw [if_neg (show ¬ (600 : Int32) < nI k from nI_nlt (a := 600) (by omega) (by decide))]
    have eq : sm (fun k => if w 1 k 0 = 0 then 0 else w 1 k 3) 5 0 0 = qs g := que_eq hR hI
    simp only [e1, ob_net, c_que, eq, Option.bind_some, bnd_some]
    by_cases h0 : qs g = 0
    · rw [if_pos h0]
      exact ⟨w, by rw [show silV g (d + 1) k = nI k from if_pos h0]⟩
    · rw [if_neg h0]
      obtain ⟨w1, e, h1, h2, -⟩ := c_beat (σ := σ) (n := n) hR hI
      obtain ⟨w', e2⟩ := ih (k + 1) (by omega) F (by omega) (beatG g) w1 h2 (Inv_beat hI)
      simp only [e1, ob_net, h1, Option.bind_some, bnd_some, ← nI_succ, e2]
      exact ⟨w', by rw [show silV g (d + 1) k = silV (beatG g) d (k + 1) from if_neg h0]⟩
/-! a lamp stays there while beats pass -/
theorem lmp1_30 (g : NW) (a l c f : Int32) (k i : Nat) : lmp1 g a l c f k 3 i 0 = g 3 i 0 := by
  have e : ∀ (G : NW) (j : Nat) (v : Int32), j ≠ 0 → up3 G 3 k j v 3 i 0 = G 3 i 0 := fun G j v hj => if_neg (fun e => hj e.2.2.symm)
  unfold lmp1
  split
  · split
    · split
      · exact e _ _ _ (by decide)
      · split
        · exact e _ _ _ (by decide)
        · rfl
    · exact e _ _ _ (by decide)
  · rfl
theorem lmpN_30 (g : NW) (a l c f : Int32) (i : Nat) : ∀ n, lmpN g a l c f n 3 i 0 = g 3 i 0
  | 0 => rfl
  | n + 1 => by rw [show lmpN g a l c f (n + 1) = lmp1 (lmpN g a l c f n) a l c f n from rfl, lmp1_30, lmpN_30 g a l c f i n]
theorem lisG_3 (g : NW) (a i j : Nat) : lisG g a 3 i j = g 3 i j := by
  unfold lisG
  rw [up3_c (by decide), up3_c (by decide), up3_c (by decide), up3_c (by decide)]
theorem tak1_30 (h : Nat → Int32) (g : NW) (a i : Nat) : tak1 h g a 3 i 0 = g 3 i 0 := by
  unfold tak1
  split
  · rw [up3_c (by decide), up3_c (by decide)]
  · split
    · rw [lisG_3, up3_c (by decide), up3_c (by decide), up3_c (by decide)]
    · split
      · rw [lisG_3]
        unfold telG
        split
        · rw [up3_c (by decide), up3_c (by decide), up3_c (by decide), up3_c (by decide)]
        · rw [up3_c (by decide)]
          unfold actG
          rw [up3_c (by decide), lmpN_30, up3_c (by decide), up3_c (by decide), up3_c (by decide), up3_c (by decide)]
      · rw [up3_c (by decide), up3_c (by decide)]
theorem takN_30 (h : Nat → Int32) (g : NW) (i : Nat) : ∀ k, takN h g k 3 i 0 = g 3 i 0
  | 0 => rfl
  | k + 1 => by rw [show takN h g (k + 1) = tak1 h (takN h g k) k from rfl, tak1_30, takN_30 h g i k]
theorem beatG_30 (g : NW) (i : Nat) : beatG g 3 i 0 = g 3 i 0 := by
  unfold beatG
  rw [up3_c (by decide), takN_30, movN_c _ _ (by decide) (by decide), bgn_c _ (by decide)]
theorem itb_30 : ∀ (d : Nat) (g : NW) (i : Nat), itb d g 3 i 0 = g 3 i 0
  | 0, _, _ => rfl
  | d + 1, g, i => by rw [show itb (d + 1) g = itb d (beatG g) from rfl, itb_30 d _ i, beatG_30]
end AHD


