/-! LEVEL 2: the text, sixth: perform -/
/-- how many orders are carried out, and what the numbers are then -/
def EX : List (Int32 × Int32) → NW → Nat → NW → Prop
  | [], g, n, g' => n = 0 ∧ g' = g
  | o :: os, g, n, g' => (o.1 = 9 ∧ ∃ N m, 1 ≤ N ∧ N ≤ 99 ∧ o.2 = nI N ∧ n = m + 1 ∧ EX os (itb N g) m g') ∨
    (o.1 ≠ 9 ∧ ((∃ v, ¬ 0 ≤ v ∧ (∀ σ M r, m_X9_says (some M) o.1 o.2 (ovs σ M r g) = some (v, ovs σ M r g)) ∧ n = 0 ∧ g' = g) ∨
      ∃ g1 t m, 0 ≤ t ∧ (∀ σ M r, m_X9_says (some M) o.1 o.2 (ovs σ M r g) = some (t, ovs σ M r g1)) ∧ Inv g1 ∧ n = m + 1 ∧ EX os g1 m g'))
section PRF
variable {z0 : Nat} {σ : SG} {M : Nat}
theorem q_perf0 {F : Nat} (hF : 0 < F) (x : Int32) (τ : SG) : m_X9_perform_L22 F (some M) x 0 τ = m_X9_perform_b114 (some M) x τ := by
  obtain ⟨F, rfl⟩ : ∃ m, F = m + 1 := ⟨F - 1, by omega⟩
  rw [show m_X9_perform_L22 (F + 1) = m_X9_perform_B22 (m_X9_perform_L22 F) from rfl]
  unfold m_X9_perform_B22
  rw [if_pos rfl]
theorem q_perfL : ∀ (os' os : List (Int32 × Int32)) (k : Nat) (F : Nat) (g g' : NW) (n : Nat) (r : RW), EX os' g n g' → Inv g → os.length ≤ 40 → k + os'.length = os.length → (∀ j, os'[j]? = os[k + j]?) → r 0 13 = nI os.length → (∀ j o, os[j]? = some o → r 9 (2 * j) = o.1 ∧ r 9 (2 * j + 1) = o.2) → os'.length + 1 < F →
    ∃ r', RK r' r ∧ m_X9_perform_L22 F (some M) (nI k) 1 (ovs σ M r g) = m_X9_perform_b114 (some M) (nI (k + n)) (ovs σ M r' g') := by
  intro os'
  induction os' with
  | nil =>
    intro os k F g g' n r hx hI h40 hl hj h13 h9 hF
    obtain ⟨rfl, rfl⟩ := hx
    obtain ⟨F, rfl⟩ : ∃ m, F = m + 1 := ⟨F - 1, by omega⟩
    refine ⟨r, RK.refl r, ?_⟩
    rw [show m_X9_perform_L22 (F + 1) = m_X9_perform_B22 (m_X9_perform_L22 F) from rfl]
    unfold m_X9_perform_B22
    rw [if_neg one_ne]
    simp only [gI_s_13, h13, Option.bind_some]
    have : k = os.length := by simpa using hl
    rw [if_pos (nI_le (by omega) (by omega))]
    rfl
  | cons o os' ih =>
    intro os k F g g' n r hx hI h40 hl hj h13 h9 hF
    obtain ⟨F, rfl⟩ : ∃ m, F = m + 1 := ⟨F - 1, by omega⟩
    have hlen : (o :: os').length = os'.length + 1 := rfl
    rw [hlen] at hl hF
    have h0 : os[k]? = some o := by
      have := hj 0
      simpa using this.symm
    obtain ⟨r1, r2⟩ := h9 k o h0
    have m2 : (2 : Int32) * nI k = nI (2 * k) := by rw [show (2 : Int32) = nI 2 from rfl, nI_mul]
    have hj' : ∀ j, os'[j]? = os[k + 1 + j]? := fun j => by
      have := hj (j + 1)
      rw [show k + (j + 1) = k + 1 + j by omega] at this
      simpa using this
    rw [show m_X9_perform_L22 (F + 1) = m_X9_perform_B22 (m_X9_perform_L22 F) from rfl]
    unfold m_X9_perform_B22 m_X9_perform_b86 m_X9_perform_b98 m_X9_perform_b109
    rw [if_neg one_ne]
    simp only [gI_s_13, h13, Option.bind_some]
    rw [if_neg (nI_ge (by omega) (by omega))]
    simp only [gR_s_8, m2, ← nI_succ, sld_9 (show 2 * k < 82 by omega), sld_9 (show 2 * k + 1 < 82 by omega), r1, r2, ob_s, Option.bind_some]
    rcases hx with ⟨e9, N, m, hN1, hN2, eN, rfl, hx⟩ | ⟨e9, ⟨v, hv, es, rfl, rfl⟩ | ⟨g1, t, m, ht, es, hI1, rfl, hx⟩⟩
    · rw [if_pos e9]
      obtain ⟨q, hq, et⟩ := itb_72 N g
      obtain ⟨r3, e3, k3⟩ := q_passes (σ := σ) (M := M) (r := r) hN1 hN2 hI et
      obtain ⟨r4, k4, e4⟩ := ih os (k + 1) F (itb N g) g' m r3 hx (Inv_itb N g hI) h40 (by omega) hj' (by rw [k3 0 13 (by decide) (by decide) (by decide)]; exact h13) (fun j o ho => by
        rw [k3 9 _ (by decide) (by decide) (by decide), k3 9 _ (by decide) (by decide) (by decide)]
        exact h9 j o ho) (by omega)
      refine ⟨r4, k4.trans k3, ?_⟩
      rw [eN, e3]
      simp only [bnd_some]
      rw [if_neg (nI_pos (by omega)), if_neg one_ne, e4, show k + 1 + m = k + (m + 1) by omega]
    · rw [if_neg e9, es]
      simp only [bnd_some]
      rw [if_pos (Int32.not_le.mp hv), if_pos trivial, Int32.add_zero, q_perf0 (by omega)]
      exact ⟨r, RK.refl r, rfl⟩
    · rw [if_neg e9, es]
      simp only [bnd_some]
      obtain ⟨r4, k4, e4⟩ := ih os (k + 1) F g1 g' m r hx hI1 h40 (by omega) hj' h13 h9 (by omega)
      refine ⟨r4, k4, ?_⟩
      rw [if_neg (Int32.not_lt.mpr ht), if_neg one_ne, e4, show k + 1 + m = k + (m + 1) by omega]
end PRF
