/-! p30: the law's areReceivers answers true -/
theorem ff_cmp {x : UInt32} (h : x &&& 0x7fffffff ≤ 0x7f800000) : Op.cmpValue (FP.fcmp x x) .l = 0 := by
  have hc : ∀ a : Int, compare a a = Ordering.eq := fun a => by simp [compare, compareOfLessAndEq]
  have e : FP.fcmp x x = some .eq := by
    show FP.Core.order (FP.Core.decode FP.Core.b32 x.toNat) (FP.Core.decode FP.Core.b32 x.toNat) = some .eq
    rcases fd_dec32 (fd_m32 h) with ⟨s, e⟩ | ⟨s, c, q, e⟩ <;> rw [e]
    · exact congrArg some (hc _)
    · exact congrArg some (hc _)
  rw [e]
  rfl
theorem nI_subt {a b : Nat} (h : b ≤ a) : nI a - nI b = nI (a - b) := by
  obtain ⟨e, rfl⟩ : ∃ e, a = e + b := ⟨a - b, by omega⟩
  rw [← nI_add, Int32.add_sub_cancel, Nat.add_sub_cancel]
theorem chk1s (σ : SG) : chkZ 1 σ = some (1, σ) := rfl
theorem CG.rcv {z0 : Nat} {σ : SG} {g : NW} (C : CG z0 σ g) {i : Nat} (hi : i < 6) : (g 4 i 0 = 1 → ∃ m, m ≤ 9 ∧ g 4 i 2 = nI m) ∧ (g 4 i 4 = 0 ∨ ∃ u, u < 32 ∧ g 4 i 4 = nI (u + 1)) := by
  obtain ⟨W, P, kp, h, H, hR, hI⟩ := C
  obtain ⟨-, -, r2, r4, -⟩ := hR.2 i hi
  refine ⟨fun hr => ?_, ?_⟩
  · obtain ⟨-, mm, uu, h9, e, -⟩ := r2 hr
    exact ⟨mm, h9, e⟩
  · rcases r4 with ⟨e1, -⟩ | ⟨u, hu, e1, -⟩
    · exact Or.inl e1
    · exact Or.inr ⟨u, hu, e1⟩
theorem lossG_symm (g : NW) (a b : Int32) : lossG g a b = lossG g b a := by
  unfold lossG
  simp only [eq_comm (a := a - a / 3 * 3), eq_comm (a := a / 3)]
section LRCV
variable {z0 T : Nat} {σ : SG} {g : NW}
theorem E_lossL (C : CG z0 σ g) {i : Nat} (hi : i < 6) (rec4 : Option Nat → Int32 → Int32 → SG → Option (Int32 × SG)) : ∀ (d j : Nat), j + d = 6 → ∀ (F : Nat), d < F → m_L_areReceivers_L164 rec4 F (some z0) 1 (nI i) (nI j) σ = rec4 (some z0) 1 (nI (i + 1)) σ := by
  intro d
  induction d with
  | zero =>
    intro j hj F hF
    obtain ⟨F, rfl⟩ : ∃ m, F = m + 1 := ⟨F - 1, by omega⟩
    rw [show m_L_areReceivers_L164 rec4 (F + 1) = m_L_areReceivers_B164 rec4 (m_L_areReceivers_L164 rec4 F) from rfl]
    unfold m_L_areReceivers_B164 m_L_areReceivers_b254
    obtain rfl : j = 6 := by omega
    rw [if_pos (show (6 : Int32) ≤ nI 6 by decide), ← nI_succ]
  | succ d ih =>
    intro j hj F hF
    obtain ⟨F, rfl⟩ : ∃ m, F = m + 1 := ⟨F - 1, by omega⟩
    rw [show m_L_areReceivers_L164 rec4 (F + 1) = m_L_areReceivers_B164 rec4 (m_L_areReceivers_L164 rec4 F) from rfl]
    have hj6 : j < 6 := by omega
    have last : ∀ s0 s1 : Int32, lossG g (nI i) (nI j) = s0 + s1 → m_L_areReceivers_b215 rec4 (m_L_areReceivers_L164 rec4 F) (some z0) (nI i) (nI j) s0 s1 σ = rec4 (some z0) 1 (nI (i + 1)) σ := by
      intro s0 s1 e
      unfold m_L_areReceivers_b215 m_L_areReceivers_b247
      simp only [C.oX, C_loss C hi hj6, C_loss C hj6 hi, lossG_symm g (nI j) (nI i), e, Option.bind_some, bnd_some, if_true, ← nI_succ]
      exact ih (j + 1) (by omega) F (by omega)
    have mid : ∀ s0 : Int32, (∀ s1 : Int32, s1 = (if nI i / 3 = nI j / 3 then 0 else g 6 0 1) → lossG g (nI i) (nI j) = s0 + s1) → m_L_areReceivers_b195 rec4 (m_L_areReceivers_L164 rec4 F) (some z0) (nI i) (nI j) s0 σ = rec4 (some z0) 1 (nI (i + 1)) σ := by
      intro s0 e
      unfold m_L_areReceivers_b195
      simp only [three_ne, if_false]
      split
      next h3 => exact last _ _ (e _ (if_pos h3).symm)
      next h3 =>
        simp only [C.oX, C_count_8 C, Option.bind_some, bnd_some]
        exact last _ _ (e _ (if_neg h3).symm)
    unfold m_L_areReceivers_B164
    rw [if_neg (show ¬ (6 : Int32) ≤ nI j from nI_ge (b := 6) hj6 (by decide)), if_neg one_ne]
    simp only [three_ne, if_false]
    split
    next h3 =>
      refine mid _ fun s1 e => ?_
      unfold lossG
      rw [if_pos h3, e]
    next h3 =>
      simp only [C.oX, C_count_7 C, Option.bind_some, bnd_some]
      refine mid _ fun s1 e => ?_
      unfold lossG
      rw [if_neg h3, e]
theorem E_turn (C : CG z0 σ g) (J : JT T g) (hT : T < 2 ^ 31) {i : Nat} (hi : i < 6) (rec4 : Option Nat → Int32 → Int32 → SG → Option (Int32 × SG)) : m_L_areReceivers_B4 rec4 (some z0) 1 (nI i) σ = rec4 (some z0) 1 (nI (i + 1)) σ := by
  obtain ⟨cm, cl⟩ := C.rcv hi
  obtain ⟨hb, ⟨f, hf, ef⟩, ⟨o, ho, eo⟩⟩ := C.inv.2.2.2 i hi
  obtain ⟨j14, jt⟩ := J.2.2.2.2 i hi
  have tail : m_L_areReceivers_b135 rec4 (some z0) (nI i) σ = rec4 (some z0) 1 (nI (i + 1)) σ := by
    unfold m_L_areReceivers_b135 m_L_areReceivers_b160
    simp only [C.oX, C_rcv_4 C hi, eo, Option.bind_some, bnd_some]
    rw [if_neg (nI_pos (by omega)), if_neg (show ¬ (15 : Int32) < nI o from nI_nlt (a := 15) (by omega) (by decide))]
    have := E_lossL C hi rec4 6 0 rfl 1000 (by decide)
    rwa [← nI0] at this
  have mid : m_L_areReceivers_b90 rec4 (some z0) (nI i) (if g 4 i 4 = 0 then -5 else g 4 i 4 - 1) (if g 4 i 4 = 0 then -5 else g 0 0 0 - g 4 i 5) σ = rec4 (some z0) 1 (nI (i + 1)) σ := by
    rw [← tail]
    unfold m_L_areReceivers_b90
    rcases cl with e0 | ⟨u, hu, e1⟩
    · rw [if_pos e0, if_pos e0]
      rw [if_neg (by decide), if_pos rfl, if_pos rfl]
    · have hn : ¬ g 4 i 4 = 0 := by rw [e1]; exact nI_ne0 (by omega) (by omega)
      obtain ⟨t, ht, et⟩ := jt hn
      rw [if_neg hn, if_neg hn, e1, nI_pr, J.1, et, nI_subt (by omega)]
      rw [if_pos (nI_pos' (by omega)), if_neg (show ¬ (32 : Int32) ≤ nI u from nI_ge (b := 32) hu (by decide)), if_neg (show ¬ nI (T - t) < 1 from nI_nlt (b := 1) (by omega) (by omega))]
      simp only [C.oX, C_count_0 C, J.1, Option.bind_some, bnd_some]
      rw [if_neg (nI_nlt (by omega) (by omega))]
  unfold m_L_areReceivers_B4
  rw [if_neg (show ¬ (6 : Int32) ≤ nI i from nI_ge (b := 6) hi (by decide)), if_neg one_ne]
  simp only [C.oX, C_rcv_0 C hi, C_rcv_1 C hi, C_rcv_2 C hi, C_rcv_3 C hi, Option.bind_some, bnd_some]
  rcases hb with h0 | h1
  · rw [if_pos h0, if_pos h0, if_pos (show (-5 : Int32) < 0 by decide), if_pos rfl, ef, if_neg (nI_pos (by omega)), if_neg (show ¬ (15 : Int32) < nI f from nI_nlt (a := 15) (by omega) (by decide)), if_neg (by rw [← ef]; exact j14 h0)]
    exact mid
  · have hn : ¬ g 4 i 0 = 0 := by rw [h1]; exact one_ne
    obtain ⟨m, hm, em⟩ := cm h1
    rw [if_neg hn, if_neg hn, em, if_neg (nI_pos (by omega)), if_neg (show ¬ (9 : Int32) < nI m from nI_nlt (a := 9) hm (by decide)), if_pos rfl]
    exact mid
theorem E_fresh (C : CG z0 σ g) : m_L_areReceivers_b260 (some z0) 1 σ = some (1, σ) := by
  obtain ⟨f, ef, f0, f1, fn⟩ := C_fresh C
  have e2 : m_X8_total (some z0) 2 σ = some (g 7 0 2, σ) := C_total C (j := 2) (by decide)
  have e3 : m_X8_total (some z0) 3 σ = some (g 7 0 3, σ) := C_total C (j := 3) (by decide)
  have e4 : m_X8_total (some z0) 4 σ = some (g 7 0 4, σ) := C_total C (j := 4) (by decide)
  have last : m_L_areReceivers_b295 (some z0) 1 f σ = some (1, σ) := by
    unfold m_L_areReceivers_b295
    rw [if_neg one_ne]
    simp only [C.oX, ef, Option.bind_some, bnd_some, ff_cmp fn, if_true]
    rfl
  unfold m_L_areReceivers_b260
  simp only [C.oX, e2, e3, e4, Option.bind_some, bnd_some]
  by_cases h0 : (g 7 0 2 + g 7 0 3) + g 7 0 4 = 0
  · rw [if_pos h0, ← f0 h0]
    exact last
  · rw [if_neg h0, s_fdiv _ h0, ← f1 h0]
    simp only [Option.bind_some]
    exact last
theorem E_rcvL (C : CG z0 σ g) (J : JT T g) (hT : T < 2 ^ 31) : ∀ (d i : Nat), i + d = 6 → ∀ (F : Nat), d < F → m_L_areReceivers_L4 F (some z0) 1 (nI i) σ = some (1, σ) := by
  intro d
  induction d with
  | zero =>
    intro i hi F hF
    obtain ⟨F, rfl⟩ : ∃ m, F = m + 1 := ⟨F - 1, by omega⟩
    rw [show m_L_areReceivers_L4 (F + 1) = m_L_areReceivers_B4 (m_L_areReceivers_L4 F) from rfl]
    unfold m_L_areReceivers_B4
    obtain rfl : i = 6 := by omega
    rw [if_pos (show (6 : Int32) ≤ nI 6 by decide)]
    exact E_fresh C
  | succ d ih =>
    intro i hi F hF
    obtain ⟨F, rfl⟩ : ∃ m, F = m + 1 := ⟨F - 1, by omega⟩
    rw [show m_L_areReceivers_L4 (F + 1) = m_L_areReceivers_B4 (m_L_areReceivers_L4 F) from rfl, E_turn C J hT (by omega)]
    exact ih (i + 1) (by omega) F (by omega)
theorem L_receivers (C : CG z0 σ g) (J : JT T g) (hT : T < 2 ^ 31) : m_L_areReceivers (some z0) σ = some (1, σ) := by
  unfold m_L_areReceivers
  have := E_rcvL C J hT 6 0 rfl 1000 (by decide)
  rwa [← nI0] at this
end LRCV
