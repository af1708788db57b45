/-! LEVEL 2: the text, seventh: perform of the class, and both -/
section PRC
variable {z0 : Nat} {P : Nat → Nat} {kp : Nat} {h : Int32} {L : Nat} {tx : Nat → Int32} {r0 : RW} {g0 : NW} {T : Nat → Nat}
theorem upW_upW (W : Nat → NW) (k : Nat) (w w' : NW) : upW (upW W k w) k w' = upW W k w' := by
  funext i
  unfold upW
  split <;> rfl
theorem upW_self (W : Nat → NW) (k : Nat) : upW W k (W k) = W := by
  funext i
  unfold upW
  split
  · rename_i e; rw [e]
  · rfl
theorem c_beatsB {σ : SG} {W : Nat → NW} (H : HS z0 σ W P kp h L tx r0 g0) (hT : SG1 T L tx) {i : Nat} (hi : i < 80) : m_X5_beatsBehind (some (z0 + 255)) (nI i) σ = some (btI T L i, σ) := by
  unfold m_X5_beatsBehind btI
  rw [show m_X5_beatsBehind_L4 1000 = m_X5_beatsBehind_B4 (m_X5_beatsBehind_B4 (m_X5_beatsBehind_B4 (m_X5_beatsBehind_L4 997))) from rfl]
  unfold m_X5_beatsBehind_B4
  have e1 : nI i + 1 = nI (i + 1) := (nI_succ i).symm
  have e2 : nI i + (1 + 1) = nI (i + 2) := by rw [show ((1 : Int32) + 1) = nI 2 from rfl, nI_add]
  simp only [H.oS, e1, e2, c_sign H hT (show i + 1 < 1000 by omega), c_sign H hT (show i + 2 < 1000 by omega), c_dg, Option.bind_some, bnd_some]
  rw [if_neg (show ¬ (2 : Int32) < 1 by decide), if_neg (show ¬ (2 : Int32) < 1 + 1 by decide), if_pos (show (2 : Int32) < 1 + 1 + 1 by decide)]
  split
  · rfl
  · split <;> rfl
theorem cN_eq {c d : Nat} (hc : c < 127) (hd : d < 127) : (nI c = nI d) ↔ c = d := nI_eq (by omega) (by omega)
theorem c_perfL (hT : SG1 T L tx) : ∀ (d i : Nat), i + d = L → ∀ (F : Nat), d < F → ∀ (σ : SG) (W : Nat → NW) (g : NW) (sp : Int32) (dn : Nat), HS z0 σ W P kp h L tx r0 g0 → Rel g (W 0) → Inv g → (∀ o ∈ SC T L i sp, GO o) →
    ∃ σ' w' n g', m_X8_perform_L37 F (some z0) (nI dn) sp (nI i) σ = some (nI (dn + n), σ') ∧ HS z0 σ' (upW W 0 w') P kp h L tx r0 g0 ∧ Rel g' w' ∧ Inv g' ∧ EX (SC T L i sp) g n g' := by
  have hL := hT.1
  intro d
  induction d with
  | zero =>
    intro i hi F hF σ W g sp dn H hR hI hG
    obtain ⟨F, rfl⟩ : ∃ m, F = m + 1 := ⟨F - 1, by omega⟩
    obtain rfl : i = L := by omega
    refine ⟨σ, W 0, 0, g, ?_, by rw [upW_self]; exact H, hR, hI, by rw [SC_end]; exact ⟨rfl, rfl⟩⟩
    rw [show m_X8_perform_L37 (F + 1) = m_X8_perform_B37 (m_X8_perform_L37 F) from rfl]
    unfold m_X8_perform_B37
    simp only [H.g5, H.s1, Option.bind_some]
    rw [if_pos (nI_le (Nat.le_refl _) (by omega))]
    rfl
  | succ d ih =>
    intro i hi F hF σ W g sp dn H hR hI hG
    obtain ⟨F, rfl⟩ : ∃ m, F = m + 1 := ⟨F - 1, by omega⟩
    have hiL : i < L := by omega
    obtain ⟨-, c1, c2⟩ := hT.2 i hiL
    rw [show m_X8_perform_L37 (F + 1) = m_X8_perform_B37 (m_X8_perform_L37 F) from rfl]
    unfold m_X8_perform_B37 m_X8_perform_b170
    have e1 : nI i + 1 = nI (i + 1) := (nI_succ i).symm
    simp only [H.g5, H.s1, H.oS, c_sign H hT (show i < 1000 by omega), e1, Option.bind_some, bnd_some]
    rw [if_neg (nI_ge (by omega) (by omega)), show SN T L i = T i from if_pos hiL]
    rw [SC_st hiL] at hG ⊢
    by_cases h58 : T i = 58
    · rw [if_pos h58] at hG ⊢
      rw [if_pos (show nI (T i) = 58 by rw [h58]; rfl)]
      have es : m_X5_signAt (some (z0 + 255)) (nI i - 1) σ = some (if i = 0 then 0 else nI (SN T L (i - 1)), σ) := by
        by_cases hi0 : i = 0
        · subst hi0; rw [if_pos rfl]; exact c_sign_m H
        · obtain ⟨k, rfl⟩ : ∃ k, i = k + 1 := ⟨i - 1, by omega⟩
          rw [nI_pr, if_neg hi0, c_sign H hT (by omega)]
          rfl
      simp only [es, bnd_some]
      exact ih (i + 1) (by omega) F (by omega) σ W g _ dn H hR hI hG
    rw [if_neg h58] at hG ⊢
    rw [if_neg (show ¬ nI (T i) = 58 from fun e => h58 ((cN_eq (d := 58) (by omega) (by decide)).mp e))]
    by_cases h116 : T i = 116
    · rw [if_pos h116] at hG ⊢
      rw [if_pos (show nI (T i) = 116 by rw [h116]; rfl)]
      obtain ⟨N, hN1, hN2, eN⟩ := hG _ (List.mem_cons_self) rfl
      obtain ⟨w1, t, e2, hR1, -⟩ := c_letPass (σ := σ) (n := NA z0 0) (N := N) (by omega) hR hI
      rw [H.neq (by decide)] at e2
      have H1 := H.upN (k := 0) (by decide) w1
      obtain ⟨σ2, w2, n, g2, y1, y2, y3, y4, y5⟩ := ih (i + 1) (by omega) F (by omega) _ _ (itb N g) sp (dn + 1) H1 (by rw [upW_eq]; exact hR1) (Inv_itb N g hI) (fun o ho => hG o (List.mem_cons_of_mem _ ho))
      refine ⟨σ2, w2, n + 1, g2, ?_, by rw [upW_upW] at y2; exact y2, y3, y4, Or.inl ⟨rfl, N, n, hN1, hN2, eN, rfl, y5⟩⟩
      have eN' : btI T L i = nI N := eN
      simp only [H.g0, H.oN (show 0 < 7 by decide), c_beatsB H hT (show i < 80 by omega), eN', e2, Option.bind_some, bnd_some, ← nI_succ]
      rw [y1, show dn + 1 + n = dn + (n + 1) by omega]
    rw [if_neg h116] at hG ⊢
    rw [if_neg (show ¬ nI (T i) = 116 from fun e => h116 ((cN_eq (d := 116) (by omega) (by decide)).mp e))]
    simp only [c_lt, lt_N (show T i < 127 by omega), bnd_some]
    by_cases hl : 65 ≤ T i ∧ T i ≤ 68
    · rw [if_pos hl] at hG ⊢
      rw [if_pos hl, if_neg one_ne]
      have ew : ∀ τ, m_X5_wordOf (nI (T i)) (nI (SN T L (i + 1))) τ = some (wdI T L i, τ) := fun τ => by
        unfold m_X5_wordOf
        simp only [c_cd, bnd_some]
        rfl
      rw [H.g5]
      simp only [Option.bind_some, H.oS, c_sign H hT (show i + 1 < 1000 by omega), ew, H.g0, H.oN (show 0 < 7 by decide), bnd_some]
      by_cases e9 : sp = 9
      · subst e9
        have x1 := c_senderAt_out (σ := σ) (n := NA z0 0) (w := W 0) (a := 9) (Or.inr (by decide))
        rw [H.neq (by decide)] at x1
        refine ⟨σ, W 0, 0, g, ?_, by rw [upW_self]; exact H, hR, hI, Or.inr ⟨show (if (9 : Int32) = 9 then (10 : Int32) else 9) ≠ 9 by decide, Or.inl ⟨-1, by decide, fun σ M r => ?_, rfl, rfl⟩⟩⟩
        · unfold m_X3_refusalOfWord
          simp only [H.oN (show 0 < 7 by decide), x1, Option.bind_some, bnd_some, if_true]
          rw [if_neg (by decide)]
          rfl
        · unfold m_X9_says
          show (sObj (some M) 8 (ovs σ M r g)).bind _ = _
          simp only [ob_s, Option.bind_some, if_true, q_isSender_out (show (10 : Int32) < 0 ∨ nI 5 ≤ 10 from Or.inr (by decide)), bnd_some]
      rcases say_both hR hI sp (wdI T L i) with ⟨v, hv, x1, x2⟩ | ⟨w1, g1, t, ht, x1, x2, x3, x4, x5⟩
      · have x1 := x1 σ (NA z0 0)
        rw [H.neq (by decide)] at x1
        refine ⟨σ, W 0, 0, g, ?_, by rw [upW_self]; exact H, hR, hI, Or.inr ⟨by rw [if_neg e9]; exact e9, Or.inl ⟨v, hv, by rw [if_neg e9]; exact x2, rfl, rfl⟩⟩⟩
        rw [x1]
        simp only [bnd_some]
        rw [if_neg hv]
        rfl
      · have x1 := x1 σ (NA z0 0)
        have x2 := x2 σ (NA z0 0)
        rw [H.neq (by decide)] at x1 x2
        have H1 := H.upN (k := 0) (by decide) w1
        obtain ⟨σ2, w2, n, g2, y1, y2, y3, y4, y5⟩ := ih (i + 1) (by omega) F (by omega) _ _ g1 sp (dn + 1) H1 (by rw [upW_eq]; exact x4) x5 (fun o ho => hG o (List.mem_cons_of_mem _ ho))
        refine ⟨σ2, w2, n + 1, g2, ?_, by rw [upW_upW] at y2; exact y2, y3, y4, Or.inr ⟨by rw [if_neg e9]; exact e9, Or.inr ⟨g1, t, n, ht, by rw [if_neg e9]; exact x3, x5, rfl, y5⟩⟩⟩
        rw [x1]
        simp only [bnd_some]
        rw [if_pos (by decide)]
        simp only [H.g0, H.oN (show 0 < 7 by decide), x2, Option.bind_some, bnd_some, ← nI_succ]
        rw [y1, show dn + 1 + n = dn + (n + 1) by omega]
    · rw [if_neg hl] at hG ⊢
      rw [if_neg hl, if_pos rfl]
      exact ih (i + 1) (by omega) F (by omega) σ W g sp dn H hR hI hG
end PRC
