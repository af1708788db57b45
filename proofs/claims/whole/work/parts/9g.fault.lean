/-! LEVEL 2: the text, fifth: the fault of the whole, on both sides -/
section FLT
variable {σ : SG} {M L : Nat} {T : Nat → Nat} {g : NW}
theorem nxE {s : Nat} (hs : s = 4 ∨ s = 6 ∨ s = 7) : nxN s 44 = some 0 := by
  rcases hs with rfl | rfl | rfl <;> rfl
theorem q_f0 {F : Nat} (hF : 0 < F) {r : RW} {p : Nat} (ha : r 0 14 = nI p) : m_X9_faultOf_L15 F (some M) 0 (ovs σ M r g) = some (nI p, ovs σ M r g) := by
  obtain ⟨F, rfl⟩ : ∃ m, F = m + 1 := ⟨F - 1, by omega⟩
  rw [show m_X9_faultOf_L15 (F + 1) = m_X9_faultOf_B15 (m_X9_faultOf_L15 F) from rfl]
  unfold m_X9_faultOf_B15 m_X9_faultOf_b55
  simp only [if_true, gI_s_14, ha, Option.bind_some]
theorem q_faultL : ∀ (n p : Nat) (r : RW) (os : List (Int32 × Int32)) (F s : Nat), L - p ≤ n → n + 1 < F → PS r L T p os → (s = 4 ∨ s = 6 ∨ s = 7) → (p < L → T p ≠ 44 → nxN s (T p) = none) → ∃ r', TK r' r ∧
    ((∃ p', p' ≤ L ∧ m_X9_faultOf_L15 F (some M) 1 (ovs σ M r g) = some (nI p', ovs σ M r' g) ∧ FA T L s p = some p') ∨
     ∃ os1, m_X9_faultOf_L15 F (some M) 1 (ovs σ M r g) = some (-1, ovs σ M r' g) ∧ FA T L s p = none ∧ PS r' L T L (os ++ os1) ∧ (∀ o ∈ os1, GO o) ∧ ∀ sp, SC T L p sp = os1) := by
  intro n
  induction n with
  | zero =>
    intro p r os F s hn hF h hs hx
    have hpL := h.2.2.1
    obtain rfl : p = L := by omega
    obtain ⟨F, rfl⟩ : ∃ m, F = m + 1 := ⟨F - 1, by omega⟩
    refine ⟨r, TK.refl r, Or.inr ⟨[], ?_, by rw [FA_end, if_pos hs], by rw [List.append_nil]; exact h, fun o ho => absurd ho (by simp), fun sp => SC_end⟩⟩
    rw [show m_X9_faultOf_L15 (F + 1) = m_X9_faultOf_B15 (m_X9_faultOf_L15 F) from rfl]
    unfold m_X9_faultOf_B15 m_X9_faultOf_b55
    rw [if_neg one_ne]
    simp only [gI_s_14, gI_s_11, h.2.1, h.1.1, Option.bind_some]
    rw [if_pos (nI_le (Nat.le_refl _) (by have := h.1.2.1; omega)), if_neg one_ne]
  | succ n ih =>
    intro p r os F s hn hF h hs hx
    have hpL := h.2.2.1
    have hL80 := h.1.2.1
    obtain ⟨F, rfl⟩ : ∃ m, F = m + 1 := ⟨F - 1, by omega⟩
    rw [show m_X9_faultOf_L15 (F + 1) = m_X9_faultOf_B15 (m_X9_faultOf_L15 F) from rfl]
    unfold m_X9_faultOf_B15 m_X9_faultOf_b55 m_X9_faultOf_b50 m_X9_faultOf_b51
    rw [if_neg one_ne]
    simp only [gI_s_14, gI_s_11, h.2.1, h.1.1, Option.bind_some]
    by_cases hp : p < L
    · rw [if_neg (nI_ge hp (by omega))]
      by_cases hc : T p = 44
      · have P1 := h.at (p' := p + 1) (by omega) (by omega)
        have f1 : FA T L s p = FA T L 0 (p + 1) := FA_go hp (by rw [hc]; exact nxE hs)
        simp only [ob_s, q_accY h.1 h.2.1 (c := 44) (n := 44) rfl (by decide) hp hc, Option.bind_some, bnd_some]
        rw [if_neg one_ne]
        obtain ⟨r1, k1, hr⟩ := q_part (σ := σ) (M := M) (g := g) P1
        rcases hr with ⟨p', x1, x2, x3, x4⟩ | ⟨p', os1, s', x1, x2, x3, x4, x5, x6, x7, x8⟩
        · refine ⟨r1, k1.trans (TK_at _ _), Or.inl ⟨p', x1, ?_, f1.trans x4⟩⟩
          rw [x2]
          simp only [bnd_some, if_true]
          exact q_f0 (by omega) x3
        · obtain ⟨r2, k2, hr2⟩ := ih p' r1 (os ++ os1) F s' (by omega) (by omega) x3 x4 x6
          refine ⟨r2, k2.trans (k1.trans (TK_at _ _)), ?_⟩
          rw [x1]
          simp only [bnd_some]
          rw [if_neg one_ne]
          rcases hr2 with ⟨p2, y1, y2, y3⟩ | ⟨os2, y1, y2, y3, y4, y5⟩
          · exact Or.inl ⟨p2, y1, y2, f1.trans (x5.trans y3)⟩
          · refine Or.inr ⟨os1 ++ os2, y1, f1.trans (x5.trans y2), by rw [← List.append_assoc]; exact y3, fun o ho => ?_, fun sp => ?_⟩
            · rcases List.mem_append.mp ho with e | e
              · exact x7 o e
              · exact y4 o e
            · obtain ⟨sp', e⟩ := x8 sp
              rw [SC_skip hp (by omega) (by omega) (by omega), e, y5 sp']
      · refine ⟨r, TK.refl r, Or.inl ⟨p, hpL, ?_, FA_no hp (hx hp hc)⟩⟩
        simp only [ob_s, q_accN h.1 h.2.1 hpL (c := 44) (n := 44) rfl (by decide) (fun e => hc e.2), Option.bind_some, bnd_some, if_true]
        exact q_f0 (by omega) h.2.1
    · obtain rfl : p = L := by omega
      refine ⟨r, TK.refl r, Or.inr ⟨[], ?_, by rw [FA_end, if_pos hs], by rw [List.append_nil]; exact h, fun o ho => absurd ho (by simp), fun sp => SC_end⟩⟩
      rw [if_pos (nI_le (Nat.le_refl _) (by omega)), if_neg one_ne]
/-- the reference's fault is the automaton's; without one its orders are those that the class finds -/
theorem q_faultOf {r : RW} (hT : TX r L T) : ∃ r', TK r' r ∧
    ((∃ p', p' ≤ L ∧ m_X9_faultOf (some M) (ovs σ M r g) = some (nI p', ovs σ M r' g) ∧ FA T L 0 0 = some p') ∨
     ∃ os, m_X9_faultOf (some M) (ovs σ M r g) = some (-1, ovs σ M r' g) ∧ FA T L 0 0 = none ∧ PS r' L T L os ∧ (∀ o ∈ os, GO o) ∧ ∀ sp, SC T L 0 sp = os) := by
  have h0 : PS (up2 (up2 r 0 14 (nI 0)) 0 13 (nI 0)) L T 0 [] := ⟨((TK_13 _ _).trans (TK_at _ _)).tx hT, (up2_o (by omega)).trans up2_i, Nat.zero_le _, up2_i, by simp, fun k o hk => absurd hk (by simp)⟩
  have k0 : TK (up2 (up2 r 0 14 (nI 0)) 0 13 (nI 0)) r := (TK_13 _ _).trans (TK_at _ _)
  have hL := hT.2.1
  obtain ⟨r1, k1, hr⟩ := q_part (σ := σ) (M := M) (g := g) h0
  have e0 : m_X9_faultOf (some M) (ovs σ M r g) = bnd (m_X9_part (some M) (ovs σ M (up2 (up2 r 0 14 (nI 0)) 0 13 (nI 0)) g)) fun r15 σ16 => m_X9_faultOf_L15 1000 (some M) r15 σ16 := by
    unfold m_X9_faultOf
    simp only [nI0, pI_s_14, pI_s_13, ob_s, Option.bind_some]
  rw [e0]
  rcases hr with ⟨p', x1, x2, x3, x4⟩ | ⟨p', os1, s', x1, x2, x3, x4, x5, x6, x7, x8⟩
  · refine ⟨r1, k1.trans k0, Or.inl ⟨p', x1, ?_, x4⟩⟩
    rw [x2]
    exact q_f0 (by omega) x3
  · obtain ⟨r2, k2, hr2⟩ := q_faultL (σ := σ) (M := M) (g := g) (L - p') p' r1 ([] ++ os1) 1000 s' (Nat.le_refl _) (by omega) x3 x4 x6
    refine ⟨r2, k2.trans (k1.trans k0), ?_⟩
    rw [x1]
    simp only [bnd_some]
    rcases hr2 with ⟨p2, y1, y2, y3⟩ | ⟨os2, y1, y2, y3, y4, y5⟩
    · exact Or.inl ⟨p2, y1, y2, x5.trans y3⟩
    · refine Or.inr ⟨os1 ++ os2, y1, x5.trans y2, y3, fun o ho => ?_, fun sp => ?_⟩
      · rcases List.mem_append.mp ho with e | e
        · exact x7 o e
        · exact y4 o e
      · obtain ⟨sp', e⟩ := x8 sp
        rw [e, y5 sp']
end FLT
section FLP
variable {z0 : Nat} {σ : SG}
/-- the text of both sides by numbers -/
theorem txt_T {tl : Nat} {tx : Nat → Int32} {r : RW} (h : TxtOK tl tx r) : ∃ T, SG1 T tl tx ∧ TX r tl T := by
  obtain ⟨h1, h2, h3⟩ := h
  refine ⟨fun j => (tx j).toNatClampNeg, ⟨h1, fun j hj => ?_⟩, h2, h1, fun j hj => ?_⟩
  · obtain ⟨-, c, c1, c2, e⟩ := h3 j hj
    show tx j = nI (tx j).toNatClampNeg ∧ 32 ≤ (tx j).toNatClampNeg ∧ (tx j).toNatClampNeg ≤ 126
    rw [e, nI_clamp (by omega)]
    exact ⟨rfl, c1, c2⟩
  · obtain ⟨e1, c, c1, c2, e⟩ := h3 j hj
    show r 10 j = nI (tx j).toNatClampNeg ∧ 32 ≤ (tx j).toNatClampNeg ∧ (tx j).toNatClampNeg ≤ 126
    rw [← e1, e, nI_clamp (by omega)]
    exact ⟨rfl, c1, c2⟩
theorem GOK.tk {W : Nat → NW} {P : Nat → Nat} {kp : Nat} {h : Int32} {tl : Nat} {tx : Nat → Int32} {r r' : RW} {g : NW} (O : GOK W P kp h tl tx r g) (k : TK r' r) : GOK W P kp h tl tx r' g := O.rk (fun q j _ _ _ _ _ h9 h0 => k q j h9 h0)
theorem P_fault (H : GR z0 σ) : Pair z0 σ (m_X8_fault (some z0)) (m_X9_fault (some (z0 + 257))) := by
  obtain ⟨W, P, kp, h, tl, tx, r, g, H, O⟩ := H
  obtain ⟨T, hT, hX⟩ := txt_T O.2.2.2.2
  obtain ⟨r', k, hr⟩ := q_faultOf (σ := σ) (M := z0 + 257) (g := g) hX
  have ec := c_ff H hT
  have e8 : m_X8_fault (some z0) σ = some (ffI (FA T tl 0 0), σ) := by
    unfold m_X8_fault
    simp only [H.g5, H.oS, ec, Option.bind_some, bnd_some]
  rcases hr with ⟨p', x1, x2, x3⟩ | ⟨os, x1, x2, -⟩
  · have hL := hT.1
    have em : m_X9_fault (some (z0 + 257)) (ovs σ (z0 + 257) r g) = some (nI p', ovs σ (z0 + 257) r' g) := by
      unfold m_X9_fault
      simp only [ob_s, x2, Option.bind_some, bnd_some]
      rw [if_pos (nI_pos' (by omega))]
    rw [H.meq] at em
    exact ⟨nI p', σ, _, by rw [e8, x3]; rfl, em, H.oM, W, P, kp, h, tl, tx, r', g, H.upM _ _, O.tk k⟩
  · have em : m_X9_fault (some (z0 + 257)) (ovs σ (z0 + 257) r g) = some (-5, ovs σ (z0 + 257) r' g) := by
      unfold m_X9_fault
      simp only [ob_s, x1, Option.bind_some, bnd_some]
      rw [if_neg (by decide)]
    rw [H.meq] at em
    exact ⟨-5, σ, _, by rw [e8, x2]; rfl, em, H.oM, W, P, kp, h, tl, tx, r', g, H.upM _ _, O.tk k⟩
end FLP
