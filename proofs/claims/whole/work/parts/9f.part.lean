/-! LEVEL 2: the text, fourth: a part, and the whole -/
section PRT
variable {σ : SG} {M L p : Nat} {T : Nat → Nat} {r : RW} {g : NW} {os : List (Int32 × Int32)}
theorem q_w0 (a : Int32) (τ : SG) : m_X9_words_L46 1000 (some M) a 0 τ = some (0, τ) := by
  rw [show m_X9_words_L46 1000 = m_X9_words_B46 (m_X9_words_L46 999) from rfl]
  unfold m_X9_words_B46
  rw [if_pos rfl]
  rfl
theorem nx0D {c : Nat} (h : 48 ≤ c ∧ c ≤ 52) : nxN 0 c = some 1 := by
  show (if c = 116 then some 5 else if 48 ≤ c ∧ c ≤ 52 then some 1 else none) = _
  rw [if_neg (by omega), if_pos h]
theorem nx0T {c : Nat} (h : c = 116) : nxN 0 c = some 5 := if_pos h
theorem nx0N {c : Nat} (h : ¬ (48 ≤ c ∧ c ≤ 52)) (h4 : c ≠ 116) : nxN 0 c = none := by
  show (if c = 116 then some 5 else if 48 ≤ c ∧ c ≤ 52 then some 1 else none) = _
  rw [if_neg h4, if_neg h]
theorem nx1Y {c : Nat} (h : c = 58) : nxN 1 c = some 2 := if_pos h
theorem nx1N {c : Nat} (h : c ≠ 58) : nxN 1 c = none := if_neg h
theorem nx5Y {c : Nat} (h : 49 ≤ c ∧ c ≤ 57) : nxN 5 c = some 6 := if_pos h
theorem nx5N {c : Nat} (h : ¬ (49 ≤ c ∧ c ≤ 57)) : nxN 5 c = none := if_neg h
theorem nx6Y {c : Nat} (h : 48 ≤ c ∧ c ≤ 57) : nxN 6 c = some 7 := by
  show (if c = 44 then some 0 else if 48 ≤ c ∧ c ≤ 57 then some 7 else none) = _
  rw [if_neg (by omega), if_pos h]
theorem nx6N {c : Nat} (h : ¬ (48 ≤ c ∧ c ≤ 57)) (h4 : c ≠ 44) : nxN 6 c = none := by
  show (if c = 44 then some 0 else if 48 ≤ c ∧ c ≤ 57 then some 7 else none) = _
  rw [if_neg h4, if_neg h]
theorem nx7N {c : Nat} (h4 : c ≠ 44) : nxN 7 c = none := if_neg h4
theorem q_wordsP (h : PS r L T p os) (hp : p < L) (hd : 48 ≤ T p ∧ T p ≤ 52) : PR σ M L T g p os r (m_X9_words (some M) (ovs σ M r g)) := by
  have hT := h.1
  have hL := hT.2.1
  have ha := h.2.1
  have P1 := h.at (p' := p + 1) (by omega) (by omega)
  have eS : nI (T p) - 48 = nI (T p - 48) := by rw [show (48 : Int32) = nI 48 from rfl, pk_sub hd.1]
  have ha9 : nI (T p) - 48 ≠ 9 := by
    rw [eS]
    intro e
    have := (nI_eq (a := T p - 48) (b := 9) (by omega) (by decide)).mp e
    omega
  have f0 : FA T L 0 p = FA T L 1 (p + 1) := FA_go hp (nx0D hd)
  have e0 : m_X9_words (some M) (ovs σ M r g) = bnd (m_X9_accepts (some M) 58 (ovs σ M (up2 r 0 14 (nI (p + 1))) g)) fun r12 σ13 => if r12 = 0 then m_X9_words_b44 (some M) (nI (T p) - 48) σ13 else (sObj (some M) 8 σ13).bind fun _ => bnd (m_X9_word (some M) (nI (T p) - 48) σ13) fun r15 σ16 => if r15 = 0 then m_X9_words_b44 (some M) (nI (T p) - 48) σ16 else m_X9_words_b45 (some M) (nI (T p) - 48) 1 σ16 := by
    unfold m_X9_words
    simp only [gR_s_9, gI_s_14, ha, sld_10 (show p < 80 by omega), (hT.2.2 p hp).1, pI_s_14, Option.bind_some, ← nI_succ, ob_s]
  rw [e0]
  by_cases hc : p + 1 < L ∧ T (p + 1) = 58
  · rw [q_accY P1.1 P1.2.1 (c := 58) (n := 58) rfl (by decide) hc.1 hc.2]
    have P2 := P1.at (p' := p + 2) (by omega) (by omega)
    have f1 : FA T L 0 p = FA T L 2 (p + 2) := f0.trans (FA_go hc.1 (nx1Y hc.2))
    simp only [bnd_some, ob_s, Option.bind_some]
    rw [if_neg one_ne]
    by_cases hl : p + 2 < L ∧ 65 ≤ T (p + 2) ∧ T (p + 2) ≤ 68
    · rcases cd_or T L (p + 2) with ⟨h1, v, hv⟩ | hv
      · obtain ⟨r1, e1, k1, Q1⟩ := q_wordY (σ := σ) (M := M) (g := g) P2 hl h1 hv (nI (T p) - 48)
        obtain ⟨r2, k2, hr⟩ := q_wordsL (σ := σ) (M := M) (g := g) ha9 (L - (p + 4)) (p + 4) r1 _ 1000 (Nat.le_refl _) (by omega) Q1
        refine ⟨r2, k2.trans (k1.trans ((TK_at _ _).trans (TK_at _ _))), ?_⟩
        rw [show p + 1 + 1 = p + 2 from rfl, e1]
        simp only [bnd_some]
        rw [if_neg one_ne]
        unfold m_X9_words_b45
        have f2 := f1.trans (fa_word hl (nx2L hl.2) h1 hv)
        rcases hr with ⟨p', x1, x2, x3, x4⟩ | ⟨p', os1, x1, x2, x3, x4, x5, x6, x7⟩
        · exact Or.inl ⟨p', x1, x2, x3, f2.trans x4⟩
        · refine Or.inr ⟨p', (nI (T p) - 48, wdI T L (p + 2)) :: os1, 4, x1, by omega, ?_, Or.inl rfl, f2.trans x4, x5, fun o ho => ?_, fun sp => ⟨nI (T p) - 48, ?_⟩⟩
          · rw [List.append_assoc] at x3
            exact x3
          · rcases List.mem_cons.mp ho with e | e
            · subst e; exact fun e => absurd e ha9
            · exact x6 o e
          · rw [SC_skip hp (by omega) (by omega) (by omega), SC_col hc.1 hc.2, sc_word ha9 hl h1 hv, x7]
            rfl
      · obtain ⟨r1, e1, k1, a1⟩ := q_wordB (σ := σ) (M := M) (g := g) P2 hl hv (nI (T p) - 48)
        refine ⟨r1, k1.trans ((TK_at _ _).trans (TK_at _ _)), Or.inl ⟨p + 3, by omega, ?_, a1, f1.trans (fa_wordB hl (nx2L hl.2) hv)⟩⟩
        rw [show p + 1 + 1 = p + 2 from rfl, e1]
        simp only [bnd_some]
        rw [if_pos trivial]
        unfold m_X9_words_b44 m_X9_words_b45
        exact q_w0 _ _
    · refine ⟨_, (TK_at _ _).trans (TK_at _ _), Or.inl ⟨p + 2, by omega, ?_, P2.2.1, f1.trans (FA_stop (by omega) (by omega) (fun e1 => nx2N (fun e => hl ⟨e1, e⟩)))⟩⟩
      rw [show p + 1 + 1 = p + 2 from rfl, q_wordN P2.1 P2.2.1 (by omega) hl]
      simp only [bnd_some]
      rw [if_pos trivial]
      unfold m_X9_words_b44 m_X9_words_b45
      exact q_w0 _ _
  · refine ⟨_, TK_at _ _, Or.inl ⟨p + 1, by omega, ?_, P1.2.1, f0.trans (FA_stop (by omega) (by omega) (fun e1 => nx1N (fun e => hc ⟨e1, e⟩)))⟩⟩
    rw [q_accN P1.1 P1.2.1 (by omega) (c := 58) (n := 58) rfl (by decide) hc]
    simp only [bnd_some]
    rw [if_pos trivial]
    unfold m_X9_words_b44 m_X9_words_b45
    exact q_w0 _ _
/-- the end of beats: the order is noted -/
theorem q_b75 (h : PS r L T p os) (h2 : 2 * (os.length + 1) ≤ p) (v : Int32) : m_X9_beats_b75 (some M) v (ovs σ M r g) = some (1, ovs σ M (up2 (up2 (up2 r 9 (2 * os.length) 9) 9 (2 * os.length + 1) v) 0 13 (nI (os.length + 1))) g) := by
  have hL := h.1.2.1
  have hpL := h.2.2.1
  have m2 : (2 : Int32) * nI os.length = nI (2 * os.length) := by rw [show (2 : Int32) = nI 2 from rfl, nI_mul]
  unfold m_X9_beats_b75
  simp only [gR_s_8, gI_s_13, h.2.2.2.1, m2, ← nI_succ, sst_9 (show 2 * os.length < 82 by omega), Option.bind_some, up2_o (show ¬ ((0 : Nat) = 9 ∧ (13 : Nat) = 2 * os.length) by omega), sst_9 (show 2 * os.length + 1 < 82 by omega), up2_o (show ¬ ((0 : Nat) = 9 ∧ (13 : Nat) = 2 * os.length + 1) by omega), pI_s_13]
  rfl
theorem q_part (h : PS r L T p os) : PR σ M L T g p os r (m_X9_part (some M) (ovs σ M r g)) := by
  have hT := h.1
  have hL := hT.2.1
  have ha := h.2.1
  have hpL := h.2.2.1
  have hlen := h.2.2.2.2.1
  unfold m_X9_part
  by_cases hd : p < L ∧ 48 ≤ T p ∧ T p ≤ 52
  · simp only [ob_s, q_isSignY hT ha (lo := 48) (hi := 52) 48 52 rfl rfl (by decide) (by decide) hd, Option.bind_some, bnd_some]
    rw [if_neg one_ne]
    obtain ⟨r', k, hr⟩ := q_wordsP (σ := σ) (M := M) (g := g) h hd.1 hd.2
    refine ⟨r', k, ?_⟩
    rcases hr with ⟨p', x1, x2, x3, x4⟩ | ⟨p', os1, s, x1, x2, x3, x4, x5, x6, x7, x8⟩
    · exact Or.inl ⟨p', x1, by rw [x2]; rfl, x3, x4⟩
    · exact Or.inr ⟨p', os1, s, by rw [x1]; rfl, x2, x3, x4, x5, x6, x7, x8⟩
  simp only [ob_s, q_isSignN hT ha hpL (lo := 48) (hi := 52) 48 52 rfl rfl (by decide) (by decide) hd, Option.bind_some, bnd_some, if_true]
  by_cases ht : p < L ∧ T p = 116
  · simp only [q_accY hT ha (c := 116) (n := 116) rfl (by decide) ht.1 ht.2, bnd_some]
    rw [if_neg one_ne]
    have P1 := h.at (p' := p + 1) (by omega) (by omega)
    have f0 : FA T L 0 p = FA T L 5 (p + 1) := FA_go ht.1 (nx0T ht.2)
    simp only [ob_s, Option.bind_some]
    unfold m_X9_beats
    by_cases h1 : p + 1 < L ∧ 49 ≤ T (p + 1) ∧ T (p + 1) ≤ 57
    · have P2 := P1.at (p' := p + 2) (by omega) (by omega)
      have f1 : FA T L 0 p = FA T L 6 (p + 2) := f0.trans (FA_go h1.1 (nx5Y h1.2))
      have b1 : nI (T (p + 1)) - 48 = nI (T (p + 1) - 48) := by rw [show (48 : Int32) = nI 48 from rfl, pk_sub (by omega)]
      have z1 : ((10 : Int32) * 0 + nI (T (p + 1))) - 48 = nI (T (p + 1)) - 48 := by rw [show (10 : Int32) * 0 = 0 from rfl, Int32.zero_add]
      have d1 : dgI (nI (SN T L (p + 1))) = 1 := by
        rw [show SN T L (p + 1) = T (p + 1) from if_pos h1.1, dg_N (by omega), if_pos (by omega)]
      simp only [ob_s, q_isSignY P1.1 P1.2.1 (lo := 49) (hi := 57) 49 57 rfl rfl (by decide) (by decide) h1, Option.bind_some, bnd_some]
      rw [if_neg one_ne]
      simp only [gR_s_9, gI_s_14, P1.2.1, sld_10 (show p + 1 < 80 by omega), (P1.1.2.2 (p + 1) h1.1).1, pI_s_14, Option.bind_some, ← nI_succ, ob_s]
      by_cases h2 : p + 2 < L ∧ 48 ≤ T (p + 2) ∧ T (p + 2) ≤ 57
      · have P3 := P2.at (p' := p + 3) (by omega) (by omega)
        have f2 : FA T L 0 p = FA T L 7 (p + 3) := f1.trans (FA_go h2.1 (nx6Y h2.2))
        have d2 : dgI (nI (SN T L (p + 2))) = 1 := by
          rw [show SN T L (p + 2) = T (p + 2) from if_pos h2.1, dg_N (by omega), if_pos (by omega)]
        have eb : btI T L p = ((10 : Int32) * (nI (T (p + 1)) - 48) + nI (T (p + 2))) - 48 := by
          unfold btI
          rw [d1, d2, if_neg one_ne, if_neg one_ne, show SN T L (p + 1) = T (p + 1) from if_pos h1.1, show SN T L (p + 2) = T (p + 2) from if_pos h2.1, z1]
        have q3 := q_b75 (σ := σ) (M := M) (g := g) P3 (by omega) (btI T L p)
        have gb : btI T L p = nI (10 * (T (p + 1) - 48) + T (p + 2) - 48) := by
          rw [eb, b1, show (10 : Int32) = nI 10 from rfl, nI_mul, nI_add, show (48 : Int32) = nI 48 from rfl, pk_sub (by omega)]
        refine ⟨_, ?_, Or.inr ⟨p + 3, [(9, btI T L p)], 7, ?_, by omega, P3.ord rfl 9 (btI T L p) (by omega), Or.inr (Or.inr rfl), f2, fun _ e => nx7N e, fun o ho => ?_, fun sp => ⟨sp, ?_⟩⟩⟩
        · exact (TK_13 _ _).trans ((TK_9 _ _ _).trans ((TK_9 _ _ _).trans ((TK_at _ _).trans ((TK_at _ _).trans (TK_at _ _)))))
        · rw [show p + 1 + 1 = p + 2 from rfl]
          simp only [q_isSignY P2.1 P2.2.1 (lo := 48) (hi := 57) 48 57 rfl rfl (by decide) (by decide) h2, Option.bind_some, bnd_some]
          rw [if_neg one_ne]
          simp only [gR_s_9, gI_s_14, P2.2.1, sld_10 (show p + 2 < 80 by omega), (P2.1.2.2 (p + 2) h2.1).1, pI_s_14, Option.bind_some, ← nI_succ, ← eb]
          rw [show p + 2 + 1 = p + 3 from rfl, q3]
          simp only [bnd_some]
          rw [if_neg one_ne]
          rfl
        · have ho := List.mem_singleton.mp ho
          subst ho
          exact fun _ => ⟨_, by omega, by omega, gb⟩
        · rw [SC_t ht.1 ht.2, SC_skip h1.1 (by omega) (by omega) (by omega), SC_skip h2.1 (by omega) (by omega) (by omega)]
          rfl
      · have d2 : dgI (nI (SN T L (p + 2))) = 0 := by
          unfold SN
          by_cases hx : p + 2 < L
          · rw [if_pos hx, dg_N (by have := (hT.2.2 (p + 2) hx).2.2; omega), if_neg (fun e => h2 ⟨hx, e⟩)]
          · rw [if_neg hx]; decide
        have eb : btI T L p = nI (T (p + 1)) - 48 := by
          unfold btI
          rw [d1, d2, if_neg one_ne, if_pos rfl, show SN T L (p + 1) = T (p + 1) from if_pos h1.1, z1]
        have q3 := q_b75 (σ := σ) (M := M) (g := g) P2 (by omega) (btI T L p)
        refine ⟨_, ?_, Or.inr ⟨p + 2, [(9, btI T L p)], 6, ?_, by omega, P2.ord rfl 9 (btI T L p) (by omega), Or.inr (Or.inl rfl), f1, fun e1 e => nx6N (fun e2 => h2 ⟨e1, e2⟩) e, fun o ho => ?_, fun sp => ⟨sp, ?_⟩⟩⟩
        · exact (TK_13 _ _).trans ((TK_9 _ _ _).trans ((TK_9 _ _ _).trans ((TK_at _ _).trans (TK_at _ _))))
        · rw [show p + 1 + 1 = p + 2 from rfl]
          simp only [q_isSignN P2.1 P2.2.1 (by omega) (lo := 48) (hi := 57) 48 57 rfl rfl (by decide) (by decide) h2, Option.bind_some, bnd_some, if_true, ← eb]
          rw [q3]
          simp only [bnd_some]
          rw [if_neg one_ne]
          rfl
        · have ho := List.mem_singleton.mp ho
          subst ho
          exact fun _ => ⟨T (p + 1) - 48, by omega, by omega, eb.trans b1⟩
        · rw [SC_t ht.1 ht.2, SC_skip h1.1 (by omega) (by omega) (by omega)]
          rfl
    · refine ⟨_, TK_at _ _, Or.inl ⟨p + 1, by omega, ?_, P1.2.1, f0.trans (FA_stop (by omega) (by omega) (fun e1 => nx5N (fun e => h1 ⟨e1, e⟩)))⟩⟩
      simp only [ob_s, q_isSignN P1.1 P1.2.1 (by omega) (lo := 49) (hi := 57) 49 57 rfl rfl (by decide) (by decide) h1, Option.bind_some, bnd_some, if_true]
      rfl
  · refine ⟨r, TK.refl r, Or.inl ⟨p, hpL, ?_, ha, FA_stop hpL (by omega) (fun e1 => nx0N (fun e => hd ⟨e1, e⟩) (fun e => ht ⟨e1, e⟩))⟩⟩
    simp only [q_accN hT ha hpL (c := 116) (n := 116) rfl (by decide) ht, bnd_some, if_true]
    rfl
end PRT
