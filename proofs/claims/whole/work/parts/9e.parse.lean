/-! LEVEL 2: the text, third: the reference's parser against the automaton -/
theorem nx4L {c : Nat} (h : 65 ≤ c ∧ c ≤ 68) : nxN 4 c = some 3 := by
  show (if c = 44 then some 0 else if 65 ≤ c ∧ c ≤ 68 then some 3 else none) = _
  rw [if_neg (by omega), if_pos h]
theorem nx4N {c : Nat} (h : ¬ (65 ≤ c ∧ c ≤ 68)) (h4 : c ≠ 44) : nxN 4 c = none := by
  show (if c = 44 then some 0 else if 65 ≤ c ∧ c ≤ 68 then some 3 else none) = _
  rw [if_neg h4, if_neg h]
theorem nx3Y {c v : Nat} (h : cdN c = some v) : nxN 3 c = some 4 := by
  show (if (cdN c).isSome then some 4 else none) = _
  rw [h]
  rfl
theorem nx3N {c : Nat} (h : cdN c = none) : nxN 3 c = none := by
  show (if (cdN c).isSome then some 4 else none) = _
  rw [h]
  rfl
theorem nx2L {c : Nat} (h : 65 ≤ c ∧ c ≤ 68) : nxN 2 c = some 3 := if_pos h
theorem nx2N {c : Nat} (h : ¬ (65 ≤ c ∧ c ≤ 68)) : nxN 2 c = none := if_neg h
theorem cdN_skip {c v : Nat} (h : cdN c = some v) : c ≠ 58 ∧ c ≠ 116 ∧ ¬ (65 ≤ c ∧ c ≤ 68) := by
  unfold cdN at h
  by_cases c0 : 48 ≤ c ∧ c ≤ 51
  · omega
  rw [if_neg c0] at h
  by_cases c1 : c = 43
  · omega
  rw [if_neg c1] at h
  by_cases c2 : c = 45
  · omega
  rw [if_neg c2] at h
  by_cases c3 : c = 94
  · omega
  rw [if_neg c3] at h
  by_cases c4 : c = 33
  · omega
  rw [if_neg c4] at h
  exact absurd h (by simp)
theorem FA_stop {T : Nat → Nat} {L s p : Nat} (hp : p ≤ L) (hs : ¬ (s = 4 ∨ s = 6 ∨ s = 7)) (h : p < L → nxN s (T p) = none) : FA T L s p = some p := by
  by_cases h1 : p < L
  · exact FA_no h1 (h h1)
  · obtain rfl : p = L := by omega
    rw [FA_end, if_neg hs]
section PRS
variable {σ : SG} {M L : Nat} {T : Nat → Nat} {g : NW}
/-- a word behind a speaker or behind another word: in the state s -/
theorem fa_word {s p v : Nat} (hc : p < L ∧ 65 ≤ T p ∧ T p ≤ 68) (hs : nxN s (T p) = some 3) (h1 : p + 1 < L) (hv : cdN (T (p + 1)) = some v) : FA T L s p = FA T L 4 (p + 2) := by
  rw [FA_go hc.1 hs, FA_go h1 (nx3Y hv)]
theorem fa_wordB {s p : Nat} (hc : p < L ∧ 65 ≤ T p ∧ T p ≤ 68) (hs : nxN s (T p) = some 3) (hv : p + 1 < L → cdN (T (p + 1)) = none) : FA T L s p = some (p + 1) := by
  rw [FA_go hc.1 hs]
  exact FA_stop (by omega) (by omega) (fun h => nx3N (hv h))
theorem sc_word {a : Int32} (ha9 : a ≠ 9) {p v : Nat} (hc : p < L ∧ 65 ≤ T p ∧ T p ≤ 68) (h1 : p + 1 < L) (hv : cdN (T (p + 1)) = some v) : SC T L p a = (a, wdI T L p) :: SC T L (p + 2) a := by
  obtain ⟨e1, e2, e3⟩ := cdN_skip hv
  rw [SC_let hc.1 hc.2, SC_skip h1 e1 e2 e3, if_neg ha9]
theorem cd_or (T : Nat → Nat) (L p : Nat) : (p + 1 < L ∧ ∃ v, cdN (T (p + 1)) = some v) ∨ (p + 1 < L → cdN (T (p + 1)) = none) := by
  by_cases h : p + 1 < L
  · cases e : cdN (T (p + 1)) with
    | none => exact Or.inr (fun _ => rfl)
    | some v => exact Or.inl ⟨h, v, rfl⟩
  · exact Or.inr (fun h' => absurd h' h)
theorem q_wordsL {a : Int32} (ha9 : a ≠ 9) : ∀ (n p : Nat) (r : RW) (os : List (Int32 × Int32)) (F : Nat), L - p ≤ n → n < F → PS r L T p os → ∃ r', TK r' r ∧
    ((∃ p', p' ≤ L ∧ m_X9_words_L46 F (some M) a 1 (ovs σ M r g) = some (0, ovs σ M r' g) ∧ r' 0 14 = nI p' ∧ FA T L 4 p = some p') ∨
     ∃ p' os1, m_X9_words_L46 F (some M) a 1 (ovs σ M r g) = some (1, ovs σ M r' g) ∧ p ≤ p' ∧ PS r' L T p' (os ++ os1) ∧ FA T L 4 p = FA T L 4 p' ∧ (p' < L → T p' ≠ 44 → nxN 4 (T p') = none) ∧ (∀ o ∈ os1, GO o) ∧ SC T L p a = os1 ++ SC T L p' a) := by
  intro n
  induction n with
  | zero =>
    intro p r os F hn hF h
    obtain ⟨F, rfl⟩ : ∃ m, F = m + 1 := ⟨F - 1, by omega⟩
    have hpL := h.2.2.1
    refine ⟨r, TK.refl r, Or.inr ⟨p, [], ?_, Nat.le_refl _, by rw [List.append_nil]; exact h, rfl, fun e => absurd e (by omega), fun o ho => absurd ho (by simp), rfl⟩⟩
    rw [show m_X9_words_L46 (F + 1) = m_X9_words_B46 (m_X9_words_L46 F) from rfl]
    unfold m_X9_words_B46
    rw [if_neg one_ne]
    simp only [ob_s, q_isSignN h.1 h.2.1 hpL (lo := 65) (hi := 68) 65 68 rfl rfl (by decide) (by decide) (fun e => by omega), Option.bind_some, bnd_some, if_true]
    rfl
  | succ n ih =>
    intro p r os F hn hF h
    obtain ⟨F, rfl⟩ : ∃ m, F = m + 1 := ⟨F - 1, by omega⟩
    have hpL := h.2.2.1
    rw [show m_X9_words_L46 (F + 1) = m_X9_words_B46 (m_X9_words_L46 F) from rfl]
    unfold m_X9_words_B46
    rw [if_neg one_ne]
    by_cases hc : p < L ∧ 65 ≤ T p ∧ T p ≤ 68
    · rcases cd_or T L p with ⟨h1, v, hv⟩ | hv
      · obtain ⟨r1, e1, k1, P1⟩ := q_wordY (σ := σ) (M := M) (g := g) h hc h1 hv a
        obtain ⟨r2, k2, hr⟩ := ih (p + 2) r1 (os ++ [(a, wdI T L p)]) F (by omega) (by omega) P1
        refine ⟨r2, k2.trans k1, ?_⟩
        simp only [ob_s, q_isSignY h.1 h.2.1 (lo := 65) (hi := 68) 65 68 rfl rfl (by decide) (by decide) hc, Option.bind_some, bnd_some, e1]
        rw [if_neg one_ne, fa_word hc (nx4L hc.2) h1 hv, sc_word ha9 hc h1 hv]
        rcases hr with ⟨p', x1, x2, x3, x4⟩ | ⟨p', os1, x1, x2, x3, x4, x5, x6, x7⟩
        · exact Or.inl ⟨p', x1, x2, x3, x4⟩
        · refine Or.inr ⟨p', (a, wdI T L p) :: os1, x1, by omega, ?_, x4, x5, fun o ho => ?_, by rw [x7]; rfl⟩
          · rw [List.append_assoc] at x3
            exact x3
          · rcases List.mem_cons.mp ho with e | e
            · subst e; exact fun e => absurd e ha9
            · exact x6 o e
      · obtain ⟨r1, e1, k1, a1⟩ := q_wordB (σ := σ) (M := M) (g := g) h hc hv a
        refine ⟨r1, k1, Or.inl ⟨p + 1, by omega, ?_, a1, fa_wordB hc (nx4L hc.2) hv⟩⟩
        obtain ⟨F, rfl⟩ : ∃ m, F = m + 1 := ⟨F - 1, by omega⟩
        simp only [ob_s, q_isSignY h.1 h.2.1 (lo := 65) (hi := 68) 65 68 rfl rfl (by decide) (by decide) hc, Option.bind_some, bnd_some, e1]
        rw [if_neg one_ne, show m_X9_words_L46 (F + 1) = m_X9_words_B46 (m_X9_words_L46 F) from rfl]
        unfold m_X9_words_B46
        rw [if_pos rfl]
        rfl
    · refine ⟨r, TK.refl r, Or.inr ⟨p, [], ?_, Nat.le_refl _, by rw [List.append_nil]; exact h, rfl, fun e1 e2 => nx4N (fun e => hc ⟨e1, e⟩) e2, fun o ho => absurd ho (by simp), rfl⟩⟩
      simp only [ob_s, q_isSignN h.1 h.2.1 hpL (lo := 65) (hi := 68) 65 68 rfl rfl (by decide) (by decide) hc, Option.bind_some, bnd_some, if_true]
      rfl
/-- a part of the text: it fails where the automaton does, or its orders are those that the class will find -/
def PR (σ : SG) (M L : Nat) (T : Nat → Nat) (g : NW) (p : Nat) (os : List (Int32 × Int32)) (r : RW) (out : Option (Int32 × SG)) : Prop := ∃ r', TK r' r ∧
    ((∃ p', p' ≤ L ∧ out = some (0, ovs σ M r' g) ∧ r' 0 14 = nI p' ∧ FA T L 0 p = some p') ∨
     ∃ p' os1 s, out = some (1, ovs σ M r' g) ∧ p < p' ∧ PS r' L T p' (os ++ os1) ∧ (s = 4 ∨ s = 6 ∨ s = 7) ∧ FA T L 0 p = FA T L s p' ∧ (p' < L → T p' ≠ 44 → nxN s (T p') = none) ∧ (∀ o ∈ os1, GO o) ∧ ∀ sp, ∃ sp', SC T L p sp = os1 ++ SC T L p' sp')
end PRS
