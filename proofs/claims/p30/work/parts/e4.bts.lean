/-! p30: the law's areBeats answers true -/
/-- when silence came first, up to j beats -/
def FI (g : NW) (j : Nat) (v : Int32) : Prop := (v = -5 ∧ ∀ i, i ≤ j → ¬ qs (itb i g) = 0) ∨ ∃ m, m ≤ j ∧ v = nI m ∧ qs (itb m g) = 0 ∧ ∀ i, i < m → ¬ qs (itb i g) = 0
theorem left_done {a b c d : Int32} (h : a + b = c + d) : c - a = b - d := by
  have h1 : c = a + b - d := by rw [h, Int32.add_sub_cancel]
  rw [h1, Int32.sub_eq_add_neg, Int32.sub_eq_add_neg, Int32.add_assoc a, Int32.add_comm a, Int32.add_assoc, Int32.add_right_neg, Int32.add_zero, ← Int32.sub_eq_add_neg]
section LBTS
variable {z0 T N j : Nat} {σ : SG} {g : NW} {s u : Option (Nat × NW)}
/-- the end: what was is brought back, and all goes as it went -/
theorem B_end (S : ST z0 σ (T + N) (itb N g) (some (T, g)) u) (hI : Inv g) (h1 : 1 ≤ N) (h2 : N ≤ 99) {v8 : Int32} (e8 : g 7 0 2 + v8 = itb N g 7 0 2) : ∃ σ' g' q, m_L_areBeats_b263 (some z0) (nI N) (nI T) v8 σ = some (1, σ') ∧ ST z0 σ' (T + N) g' (some (T, g)) (some q) := by
  have G := S.cg
  obtain ⟨σ1, g1, er, hs, S1⟩ := A_restore S
  obtain ⟨t, σ2, ep, et, S2⟩ := A_pass S1 h1 h2
  have G1 := S1.cg
  have G2 := S2.cg
  have hs : Same g1 g := hs
  have er : m_X8_restore (some z0) σ = some (nI T, σ1) := er
  have hN : Same (itb N g1) (itb N g) := Same.q_itb N hs hI
  have ht : t = v8 := by
    rw [hN 7 0 2 (ok7 (by decide)), hs 7 0 2 (ok7 (by decide)), ← e8] at et
    exact (add_canc et).symm
  have c2 : ∀ {τ : SG} {h : NW}, CG z0 τ h → m_X8_total (some z0) 2 τ = some (h 7 0 2, τ) := fun G => C_total G (j := 2) (by decide)
  have c3 : ∀ {τ : SG} {h : NW}, CG z0 τ h → m_X8_total (some z0) 3 τ = some (h 7 0 3, τ) := fun G => C_total G (j := 3) (by decide)
  have c4 : ∀ {τ : SG} {h : NW}, CG z0 τ h → m_X8_total (some z0) 4 τ = some (h 7 0 4, τ) := fun G => C_total G (j := 4) (by decide)
  refine ⟨σ2, _, _, ?_, S2⟩
  unfold m_L_areBeats_b263 m_L_areBeats_b268
  simp only [G.oX, c2 G, c3 G, c4 G, Option.bind_some, bnd_some]
  rw [if_neg one_ne]
  simp only [er, G1.oX, ep, ht, G2.oX, c2 G2, c3 G2, c4 G2, hN 7 0 2 (ok7 (by decide)), hN 7 0 3 (ok7 (by decide)), hN 7 0 4 (ok7 (by decide)), Option.bind_some, bnd_some, if_true]
  rfl
/-- behind the beats -/
theorem B_behind (S : ST z0 σ (T + N) (itb N g) (some (T, g)) u) (hI : Inv g) (h1 : 1 ≤ N) (h2 : N ≤ 99) {i : Nat} (hi : i < 8) {v5 v8 v9 : Int32} (e8 : g 7 0 2 + v8 = itb N g 7 0 2) (e9 : FI g N v9) (e5 : (g 3 i 0 = 0 ∧ v5 = -1) ∨ (g 3 i 0 = 1 ∧ v5 = itb N g 3 i 4)) : ∃ σ' g' q, m_L_areBeats_b192 (some z0) (silV g 601 0) (nI i) (nI N) v5 (nI T) (g 7 0 2) v8 v9 1 σ = some (1, σ') ∧ ST z0 σ' (T + N) g' (some (T, g)) (some q) := by
  have G := S.cg
  obtain ⟨σ', g', q, e, S'⟩ := B_end S hI h1 h2 e8
  refine ⟨σ', g', q, ?_, S'⟩
  have c2 : m_X8_total (some z0) 2 σ = some (itb N g 7 0 2, σ) := C_total G (j := 2) (by decide)
  have mid : m_L_areBeats_b239 (some z0) (silV g 601 0) (nI N) (nI T) v8 v9 σ = some (1, σ') := by
    unfold m_L_areBeats_b239
    rcases e9 with ⟨rfl, hn⟩ | ⟨m, hm, rfl, h0, hn⟩
    · rw [if_neg (by decide)]
      rcases silV_miss 601 0 N g hn with hz | ⟨j, h3, h4, h5⟩
      · rw [hz, if_pos (by decide)]
        exact e
      · rw [h5, Nat.zero_add, if_neg (nI_pos (by omega)), if_neg (nI_ge h3 (by omega))]
        exact e
    · rw [if_pos (nI_pos' (by omega)), silV_hit 601 0 m g hn h0 (by omega), Nat.zero_add, if_pos rfl]
      exact e
  unfold m_L_areBeats_b192
  rw [if_neg one_ne]
  simp only [G.oX, c2, Option.bind_some, bnd_some]
  rw [if_pos (by rw [← e8, add_sub_self])]
  rcases e5 with ⟨hp, rfl⟩ | ⟨hp, rfl⟩
  · have hp' : itb N g 3 i 0 = 0 := (itb_30 N g i).trans hp
    simp only [C_lamp_no G hi hp', bnd_some]
    rw [if_neg (by decide), if_pos trivial]
    exact mid
  · have hp' : itb N g 3 i 0 = 1 := (itb_30 N g i).trans hp
    obtain ⟨-, w, hw, ew⟩ := S.jt.2.2.2.1 i hi hp'
    simp only [C_lamp_0 G hi hp', C_lamp_3 G hi hp', G.oX, ew, Option.bind_some, bnd_some, if_true]
    rw [if_pos (nI_pos' (by omega))]
    exact mid
/-- a beat -/
theorem B_turn (S : ST z0 σ (T + j) (itb j g) s u) (hT : T + j + 1 < 2 ^ 31) {N : Nat} (hN : N < 100) (hj : j < N) (rec82 : Option Nat → Int32 → Int32 → Int32 → Int32 → Int32 → Int32 → Int32 → Int32 → Int32 → Int32 → SG → Option (Int32 × SG)) (v2 v3 v5 v7 : Int32) {v8 v9 : Int32} (e8 : g 7 0 2 + v8 = itb j g 7 0 2) (e9 : FI g j v9) :
    ∃ σ' v8' v9' q, m_L_areBeats_B82 rec82 (some z0) v2 v3 (nI N) v5 (nI T) v7 v8 v9 1 (nI (j + 1)) σ = rec82 (some z0) v2 v3 (nI N) v5 (nI T) v7 v8' v9' 1 (nI (j + 2)) σ' ∧ ST z0 σ' (T + (j + 1)) (itb (j + 1) g) s (some q) ∧ g 7 0 2 + v8' = itb (j + 1) g 7 0 2 ∧ FI g (j + 1) v9' := by
  have G := S.cg
  obtain ⟨t, σ', ep, et, S'⟩ := A_pass S (N := 1) (Nat.le_refl 1) (by omega)
  rw [← itb_add] at et S'
  have ep : m_X8_pass (some z0) 1 σ = some (t, σ') := ep
  have S' : ST z0 σ' (T + (j + 1)) (itb (j + 1) g) s (some (T + j, itb j g)) := S'
  have G' := S'.cg
  have e8' : g 7 0 2 + (v8 + t) = itb (j + 1) g 7 0 2 := by rw [← Int32.add_assoc, e8]; exact et.symm
  have c0 : ∀ {τ : SG} {h : NW}, CG z0 τ h → m_X8_total (some z0) 0 τ = some (h 7 0 0, τ) := fun G => C_total G (j := 0) (by decide)
  have qb : qs (itb j g) - qs (itb (j + 1) g) = itb (j + 1) g 7 0 0 - itb j g 7 0 0 := by
    have := qs_beat (itb j g)
    rw [show beatG (itb j g) = itb (j + 1) g from (itb_add j 1 g).symm] at this
    exact left_done this
  have er := L_receivers G' S'.jt (by omega)
  have last : ∀ w9 : Int32, m_L_areBeats_b138 rec82 (some z0) v2 v3 (nI N) v5 (nI T) v7 (v8 + t) (nI (j + 1)) (qs (itb j g)) (itb j g 7 0 0) w9 σ' = rec82 (some z0) v2 v3 (nI N) v5 (nI T) v7 (v8 + t) w9 1 (nI (j + 2)) σ' := by
    intro w9
    unfold m_L_areBeats_b138 m_L_areBeats_b184
    simp only [G'.oX, C_count_0 G', C_count_5 G', c0 G', S'.jt.1, nI_add, qb, er, Option.bind_some, bnd_some, if_true]
    rw [if_neg one_ne, ← nI_succ]
  have go : ∀ w9 : Int32, FI g (j + 1) w9 → m_L_areBeats_B82 rec82 (some z0) v2 v3 (nI N) v5 (nI T) v7 v8 v9 1 (nI (j + 1)) σ = m_L_areBeats_b138 rec82 (some z0) v2 v3 (nI N) v5 (nI T) v7 (v8 + t) (nI (j + 1)) (qs (itb j g)) (itb j g 7 0 0) w9 σ' → ∃ σ' v8' v9' q, m_L_areBeats_B82 rec82 (some z0) v2 v3 (nI N) v5 (nI T) v7 v8 v9 1 (nI (j + 1)) σ = rec82 (some z0) v2 v3 (nI N) v5 (nI T) v7 v8' v9' 1 (nI (j + 2)) σ' ∧ ST z0 σ' (T + (j + 1)) (itb (j + 1) g) s (some q) ∧ g 7 0 2 + v8' = itb (j + 1) g 7 0 2 ∧ FI g (j + 1) v9' := fun w9 h9 e => ⟨σ', v8 + t, w9, _, e.trans (last w9), S', e8', h9⟩
  have start : ∀ X, (if 0 ≤ v9 then m_L_areBeats_b136 rec82 (some z0) v2 v3 (nI N) v5 (nI T) v7 (v8 + t) v9 (nI (j + 1)) (qs (itb j g)) (itb j g 7 0 0) σ' else if qs (itb (j + 1) g) = 0 then m_L_areBeats_b138 rec82 (some z0) v2 v3 (nI N) v5 (nI T) v7 (v8 + t) (nI (j + 1)) (qs (itb j g)) (itb j g 7 0 0) (nI (j + 1)) σ' else m_L_areBeats_b136 rec82 (some z0) v2 v3 (nI N) v5 (nI T) v7 (v8 + t) v9 (nI (j + 1)) (qs (itb j g)) (itb j g 7 0 0) σ') = X → m_L_areBeats_B82 rec82 (some z0) v2 v3 (nI N) v5 (nI T) v7 v8 v9 1 (nI (j + 1)) σ = X := by
    intro X e
    rw [← e]
    unfold m_L_areBeats_B82
    rw [if_neg (nI_nlt (by omega) (by omega)), if_neg one_ne]
    simp only [G.oX, C_count_5 G, c0 G, ep, G'.oX, C_count_5 G', Option.bind_some, bnd_some]
  rcases e9 with ⟨rfl, hn⟩ | ⟨m, hm, rfl, h0, hn⟩
  · by_cases hz : qs (itb (j + 1) g) = 0
    · refine go (nI (j + 1)) (Or.inr ⟨j + 1, Nat.le_refl _, rfl, hz, fun i hi => hn i (by omega)⟩) (start _ ?_)
      rw [if_neg (by decide), if_pos hz]
    · refine go (-5) (Or.inl ⟨rfl, fun i hi => ?_⟩) (start _ ?_)
      · by_cases e : i = j + 1
        · rw [e]; exact hz
        · exact hn i (by omega)
      · rw [if_neg (by decide), if_neg hz]
        rfl
  · refine go (nI m) (Or.inr ⟨m, by omega, rfl, h0, hn⟩) (start _ ?_)
    rw [if_pos (nI_pos' (by omega))]
    rfl
theorem B_loop (hI : Inv g) {N : Nat} (h1 : 1 ≤ N) (hN : N ≤ 99) (hT : T + N + 1 < 2 ^ 31) {i : Nat} (hi : i < 8) {v5 : Int32} (e5 : (g 3 i 0 = 0 ∧ v5 = -1) ∨ (g 3 i 0 = 1 ∧ v5 = itb N g 3 i 4)) : ∀ (d j : Nat), j + d = N → ∀ (F : Nat), d < F → ∀ (σ : SG) (u : Option (Nat × NW)) (v8 v9 : Int32), ST z0 σ (T + j) (itb j g) (some (T, g)) u → g 7 0 2 + v8 = itb j g 7 0 2 → FI g j v9 → ∃ σ' g' q, m_L_areBeats_L82 F (some z0) (silV g 601 0) (nI i) (nI N) v5 (nI T) (g 7 0 2) v8 v9 1 (nI (j + 1)) σ = some (1, σ') ∧ ST z0 σ' (T + N) g' (some (T, g)) (some q) := by
  intro d
  induction d with
  | zero =>
    intro j hj F hF σ u v8 v9 S e8 e9
    obtain ⟨F, rfl⟩ : ∃ m, F = m + 1 := ⟨F - 1, by omega⟩
    obtain rfl : j = N := by omega
    obtain ⟨σ', g', q, e, S'⟩ := B_behind S hI h1 hN hi e8 e9 e5
    refine ⟨σ', g', q, ?_, S'⟩
    rw [show m_L_areBeats_L82 (F + 1) = m_L_areBeats_B82 (m_L_areBeats_L82 F) from rfl]
    unfold m_L_areBeats_B82
    rw [if_pos (nI_lt (Nat.lt_succ_self j) (by omega))]
    exact e
  | succ d ih =>
    intro j hj F hF σ u v8 v9 S e8 e9
    obtain ⟨F, rfl⟩ : ∃ m, F = m + 1 := ⟨F - 1, by omega⟩
    obtain ⟨σ1, v8', v9', q1, e1, S1, e8', e9'⟩ := B_turn S (by omega) (N := N) (by omega) (by omega) (m_L_areBeats_L82 F) (silV g 601 0) (nI i) v5 (g 7 0 2) e8 e9
    obtain ⟨σ', g', q, e, S'⟩ := ih (j + 1) (by omega) F (by omega) σ1 _ v8' v9' S1 e8' e9'
    refine ⟨σ', g', q, ?_, S'⟩
    rw [show m_L_areBeats_L82 (F + 1) = m_L_areBeats_B82 (m_L_areBeats_L82 F) from rfl, e1]
    exact e
theorem L_beats (S : ST z0 σ T g s u) {C : Nat} (hC : C < 2 ^ 31) (hT : T < 1000000) : ∃ σ' N g' q, m_L_areBeats (some z0) (nI C) σ = some (1, σ') ∧ N ≤ 50 ∧ ST z0 σ' (T + N) g' (some (T, g)) (some q) := by
  have hI := S.inv
  have hL : C / 64 % 8 < 8 := Nat.mod_lt _ (by decide)
  have hM : C % 50 < 50 := Nat.mod_lt _ (by decide)
  have eL : (nI C / 64) - (nI C / 64) / 8 * 8 = nI (C / 64 % 8) := by
    rw [show nI C / 64 = nI (C / 64) from pk_div (d := 64) hC (by decide) (by decide)]
    exact pk_rem (d := 8) (by omega) (by decide) (by decide)
  have eM : (1 : Int32) + (nI C - nI C / 50 * 50) = nI (1 + C % 50) := by
    rw [show nI C - nI C / 50 * 50 = nI (C % 50) from pk_rem (d := 50) hC (by decide) (by decide), one_nI]
  obtain ⟨σ1, es, S1⟩ := A_silentIn S
  have G1 := S1.cg
  generalize C / 64 % 8 = i at *
  have hN : 1 + C % 50 ≤ 50 := by omega
  have hN1 : 1 ≤ 1 + C % 50 := by omega
  generalize 1 + C % 50 = N at *
  have lev : ∃ σ2 v5, m_X8_levelIn (some z0) (nI i) (nI N) σ1 = some (v5, σ2) ∧ ST z0 σ2 T g s u ∧ ((g 3 i 0 = 0 ∧ v5 = -1) ∨ (g 3 i 0 = 1 ∧ v5 = itb N g 3 i 4)) := by
    rcases (hI.2.2.1 i hL).1 with hp | hp
    · exact ⟨σ1, -1, A_levelIn_no S1 hL hp _, S1, Or.inl ⟨hp, rfl⟩⟩
    · obtain ⟨σ2, e, S2⟩ := A_levelIn S1 (N := N) hL hp (by omega)
      exact ⟨σ2, _, e, S2, Or.inr ⟨hp, rfl⟩⟩
  obtain ⟨σ2, v5, el, S2, e5⟩ := lev
  have G2 := S2.cg
  obtain ⟨σ3, ev, S3⟩ := A_save S2
  have G3 := S3.cg
  have c2 : m_X8_total (some z0) 2 σ3 = some (g 7 0 2, σ3) := C_total G3 (j := 2) (by decide)
  have lp : ∀ v9, FI g 0 v9 → ∃ σ' g' q, m_L_areBeats_b60 (some z0) (silV g 601 0) (nI i) (nI N) v5 (nI T) (g 7 0 2) 0 v9 σ3 = some (1, σ') ∧ ST z0 σ' (T + N) g' (some (T, g)) (some q) := by
    intro v9 h9
    obtain ⟨σ', g', q, e, S'⟩ := B_loop (z0 := z0) (T := T) hI hN1 (by omega) (by omega) hL e5 N 0 (Nat.zero_add N) 1000 (by omega) σ3 _ 0 v9 S3 (Int32.add_zero _) h9
    refine ⟨σ', g', q, ?_, S'⟩
    unfold m_L_areBeats_b60 m_L_areBeats_b77
    simp only [G3.oX, C_count_0 G3, S3.jt.1, Option.bind_some, bnd_some, if_true]
    exact e
  have fin : ∀ X, (if qs g = 0 then m_L_areBeats_b60 (some z0) (silV g 601 0) (nI i) (nI N) v5 (nI T) (g 7 0 2) 0 0 σ3 else m_L_areBeats_b60 (some z0) (silV g 601 0) (nI i) (nI N) v5 (nI T) (g 7 0 2) 0 (-5) σ3) = X → m_L_areBeats (some z0) (nI C) σ = X := by
    intro X e
    rw [← e]
    unfold m_L_areBeats
    simp only [S.cg.oX, es, eL, eM, G1.oX, el, G2.oX, ev, G3.oX, c2, C_count_5 G3, Option.bind_some, bnd_some, show ¬ (64 : Int32) = 0 by decide, show ¬ (8 : Int32) = 0 by decide, show ¬ (50 : Int32) = 0 by decide, if_false]
  by_cases hz : qs g = 0
  · obtain ⟨σ', g', q, e, S'⟩ := lp 0 (Or.inr ⟨0, Nat.le_refl 0, rfl, hz, fun i hi => absurd hi (by omega)⟩)
    exact ⟨σ', N, g', q, fin _ (by rw [if_pos hz]; exact e), hN, S'⟩
  · obtain ⟨σ', g', q, e, S'⟩ := lp (-5) (Or.inl ⟨rfl, fun i hi => by
      have e0 : i = 0 := Nat.le_zero.mp hi
      subst e0
      exact hz⟩)
    exact ⟨σ', N, g', q, fin _ (by rw [if_neg hz]; exact e), hN, S'⟩
end LBTS
