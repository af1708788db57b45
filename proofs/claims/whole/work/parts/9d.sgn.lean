/-! LEVEL 2: the text, second: what the class will find in it; the reference's signs and words -/
/-- the word at a letter -/
def wdI (T : Nat → Nat) (L i : Nat) : Int32 := ((8 : Int32) * (nI (T i) - 65)) + cdI (nI (SN T L (i + 1)))
/-- the beats behind a t -/
def btI (T : Nat → Nat) (L i : Nat) : Int32 :=
  if dgI (nI (SN T L (i + 1))) = 0 then 0
  else if dgI (nI (SN T L (i + 2))) = 0 then ((10 : Int32) * 0 + nI (SN T L (i + 1))) - 48
  else ((10 : Int32) * (((10 : Int32) * 0 + nI (SN T L (i + 1))) - 48) + nI (SN T L (i + 2))) - 48
/-- the orders from a place on, with the speaker so far -/
def SCd (T : Nat → Nat) (L : Nat) : Nat → Nat → Int32 → List (Int32 × Int32)
  | 0, _, _ => []
  | d + 1, i, sp => if T i = 58 then SCd T L d (i + 1) ((if i = 0 then 0 else nI (SN T L (i - 1))) - 48)
    else if T i = 116 then (9, btI T L i) :: SCd T L d (i + 1) sp
    else if 65 ≤ T i ∧ T i ≤ 68 then ((if sp = 9 then 10 else sp), wdI T L i) :: SCd T L d (i + 1) sp
    else SCd T L d (i + 1) sp
def SC (T : Nat → Nat) (L i : Nat) (sp : Int32) : List (Int32 × Int32) := SCd T L (L - i) i sp
theorem SC_st {T : Nat → Nat} {L i : Nat} {sp : Int32} (h : i < L) : SC T L i sp = if T i = 58 then SC T L (i + 1) ((if i = 0 then 0 else nI (SN T L (i - 1))) - 48)
    else if T i = 116 then (9, btI T L i) :: SC T L (i + 1) sp
    else if 65 ≤ T i ∧ T i ≤ 68 then ((if sp = 9 then 10 else sp), wdI T L i) :: SC T L (i + 1) sp
    else SC T L (i + 1) sp := by
  unfold SC
  obtain ⟨d, hd⟩ : ∃ d, L - i = d + 1 := ⟨L - i - 1, by omega⟩
  rw [hd, show L - (i + 1) = d by omega]
  rfl
theorem SC_end {T : Nat → Nat} {L : Nat} {sp : Int32} : SC T L L sp = [] := by
  unfold SC
  rw [Nat.sub_self]
  rfl
theorem SC_col {T : Nat → Nat} {L i : Nat} {sp : Int32} (h : i + 1 < L) (e : T (i + 1) = 58) : SC T L (i + 1) sp = SC T L (i + 2) (nI (T i) - 48) := by
  rw [SC_st h, if_pos e, if_neg (by omega), show SN T L (i + 1 - 1) = T i from if_pos (by omega)]
theorem SC_t {T : Nat → Nat} {L i : Nat} {sp : Int32} (h : i < L) (e : T i = 116) : SC T L i sp = (9, btI T L i) :: SC T L (i + 1) sp := by
  rw [SC_st h, if_neg (by omega), if_pos e]
theorem SC_let {T : Nat → Nat} {L i : Nat} {sp : Int32} (h : i < L) (e : 65 ≤ T i ∧ T i ≤ 68) : SC T L i sp = ((if sp = 9 then 10 else sp), wdI T L i) :: SC T L (i + 1) sp := by
  rw [SC_st h, if_neg (by omega), if_neg (by omega), if_pos e]
theorem SC_skip {T : Nat → Nat} {L i : Nat} {sp : Int32} (h : i < L) (e1 : T i ≠ 58) (e2 : T i ≠ 116) (e3 : ¬ (65 ≤ T i ∧ T i ≤ 68)) : SC T L i sp = SC T L (i + 1) sp := by
  rw [SC_st h, if_neg e1, if_neg e2, if_neg e3]
/-- an order that can be given: beats are from 1 to 99 -/
def GO (o : Int32 × Int32) : Prop := o.1 = 9 → ∃ N, 1 ≤ N ∧ N ≤ 99 ∧ o.2 = nI N
def TX (r : RW) (L : Nat) (T : Nat → Nat) : Prop := r 0 11 = nI L ∧ SG1 T L (r 10)
def TK (r' r : RW) : Prop := ∀ q j, q ≠ 9 → (q ≠ 0 ∨ j < 13) → r' q j = r q j
theorem TK.refl (r : RW) : TK r r := fun _ _ _ _ => rfl
theorem TK.trans {a b c : RW} (h1 : TK a b) (h2 : TK b c) : TK a c := fun q j x y => (h1 q j x y).trans (h2 q j x y)
theorem TK.tx {r' r : RW} {L : Nat} {T : Nat → Nat} (h : TK r' r) (hT : TX r L T) : TX r' L T := by
  refine ⟨(h 0 11 (by decide) (Or.inr (by decide))).trans hT.1, hT.2.1, fun j hj => ?_⟩
  rw [h 10 j (by decide) (Or.inl (by decide))]
  exact hT.2.2 j hj
theorem TK_at (r : RW) (v : Int32) : TK (up2 r 0 14 v) r := fun q j h9 h0 => up2_o (by omega)
theorem TK_9 (r : RW) (k : Nat) (v : Int32) : TK (up2 r 9 k v) r := fun q j h9 h0 => up2_o (by omega)
theorem TK_13 (r : RW) (v : Int32) : TK (up2 r 0 13 v) r := fun q j h9 h0 => up2_o (by omega)
theorem up2_self {r : RW} {k j : Nat} {v : Int32} (h : r k j = v) : up2 r k j v = r := by
  funext q i
  unfold up2
  split
  · rename_i e
    rw [e.1, e.2, h]
  · rfl
def PS (r : RW) (L : Nat) (T : Nat → Nat) (p : Nat) (os : List (Int32 × Int32)) : Prop := TX r L T ∧ r 0 14 = nI p ∧ p ≤ L ∧ r 0 13 = nI os.length ∧ 2 * os.length ≤ p ∧ ∀ k o, os[k]? = some o → r 9 (2 * k) = o.1 ∧ r 9 (2 * k + 1) = o.2
/-- the place moves on -/
theorem PS.at {r : RW} {L : Nat} {T : Nat → Nat} {p : Nat} {os : List (Int32 × Int32)} (h : PS r L T p os) {p' : Nat} (h1 : p ≤ p') (h2 : p' ≤ L) : PS (up2 r 0 14 (nI p')) L T p' os := by
  obtain ⟨a, b, c, d, e, f⟩ := h
  refine ⟨(TK_at r _).tx a, up2_i, h2, (up2_o (by omega)).trans d, by omega, fun k o hk => ?_⟩
  rw [up2_o (by omega), up2_o (by omega)]
  exact f k o hk
/-- one more order -/
theorem PS.ord {r : RW} {L : Nat} {T : Nat → Nat} {p : Nat} {os : List (Int32 × Int32)} (h : PS r L T p os) {m : Nat} (hm : m = os.length) (a b : Int32) (h2 : 2 * (m + 1) ≤ p) : PS (up2 (up2 (up2 r 9 (2 * m) a) 9 (2 * m + 1) b) 0 13 (nI (m + 1))) L T p (os ++ [(a, b)]) := by
  obtain ⟨ha, hb, hc, hd, he, hf⟩ := h
  subst hm
  refine ⟨((TK_13 _ _).trans ((TK_9 _ _ _).trans (TK_9 _ _ _))).tx ha, ?_, hc, ?_, ?_, fun k o hk => ?_⟩
  · rw [up2_o (by omega), up2_o (by omega), up2_o (by omega)]; exact hb
  · rw [up2_i, List.length_append]; rfl
  · rw [List.length_append]; exact h2
  · by_cases hkl : k < os.length
    · rw [List.getElem?_append_left hkl] at hk
      rw [up2_o (by omega), up2_o (by omega), up2_o (by omega), up2_o (by omega), up2_o (by omega), up2_o (by omega)]
      exact hf k o hk
    · by_cases hke : k = os.length
      · subst hke
        rw [List.getElem?_append_right (Nat.le_refl _), Nat.sub_self] at hk
        have ho : o = (a, b) := (Option.some.inj hk).symm
        subst ho
        rw [up2_o (by omega), up2_o (by omega), up2_i, up2_o (by omega), up2_i]
        exact ⟨rfl, rfl⟩
      · rw [List.getElem?_append_right (by omega), List.getElem?_eq_none (by simp; omega)] at hk
        exact absurd hk (by simp)
section SGN
variable {σ : SG} {M L p : Nat} {T : Nat → Nat} {r : RW} {g : NW} {os : List (Int32 × Int32)}
theorem q_isSign (h : TX r L T) (ha : r 0 14 = nI p) (hp : p ≤ L) {lo hi : Int32} {l u : Nat} (hl : lo = nI l) (hu : hi = nI u) (bl : l < 127) (bu : u < 127) : m_X9_isSign (some M) lo hi (ovs σ M r g) = some (if p < L ∧ l ≤ T p ∧ T p ≤ u then 1 else 0, ovs σ M r g) := by
  unfold m_X9_isSign
  have hL := h.2.1
  simp only [gI_s_14, gI_s_11, ha, h.1, Option.bind_some]
  by_cases h1 : p < L
  · obtain ⟨e1, e2, e3⟩ := h.2.2 p h1
    rw [if_neg (nI_ge (by omega) (by omega))]
    simp only [gR_s_9, gI_s_14, ha, sld_10 (show p < 80 by omega), e1, Option.bind_some]
    rw [hl, hu]
    by_cases h2 : l ≤ T p
    · rw [if_neg (nI_nlt h2 (by omega))]
      by_cases h3 : T p ≤ u
      · rw [if_neg (nI_nlt h3 (by omega)), if_pos ⟨h1, h2, h3⟩]; rfl
      · rw [if_pos (nI_lt (by omega) (by omega)), if_neg (by omega)]; rfl
    · rw [if_pos (nI_lt (by omega) (by omega)), if_neg (by omega)]; rfl
  · rw [if_pos (nI_le (by omega) (by omega)), if_neg (by omega)]; rfl
theorem q_isSignY (h : TX r L T) (ha : r 0 14 = nI p) {lo hi : Int32} (l u : Nat) (hl : lo = nI l) (hu : hi = nI u) (bl : l < 127) (bu : u < 127) (hc : p < L ∧ l ≤ T p ∧ T p ≤ u) : m_X9_isSign (some M) lo hi (ovs σ M r g) = some (1, ovs σ M r g) := by
  rw [q_isSign h ha (by omega) hl hu bl bu, if_pos hc]
theorem q_isSignN (h : TX r L T) (ha : r 0 14 = nI p) (hp : p ≤ L) {lo hi : Int32} (l u : Nat) (hl : lo = nI l) (hu : hi = nI u) (bl : l < 127) (bu : u < 127) (hc : ¬ (p < L ∧ l ≤ T p ∧ T p ≤ u)) : m_X9_isSign (some M) lo hi (ovs σ M r g) = some (0, ovs σ M r g) := by
  rw [q_isSign h ha hp hl hu bl bu, if_neg hc]
theorem q_accY (h : TX r L T) (ha : r 0 14 = nI p) {c : Int32} {n : Nat} (hc : c = nI n) (bn : n < 127) (h1 : p < L) (h2 : T p = n) : m_X9_accepts (some M) c (ovs σ M r g) = some (1, ovs σ M (up2 r 0 14 (nI (p + 1))) g) := by
  unfold m_X9_accepts m_X9_accepts_b21
  simp only [ob_s, q_isSignY h ha n n hc hc bn bn ⟨h1, Nat.le_of_eq h2.symm, Nat.le_of_eq h2⟩, Option.bind_some, bnd_some, gI_s_14, ha, pI_s_14]
  rw [if_neg one_ne, ← nI_succ]
  rfl
theorem q_accN (h : TX r L T) (ha : r 0 14 = nI p) (hp : p ≤ L) {c : Int32} {n : Nat} (hc : c = nI n) (bn : n < 127) (h2 : ¬ (p < L ∧ T p = n)) : m_X9_accepts (some M) c (ovs σ M r g) = some (0, ovs σ M r g) := by
  unfold m_X9_accepts m_X9_accepts_b21
  simp only [ob_s, q_isSignN h ha hp n n hc hc bn bn (fun e => h2 ⟨e.1, by omega⟩), Option.bind_some, bnd_some, gI_s_14, ha, pI_s_14]
  rw [if_pos trivial, Int32.add_zero, up2_self ha]
  rfl
theorem q_codeY (h : TX r L T) (ha : r 0 14 = nI p) (h1 : p < L) {v : Nat} (hv : cdN (T p) = some v) : m_X9_code (some M) (ovs σ M r g) = some (nI v, ovs σ M (up2 r 0 14 (nI (p + 1))) g) := by
  have hL := h.2.1
  unfold cdN at hv
  unfold m_X9_code
  by_cases c0 : 48 ≤ T p ∧ T p ≤ 51
  · rw [if_pos c0] at hv
    have hv := Option.some.inj hv
    simp only [ob_s, q_isSignY h ha (lo := 48) (hi := 51) 48 51 rfl rfl (by decide) (by decide) ⟨h1, c0⟩, Option.bind_some, bnd_some]
    rw [if_neg one_ne]
    simp only [gR_s_9, gI_s_14, ha, sld_10 (show p < 80 by omega), (h.2.2 p h1).1, pI_s_14, Option.bind_some, ← nI_succ]
    rw [show (48 : Int32) = nI 48 from rfl, pk_sub c0.1, hv]
  rw [if_neg c0] at hv
  simp only [ob_s, q_isSignN h ha (show p ≤ L by omega) (lo := 48) (hi := 51) 48 51 rfl rfl (by decide) (by decide) (fun e => c0 e.2), Option.bind_some, bnd_some, if_true]
  by_cases c1 : T p = 43
  · rw [if_pos c1] at hv
    simp only [q_accY h ha (c := 43) (n := 43) rfl (by decide) h1 c1, bnd_some]
    rw [if_neg one_ne, ← Option.some.inj hv]
    rfl
  rw [if_neg c1] at hv
  simp only [q_accN h ha (show p ≤ L by omega) (c := 43) (n := 43) rfl (by decide) (fun e => c1 e.2), bnd_some, if_true]
  by_cases c2 : T p = 45
  · rw [if_pos c2] at hv
    simp only [ob_s, q_accY h ha (c := 45) (n := 45) rfl (by decide) h1 c2, bnd_some, Option.bind_some]
    rw [if_neg one_ne, ← Option.some.inj hv]
    rfl
  rw [if_neg c2] at hv
  simp only [ob_s, q_accN h ha (show p ≤ L by omega) (c := 45) (n := 45) rfl (by decide) (fun e => c2 e.2), bnd_some, if_true, Option.bind_some]
  by_cases c3 : T p = 94
  · rw [if_pos c3] at hv
    simp only [q_accY h ha (c := 94) (n := 94) rfl (by decide) h1 c3, bnd_some]
    rw [if_neg one_ne, ← Option.some.inj hv]
    rfl
  rw [if_neg c3] at hv
  simp only [q_accN h ha (show p ≤ L by omega) (c := 94) (n := 94) rfl (by decide) (fun e => c3 e.2), bnd_some, if_true]
  by_cases c4 : T p = 33
  · rw [if_pos c4] at hv
    simp only [ob_s, q_accY h ha (c := 33) (n := 33) rfl (by decide) h1 c4, bnd_some, Option.bind_some]
    rw [if_neg one_ne, ← Option.some.inj hv]
    rfl
  · rw [if_neg c4] at hv
    exact absurd hv (by simp)
theorem q_codeN (h : TX r L T) (ha : r 0 14 = nI p) (hp : p ≤ L) (hv : p < L → cdN (T p) = none) : m_X9_code (some M) (ovs σ M r g) = some (-1, ovs σ M r g) := by
  have key : p < L → ¬ (48 ≤ T p ∧ T p ≤ 51) ∧ T p ≠ 43 ∧ T p ≠ 45 ∧ T p ≠ 94 ∧ T p ≠ 33 := by
    intro h1
    have e := hv h1
    unfold cdN at e
    by_cases c0 : 48 ≤ T p ∧ T p ≤ 51
    · rw [if_pos c0] at e; exact absurd e (by simp)
    rw [if_neg c0] at e
    by_cases c1 : T p = 43
    · rw [if_pos c1] at e; exact absurd e (by simp)
    rw [if_neg c1] at e
    by_cases c2 : T p = 45
    · rw [if_pos c2] at e; exact absurd e (by simp)
    rw [if_neg c2] at e
    by_cases c3 : T p = 94
    · rw [if_pos c3] at e; exact absurd e (by simp)
    rw [if_neg c3] at e
    by_cases c4 : T p = 33
    · rw [if_pos c4] at e; exact absurd e (by simp)
    exact ⟨c0, c1, c2, c3, c4⟩
  unfold m_X9_code
  simp only [ob_s, q_isSignN h ha hp (lo := 48) (hi := 51) 48 51 rfl rfl (by decide) (by decide) (fun e => (key e.1).1 e.2), Option.bind_some, bnd_some, if_true]
  simp only [ob_s, q_accN h ha hp (c := 43) (n := 43) rfl (by decide) (fun e => (key e.1).2.1 e.2), q_accN h ha hp (c := 45) (n := 45) rfl (by decide) (fun e => (key e.1).2.2.1 e.2), q_accN h ha hp (c := 94) (n := 94) rfl (by decide) (fun e => (key e.1).2.2.2.1 e.2), q_accN h ha hp (c := 33) (n := 33) rfl (by decide) (fun e => (key e.1).2.2.2.2 e.2), bnd_some, if_true, Option.bind_some]
/-- no letter: nothing is read -/
theorem q_wordN (h : TX r L T) (ha : r 0 14 = nI p) (hp : p ≤ L) (hn : ¬ (p < L ∧ 65 ≤ T p ∧ T p ≤ 68)) (a : Int32) : m_X9_word (some M) a (ovs σ M r g) = some (0, ovs σ M r g) := by
  unfold m_X9_word
  simp only [ob_s, q_isSignN h ha hp (lo := 65) (hi := 68) 65 68 rfl rfl (by decide) (by decide) hn, Option.bind_some, bnd_some, if_true]
  rfl
theorem q_wordY (h : PS r L T p os) (hc : p < L ∧ 65 ≤ T p ∧ T p ≤ 68) (h1 : p + 1 < L) {v : Nat} (hv : cdN (T (p + 1)) = some v) (a : Int32) : ∃ r', m_X9_word (some M) a (ovs σ M r g) = some (1, ovs σ M r' g) ∧ TK r' r ∧ PS r' L T (p + 2) (os ++ [(a, wdI T L p)]) := by
  have hT := h.1
  have hL := hT.2.1
  have ha := h.2.1
  have h13 := h.2.2.2.1
  have h2 := h.2.2.2.2.1
  have P1 := h.at (p' := p + 1) (by omega) (by omega)
  have P2 := P1.at (p' := p + 2) (by omega) (by omega)
  have ec := q_codeY (σ := σ) (M := M) (g := g) P1.1 P1.2.1 h1 hv
  have hwd : ((8 : Int32) * (nI (T p) - 65)) + nI v = wdI T L p := by
    unfold wdI
    rw [show SN T L (p + 1) = T (p + 1) from if_pos h1, cd_N (by have := (hT.2.2 (p + 1) h1).2.2; omega), hv]
    rfl
  have hvn : ¬ nI v < 0 := nI_pos (by
    unfold cdN at hv
    have := (hT.2.2 (p + 1) h1).2.2
    split at hv
    · have := Option.some.inj hv; omega
    split at hv
    · have := Option.some.inj hv; omega
    split at hv
    · have := Option.some.inj hv; omega
    split at hv
    · have := Option.some.inj hv; omega
    split at hv
    · have := Option.some.inj hv; omega
    · exact absurd hv (by simp))
  have m2 : (2 : Int32) * nI os.length = nI (2 * os.length) := by rw [show (2 : Int32) = nI 2 from rfl, nI_mul]
  refine ⟨_, ?_, ?_, P2.ord rfl a (wdI T L p) (by omega)⟩
  · unfold m_X9_word m_X9_word_b86
    simp only [ob_s, q_isSignY hT ha (lo := 65) (hi := 68) 65 68 rfl rfl (by decide) (by decide) hc, Option.bind_some, bnd_some]
    rw [if_neg one_ne]
    simp only [gR_s_9, gR_s_8, gI_s_14, gI_s_13, ha, sld_10 (show p < 80 by omega), (hT.2.2 p hc.1).1, pI_s_14, Option.bind_some, ← nI_succ, ob_s, ec, bnd_some, P2.2.2.2.1, m2, sst_9 (show 2 * os.length < 82 by omega)]
    simp only [up2_o (show ¬ ((0 : Nat) = 9 ∧ (13 : Nat) = 2 * os.length) by omega), up2_o (show ¬ ((0 : Nat) = 0 ∧ (13 : Nat) = 14) by omega), h13, m2, ← nI_succ, sst_9 (show 2 * os.length + 1 < 82 by omega), Option.bind_some, gR_s_8, gI_s_13, up2_o (show ¬ ((0 : Nat) = 9 ∧ (13 : Nat) = 2 * os.length + 1) by omega), hwd, pI_s_13]
    rw [if_neg hvn, if_neg hvn]
    rfl
  · exact (TK_13 _ _).trans ((TK_9 _ _ _).trans ((TK_9 _ _ _).trans ((TK_at _ _).trans (TK_at _ _))))
/-- a letter without a code -/
theorem q_wordB (h : PS r L T p os) (hc : p < L ∧ 65 ≤ T p ∧ T p ≤ 68) (hv : p + 1 < L → cdN (T (p + 1)) = none) (a : Int32) : ∃ r', m_X9_word (some M) a (ovs σ M r g) = some (0, ovs σ M r' g) ∧ TK r' r ∧ r' 0 14 = nI (p + 1) := by
  have hT := h.1
  have hL := hT.2.1
  have ha := h.2.1
  have h13 := h.2.2.2.1
  have h2 := h.2.2.2.2.1
  have P1 := h.at (p' := p + 1) (by omega) (by omega)
  have ec := q_codeN (σ := σ) (M := M) (g := g) P1.1 P1.2.1 P1.2.2.1 hv
  have m2 : (2 : Int32) * nI os.length = nI (2 * os.length) := by rw [show (2 : Int32) = nI 2 from rfl, nI_mul]
  refine ⟨_, by
    unfold m_X9_word m_X9_word_b86
    simp only [ob_s, q_isSignY hT ha (lo := 65) (hi := 68) 65 68 rfl rfl (by decide) (by decide) hc, Option.bind_some, bnd_some]
    rw [if_neg one_ne]
    simp only [gR_s_9, gR_s_8, gI_s_14, gI_s_13, ha, sld_10 (show p < 80 by omega), (hT.2.2 p hc.1).1, pI_s_14, Option.bind_some, ← nI_succ, ob_s, ec, bnd_some, P1.2.2.2.1, m2, sst_9 (show 2 * os.length < 82 by omega)]
    simp only [up2_o (show ¬ ((0 : Nat) = 9 ∧ (13 : Nat) = 2 * os.length) by omega), up2_o (show ¬ ((0 : Nat) = 0 ∧ (13 : Nat) = 14) by omega), h13, m2, ← nI_succ, sst_9 (show 2 * os.length + 1 < 82 by omega), Option.bind_some, gR_s_8, gI_s_13, up2_o (show ¬ ((0 : Nat) = 9 ∧ (13 : Nat) = 2 * os.length + 1) by omega), pI_s_13]
    rw [if_pos (show (-1 : Int32) < 0 by decide)]
    rfl, ?_, ?_⟩
  · exact (TK_13 _ _).trans ((TK_9 _ _ _).trans ((TK_9 _ _ _).trans (TK_at _ _)))
  · rw [up2_o (by omega), up2_o (by omega), up2_o (by omega), up2_i]
end SGN
