/-! LEVEL 2: the text, first: the class's automaton by numbers -/
def cdN (c : Nat) : Option Nat := if 48 ≤ c ∧ c ≤ 51 then some (c - 48) else if c = 43 then some 4 else if c = 45 then some 5 else if c = 94 then some 6 else if c = 33 then some 7 else none
def nxN (s c : Nat) : Option Nat :=
  if s = 0 then (if c = 116 then some 5 else if 48 ≤ c ∧ c ≤ 52 then some 1 else none)
  else if s = 1 then (if c = 58 then some 2 else none)
  else if s = 2 then (if 65 ≤ c ∧ c ≤ 68 then some 3 else none)
  else if s = 3 then (if (cdN c).isSome then some 4 else none)
  else if s = 4 then (if c = 44 then some 0 else if 65 ≤ c ∧ c ≤ 68 then some 3 else none)
  else if s = 5 then (if 49 ≤ c ∧ c ≤ 57 then some 6 else none)
  else if s = 6 then (if c = 44 then some 0 else if 48 ≤ c ∧ c ≤ 57 then some 7 else none)
  else if s = 7 then (if c = 44 then some 0 else none)
  else none
def dgI (c : Int32) : Int32 := if c < 48 then 0 else if 57 < c then 0 else 1
def sdI (c : Int32) : Int32 := if dgI c = 0 then 0 else if 5 ≤ c - 48 then 0 else 1
def ltI (c : Int32) : Int32 := if c < 65 then 0 else if 69 ≤ c then 0 else 1
def cdI (c : Int32) : Int32 := if c = 33 then 7 else if c = 43 then 4 else if c = 45 then 5 else if c = 94 then 6 else if c < 48 then -1 else if 52 ≤ c then -1 else c - 48
def nxI (s c : Int32) : Int32 :=
  if s = 0 then (if c = 116 then 5 else if sdI c = 0 then -1 else 1)
  else if s = 1 then (if c = 58 then 2 else -1)
  else if s = 2 then (if ltI c = 0 then -1 else 3)
  else if s = 3 then (if cdI c = -1 then -1 else 4)
  else if s = 4 then (if c = 44 then 0 else if ltI c = 0 then -1 else 3)
  else if s = 5 then (if dgI c = 0 then -1 else if c = 48 then -1 else 6)
  else if s = 6 then (if c = 44 then 0 else if dgI c = 0 then -1 else 7)
  else if s = 7 then (if c = 44 then 0 else -1)
  else -1
theorem c_dg (c : Int32) (σ : SG) : m_X5_isDigit c σ = some (dgI c, σ) := by
  unfold m_X5_isDigit dgI
  split
  · rfl
  · split <;> rfl
theorem c_sd (c : Int32) (σ : SG) : m_X5_isSenderDigit c σ = some (sdI c, σ) := by
  unfold m_X5_isSenderDigit sdI
  simp only [c_dg, bnd_some]
  split
  · rfl
  · split <;> rfl
theorem c_lt (c : Int32) (σ : SG) : m_X5_isLetter c σ = some (ltI c, σ) := by
  unfold m_X5_isLetter ltI
  split
  · rfl
  · split <;> rfl
theorem c_cd (c : Int32) (σ : SG) : m_X5_codeOf c σ = some (cdI c, σ) := by
  unfold m_X5_codeOf cdI
  simp only [swK]
  split
  · rfl
  split
  · rfl
  split
  · rfl
  split
  · rfl
  split
  · rfl
  split <;> rfl
theorem c_nx (s c : Int32) (σ : SG) : m_X5_next s c σ = some (nxI s c, σ) := by
  unfold m_X5_next nxI
  simp only [swK, c_sd, c_lt, c_cd, c_dg, bnd_some]
  split
  · split
    · rfl
    · split <;> rfl
  split
  · split <;> rfl
  split
  · split <;> rfl
  split
  · split <;> rfl
  split
  · split
    · rfl
    · split <;> rfl
  split
  · split
    · rfl
    · split <;> rfl
  split
  · split
    · rfl
    · split <;> rfl
  split
  · split <;> rfl
  · rfl
def opI : Option Nat → Int32
  | some t => nI t
  | none => -1
theorem nx_N {s c : Nat} (hs : s < 8) (hc : c < 127) : nxI (nI s) (nI c) = opI (nxN s c) := by
  have key : ∀ s : Fin 8, ∀ c : Fin 127, nxI (nI s.val) (nI c.val) = opI (nxN s.val c.val) := by decide +kernel
  exact key ⟨s, hs⟩ ⟨c, hc⟩
theorem nx_lt {s c t : Nat} (hs : s < 8) (hc : c < 127) (h : nxN s c = some t) : t < 8 := by
  have key : ∀ s : Fin 8, ∀ c : Fin 127, (match nxN s.val c.val with | some t => decide (t < 8) | none => true) = true := by decide +kernel
  have := key ⟨s, hs⟩ ⟨c, hc⟩
  rw [show nxN (⟨s, hs⟩ : Fin 8).val (⟨c, hc⟩ : Fin 127).val = some t from h] at this
  exact of_decide_eq_true this
theorem cd_N {c : Nat} (hc : c < 127) : cdI (nI c) = opI (cdN c) := by
  have key : ∀ c : Fin 127, cdI (nI c.val) = opI (cdN c.val) := by decide +kernel
  exact key ⟨c, hc⟩
theorem lt_N {c : Nat} (hc : c < 127) : ltI (nI c) = if 65 ≤ c ∧ c ≤ 68 then 1 else 0 := by
  have key : ∀ c : Fin 127, ltI (nI c.val) = if 65 ≤ c.val ∧ c.val ≤ 68 then 1 else 0 := by decide +kernel
  exact key ⟨c, hc⟩
theorem dg_N {c : Nat} (hc : c < 127) : dgI (nI c) = if 48 ≤ c ∧ c ≤ 57 then 1 else 0 := by
  have key : ∀ c : Fin 127, dgI (nI c.val) = if 48 ≤ c.val ∧ c.val ≤ 57 then 1 else 0 := by decide +kernel
  exact key ⟨c, hc⟩
/-! where the automaton stops: from the state s at the place p, with d signs to come -/
def isEnd (s : Nat) : Prop := s = 4 ∨ s = 6 ∨ s = 7
def FAd (T : Nat → Nat) : Nat → Nat → Nat → Option Nat
  | 0, s, p => if s = 4 ∨ s = 6 ∨ s = 7 then none else some p
  | d + 1, s, p => match nxN s (T p) with
    | some t => FAd T d t (p + 1)
    | none => some p
def FA (T : Nat → Nat) (L s p : Nat) : Option Nat := FAd T (L - p) s p
theorem FA_end {T : Nat → Nat} {L s : Nat} : FA T L s L = if s = 4 ∨ s = 6 ∨ s = 7 then none else some L := by
  unfold FA
  rw [Nat.sub_self]
  rfl
theorem FA_no {T : Nat → Nat} {L s p : Nat} (hp : p < L) (h : nxN s (T p) = none) : FA T L s p = some p := by
  unfold FA
  obtain ⟨d, hd⟩ : ∃ d, L - p = d + 1 := ⟨L - p - 1, by omega⟩
  rw [hd]
  unfold FAd
  rw [h]
theorem FA_go {T : Nat → Nat} {L s p t : Nat} (hp : p < L) (h : nxN s (T p) = some t) : FA T L s p = FA T L t (p + 1) := by
  unfold FA
  obtain ⟨d, hd⟩ : ∃ d, L - p = d + 1 := ⟨L - p - 1, by omega⟩
  rw [hd, show L - (p + 1) = d by omega]
  show (match nxN s (T p) with | some t => FAd T d t (p + 1) | none => some p) = _
  rw [h]
section FFA
variable {z0 : Nat} {σ : SG} {W : Nat → NW} {P : Nat → Nat} {kp : Nat} {h : Int32} {tl : Nat} {tx : Nat → Int32} {r : RW} {g : NW} {T : Nat → Nat}
/-- the signs by numbers -/
def SG1 (T : Nat → Nat) (L : Nat) (f : Nat → Int32) : Prop := L ≤ 80 ∧ ∀ j, j < L → f j = nI (T j) ∧ 32 ≤ T j ∧ T j ≤ 126
/-- the sign at a place; behind the end 0 -/
def SN (T : Nat → Nat) (L j : Nat) : Nat := if j < L then T j else 0
theorem c_sign (H : HS z0 σ W P kp h tl tx r g) (hT : SG1 T tl tx) {j : Nat} (hj : j < 1000) : m_X5_signAt (some (z0 + 255)) (nI j) σ = some (nI (SN T tl j), σ) := by
  unfold m_X5_signAt SN
  rw [if_neg (nI_pos (by omega))]
  simp only [H.s1, H.s0, H.sl, Option.bind_some]
  have hl := hT.1
  by_cases h1 : j < tl
  · rw [if_neg (nI_ge (by omega) (by omega)), if_neg (show ¬ (80 : Int32) ≤ nI j from nI_ge (b := 80) (by omega) (by decide)), if_pos h1]
    simp only [H.sa (show j < 80 by omega), (hT.2 j h1).1, Option.bind_some]
  · rw [if_pos (nI_le (by omega) (by omega)), if_neg h1]
    rfl
theorem c_sign_m (H : HS z0 σ W P kp h tl tx r g) : m_X5_signAt (some (z0 + 255)) (nI 0 - 1) σ = some (0, σ) := by
  unfold m_X5_signAt
  rw [if_pos (by decide)]
def ffI : Option Nat → Int32
  | some p => nI p
  | none => -5
theorem c_ffL (H : HS z0 σ W P kp h tl tx r g) (hT : SG1 T tl tx) : ∀ (d p : Nat), p + d = tl → ∀ (F : Nat), d < F → ∀ s, s < 8 → m_X5_firstFault_L4 F (some (z0 + 255)) (nI s) (nI p) σ = some (ffI (FA T tl s p), σ) := by
  have hl := hT.1
  intro d
  induction d with
  | zero =>
    intro p hp F hF s hs
    obtain ⟨F, rfl⟩ : ∃ m, F = m + 1 := ⟨F - 1, by omega⟩
    obtain rfl : p = tl := by omega
    rw [show m_X5_firstFault_L4 (F + 1) = m_X5_firstFault_B4 (m_X5_firstFault_L4 F) from rfl]
    unfold m_X5_firstFault_B4 m_X5_firstFault_b52 m_X5_firstFault_b57
    simp only [H.s1, Option.bind_some]
    rw [if_pos (nI_le (Nat.le_refl _) (by omega)), FA_end]
    have hs8 : s = 0 ∨ s = 1 ∨ s = 2 ∨ s = 3 ∨ s = 4 ∨ s = 5 ∨ s = 6 ∨ s = 7 := by omega
    rcases hs8 with rfl | rfl | rfl | rfl | rfl | rfl | rfl | rfl <;> rfl
  | succ d ih =>
    intro p hp F hF s hs
    obtain ⟨F, rfl⟩ : ∃ m, F = m + 1 := ⟨F - 1, by omega⟩
    rw [show m_X5_firstFault_L4 (F + 1) = m_X5_firstFault_B4 (m_X5_firstFault_L4 F) from rfl]
    unfold m_X5_firstFault_B4
    have hp' : p < tl := by omega
    have h126 := (hT.2 p hp').2.2
    simp only [H.s1, H.oS, c_sign H hT (show p < 1000 by omega), c_nx, Option.bind_some, bnd_some]
    rw [if_neg (nI_ge (by omega) (by omega)), show SN T tl p = T p from if_pos hp', nx_N hs (by omega)]
    cases e : nxN s (T p) with
    | none =>
      rw [FA_no hp' e]
      rfl
    | some t =>
      have ht := nx_lt hs (by omega) e
      rw [FA_go hp' e, if_neg (show ¬ opI (some t) = -1 from fun e => by
        have h0 : ¬ nI t < 0 := nI_pos (by omega)
        exact h0 (by rw [show nI t = -1 from e]; decide))]
      rw [← nI_succ]
      exact ih (p + 1) (by omega) F (by omega) t ht
theorem c_ff (H : HS z0 σ W P kp h tl tx r g) (hT : SG1 T tl tx) : m_X5_firstFault (some (z0 + 255)) σ = some (ffI (FA T tl 0 0), σ) := by
  have e := c_ffL H hT tl 0 (by omega) 1000 (by have := hT.1; omega) 0 (by decide)
  rw [← nI0] at e
  exact e
end FFA
