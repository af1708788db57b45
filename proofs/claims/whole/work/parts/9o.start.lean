/-! LEVEL 2: constructors, fifth: the reference's; THE START: the relation holds behind both constructors -/
def g0 : NW := fun c _ j => if c = 6 then (if j = 0 then 6 else if j = 1 then 5 else if j = 2 then 4 else if j = 3 then 2 else 0) else if c = 4 then (if j = 6 then 15 else 0) else 0
def fI (k : Nat) : Nat → Int32 := fun j => if 148 ≤ j ∧ j < 148 + 7 * k ∧ (j - 148) % 7 = 6 then 15 else if j = 0 then 6 else if j = 1 then 5 else if j = 2 then 4 else if j = 3 then 2 else 0
theorem fI_all : fI 6 = flat g0 := by
  funext j
  unfold fI flat g0
  by_cases h1 : j < 4
  · rw [if_pos h1, if_neg (by omega)]
    rfl
  rw [if_neg h1]
  by_cases h2 : j < 5
  · rw [if_pos h2, if_neg (by omega), if_neg (by omega), if_neg (by omega), if_neg (by omega), if_neg (by omega)]
    rfl
  rw [if_neg h2]
  by_cases h3 : j < 10
  · rw [if_pos h3, if_neg (by omega), if_neg (by omega), if_neg (by omega), if_neg (by omega), if_neg (by omega)]
    rfl
  rw [if_neg h3]
  by_cases h4 : j < 80
  · rw [if_pos h4, if_neg (by omega), if_neg (by omega), if_neg (by omega), if_neg (by omega), if_neg (by omega)]
    rfl
  rw [if_neg h4]
  by_cases h5 : j < 100
  · rw [if_pos h5, if_neg (by omega), if_neg (by omega), if_neg (by omega), if_neg (by omega), if_neg (by omega)]
    rfl
  rw [if_neg h5]
  by_cases h6 : j < 148
  · rw [if_pos h6, if_neg (by omega), if_neg (by omega), if_neg (by omega), if_neg (by omega), if_neg (by omega)]
    rfl
  rw [if_neg h6]
  by_cases h7 : j < 190
  · rw [if_pos h7]
    rw [if_neg (show ¬ (4 : Nat) = 6 by decide), if_pos (show (4 : Nat) = 4 from rfl)]
    by_cases h8 : (j - 148) % 7 = 6
    · rw [if_pos (by omega), if_pos h8]
    · rw [if_neg (by omega), if_neg h8, if_neg (by omega), if_neg (by omega), if_neg (by omega), if_neg (by omega)]
  · rw [if_neg h7, if_neg (by omega), if_neg (by omega), if_neg (by omega), if_neg (by omega), if_neg (by omega)]
def cMp (n : Nat) (f : Nat → Int32) : Nat → CE := mdlC n (fun k j => if k = 1 then f j else 0)
section CTM
variable {σ : SG} {n m : Nat} {c : Nat → CE}
theorem cMp_up {f f' : Nat → Int32} (h : f' = f) : cMp n f' = cMp n f := by rw [h]
theorem n_mdl {k lim : Nat} (hk : k < 6) (hl : n + 11 ≤ lim) (rec : Option Nat → Int32 → SG → Option (Unit × SG)) : m_X9_init_B118 lim rec (some n) (nI k) (OL σ n 11 (cMp n (fI k))) = rec (some n) (nI (k + 1)) (OL σ n 11 (cMp n (fI (k + 1)))) := by
  unfold m_X9_init_B118
  have e0 : sGetR (some n) 8 0 (OL σ n 11 (cMp n (fI k))) = some (some (n + 1)) := OL_getR (k := 0) (by omega) rfl rfl
  rw [if_neg (show ¬ (6 : Int32) ≤ nI k from nI_ge (b := 6) hk (by decide))]
  simp only [e0, Option.bind_some]
  rw [sRoom_eq (by show n + 11 + 0 ≤ lim; omega)]
  unfold m_X9_r
  simp only [Option.bind_some, bnd_some]
  rw [sSame_OL (by omega)]
  simp only [Option.bind_some]
  rw [show (148 : Int32) + (7 : Int32) * nI k + (6 : Int32) = nI (148 + 7 * k + 6) by
    show nI 148 + nI 7 * nI k + nI 6 = _
    rw [nI_mul, nI_add, nI_add]]
  rw [OL_ast (k := 1) (by omega) (kd := 1) (N := 190) (f := fI k) rfl (i := 148 + 7 * k + 6) (by omega) (by decide)]
  simp only [Option.bind_some]
  rw [← nI_succ]
  refine congrArg (rec (some n) (nI (k + 1))) (OL_congr fun q hq => ?_)
  by_cases h1 : q = 1
  · subst h1
    rw [cu_eq]
    refine congrArg (fun f => (Sum.inr (1, 190, Sum.inl f) : CE)) (funext fun j => ?_)
    unfold upd
    show (if j = 148 + 7 * k + 6 then (15 : Int32) else fI k j) = fI (k + 1) j
    unfold fI
    by_cases hj : j = 148 + 7 * k + 6
    · rw [if_pos hj, if_pos (by omega)]
    · rw [if_neg hj]
      by_cases h2 : 148 ≤ j ∧ j < 148 + 7 * k ∧ (j - 148) % 7 = 6
      · rw [if_pos h2, if_pos (by omega)]
      · rw [if_neg h2, if_neg (show ¬ (148 ≤ j ∧ j < 148 + 7 * (k + 1) ∧ (j - 148) % 7 = 6) by omega)]
  · rw [cu_ne _ _ h1]
    unfold cMp
    exact mdlC_row fun j => by rw [if_neg h1, if_neg h1]
theorem n_mdlL {lim : Nat} (hl : n + 11 ≤ lim) : ∀ (d k : Nat), k + d = 6 → ∀ (F : Nat), d < F → m_X9_init_L118 lim F (some n) (nI k) (OL σ n 11 (cMp n (fI k))) = some ((), OL σ n 11 (cMp n (fI 6))) := by
  intro d
  induction d with
  | zero =>
    intro k hk F hF
    obtain ⟨F, rfl⟩ : ∃ m, F = m + 1 := ⟨F - 1, by omega⟩
    rw [show m_X9_init_L118 lim (F + 1) = m_X9_init_B118 lim (m_X9_init_L118 lim F) from rfl]
    obtain rfl : k = 6 := by omega
    unfold m_X9_init_B118
    rw [if_pos (show (6 : Int32) ≤ nI 6 from nI_le (a := 6) (Nat.le_refl _) (by decide)), sEnd_eq (by show n + 11 ≤ lim; omega)]
  | succ d ih =>
    intro k hk F hF
    obtain ⟨F, rfl⟩ : ∃ m, F = m + 1 := ⟨F - 1, by omega⟩
    rw [show m_X9_init_L118 lim (F + 1) = m_X9_init_B118 lim (m_X9_init_L118 lim F) from rfl, n_mdl (by omega) hl]
    exact ih (k + 1) (by omega) F (by omega)
abbrev e8 : CE := .inl (8, [.null, .null, .null, .null, .null, .null, .null, .null, .null, .null, .int 0, .int 0, .int 0, .int 0, .int 0])
theorem i_9 : m_X9_init (some n) (OL σ n 1 (fun _ => e8)) = some ((), OL σ n 11 (cMp n (flat g0))) := by
  unfold m_X9_init
  rw [show (OL σ n 1 (fun _ => e8)).2 + 10 = n + 11 from rfl]
  unfold m_X9_init_e
  rw [show sNN (some n) = some () from rfl]
  simp only [Option.bind_some]
  rw [show sNewA (n + 11) 1 (190 : Int32) (OL σ n 1 _) = _ from OL_newA (by omega) 1 (N := 190) (by decide)]
  simp only [bnd_some]
  rw [show sPutR (some n) 8 0 (some (n + 1)) (OL σ n 2 _) = _ from OL_putR (k := 0) (by omega) (ci := 8) (j := 0) rfl (by simp) _]
  simp only [Option.bind_some]
  rw [show sNewA (n + 11) 1 (190 : Int32) (OL σ n 2 _) = _ from OL_newA (by omega) 1 (N := 190) (by decide)]
  simp only [bnd_some]
  rw [show sPutR (some n) 8 1 (some (n + 2)) (OL σ n 3 _) = _ from OL_putR (k := 0) (by omega) (ci := 8) (j := 1) rfl (by simp) _]
  simp only [Option.bind_some]
  rw [show sNewA (n + 11) 1 (190 : Int32) (OL σ n 3 _) = _ from OL_newA (by omega) 1 (N := 190) (by decide)]
  simp only [bnd_some]
  rw [show sPutR (some n) 8 2 (some (n + 3)) (OL σ n 4 _) = _ from OL_putR (k := 0) (by omega) (ci := 8) (j := 2) rfl (by simp) _]
  simp only [Option.bind_some]
  rw [show sNewA (n + 11) 1 (760 : Int32) (OL σ n 4 _) = _ from OL_newA (by omega) 1 (N := 760) (by decide)]
  simp only [bnd_some]
  rw [show sPutR (some n) 8 3 (some (n + 4)) (OL σ n 5 _) = _ from OL_putR (k := 0) (by omega) (ci := 8) (j := 3) rfl (by simp) _]
  simp only [Option.bind_some]
  rw [show sNewA (n + 11) 1 (190 : Int32) (OL σ n 5 _) = _ from OL_newA (by omega) 1 (N := 190) (by decide)]
  simp only [bnd_some]
  rw [show sPutR (some n) 8 4 (some (n + 5)) (OL σ n 6 _) = _ from OL_putR (k := 0) (by omega) (ci := 8) (j := 4) rfl (by simp) _]
  simp only [Option.bind_some]
  rw [show sNewA (n + 11) 1 (6 : Int32) (OL σ n 6 _) = _ from OL_newA (by omega) 1 (N := 6) (by decide)]
  simp only [bnd_some]
  rw [show sPutR (some n) 8 5 (some (n + 6)) (OL σ n 7 _) = _ from OL_putR (k := 0) (by omega) (ci := 8) (j := 5) rfl (by simp) _]
  simp only [Option.bind_some]
  rw [show sNewA (n + 11) 1 (5 : Int32) (OL σ n 7 _) = _ from OL_newA (by omega) 1 (N := 5) (by decide)]
  simp only [bnd_some]
  rw [show sPutR (some n) 8 6 (some (n + 7)) (OL σ n 8 _) = _ from OL_putR (k := 0) (by omega) (ci := 8) (j := 6) rfl (by simp) _]
  simp only [Option.bind_some]
  rw [show sNewA (n + 11) 2 (5 : Int32) (OL σ n 8 _) = _ from OL_newA (by omega) 2 (N := 5) (by decide)]
  simp only [bnd_some]
  rw [show sPutR (some n) 8 7 (some (n + 8)) (OL σ n 9 _) = _ from OL_putR (k := 0) (by omega) (ci := 8) (j := 7) rfl (by simp) _]
  simp only [Option.bind_some]
  rw [show sNewA (n + 11) 1 (82 : Int32) (OL σ n 9 _) = _ from OL_newA (by omega) 1 (N := 82) (by decide)]
  simp only [bnd_some]
  rw [show sPutR (some n) 8 8 (some (n + 9)) (OL σ n 10 _) = _ from OL_putR (k := 0) (by omega) (ci := 8) (j := 8) rfl (by simp) _]
  simp only [Option.bind_some]
  rw [show sNewA (n + 11) 0 (80 : Int32) (OL σ n 10 _) = _ from OL_newA (by omega) 0 (N := 80) (by decide)]
  simp only [bnd_some]
  rw [show sPutR (some n) 8 9 (some (n + 10)) (OL σ n 11 _) = _ from OL_putR (k := 0) (by omega) (ci := 8) (j := 9) rfl (by simp) _]
  simp only [Option.bind_some]
  rw [show sGetR (some n) 8 0 (OL σ n 11 _) = some (some (n + 1)) from OL_getR (k := 0) (by omega) rfl rfl]
  simp only [Option.bind_some]
  rw [show sAst (some (n + 1)) 1 (0 : Int32) (6 : Int32) (OL σ n 11 _) = _ from OL_ast (k := 1) (by omega) (kd := 1) (N := 190) rfl (i := 0) (by decide) (by decide) _]
  simp only [Option.bind_some]
  rw [show sGetR (some n) 8 0 (OL σ n 11 _) = some (some (n + 1)) from OL_getR (k := 0) (by omega) rfl rfl]
  simp only [Option.bind_some]
  rw [show sAst (some (n + 1)) 1 (1 : Int32) (5 : Int32) (OL σ n 11 _) = _ from OL_ast (k := 1) (by omega) (kd := 1) (N := 190) rfl (i := 1) (by decide) (by decide) _]
  simp only [Option.bind_some]
  rw [show sGetR (some n) 8 0 (OL σ n 11 _) = some (some (n + 1)) from OL_getR (k := 0) (by omega) rfl rfl]
  simp only [Option.bind_some]
  rw [show sAst (some (n + 1)) 1 (2 : Int32) (4 : Int32) (OL σ n 11 _) = _ from OL_ast (k := 1) (by omega) (kd := 1) (N := 190) rfl (i := 2) (by decide) (by decide) _]
  simp only [Option.bind_some]
  rw [show sGetR (some n) 8 0 (OL σ n 11 _) = some (some (n + 1)) from OL_getR (k := 0) (by omega) rfl rfl]
  simp only [Option.bind_some]
  rw [show sAst (some (n + 1)) 1 (3 : Int32) (2 : Int32) (OL σ n 11 _) = _ from OL_ast (k := 1) (by omega) (kd := 1) (N := 190) rfl (i := 3) (by decide) (by decide) _]
  simp only [Option.bind_some]
  refine Eq.trans (congrArg (m_X9_init_L118 (n + 11) 1000 (some n) 0) (OL_congr (c' := cMp n (fI 0)) fun k hk => ?_)) ((n_mdlL (σ := σ) (n := n) (lim := n + 11) (Nat.le_refl _) 6 0 rfl 1000 (by decide)).trans (by rw [fI_all]))
  match k, hk with
  | 0, _ => rfl
  | 1, _ =>
    refine congrArg (fun f => (Sum.inr (1, 190, Sum.inl f) : CE)) (funext fun j => ?_)
    show upd (upd (upd (upd (fun _ => 0) 0 6) 1 5) 2 4) 3 2 j = fI 0 j
    unfold upd fI
    rw [if_neg (show ¬ (148 ≤ j ∧ j < 148 + 7 * 0 ∧ (j - 148) % 7 = 6) by omega)]
    split
    next h => subst h; rfl
    split
    next h => subst h; rfl
    split
    next h => subst h; rfl
    split
    next h => subst h; rfl
    rfl
  | 2, _ => rfl
  | 3, _ => rfl
  | 4, _ => rfl
  | 5, _ => rfl
  | 6, _ => rfl
  | 7, _ => rfl
  | 8, _ => rfl
  | 9, _ => rfl
  | 10, _ => rfl
  | k + 11, h => exact absurd h (by omega)
theorem cMn_net1 {k j : Nat} (hk : k < 3) (hj : j < 36) : cMn n (1 + 36 * k + j) = netC (n + (1 + 36 * k)) w0 j := by
  unfold cMn
  rcases (show k = 0 ∨ k = 1 ∨ k = 2 by omega) with rfl | rfl | rfl
  · rw [if_neg (by omega), if_pos (by omega), show 1 + 36 * 0 + j - 1 = j by omega]
  · rw [if_neg (by omega), if_neg (by omega), if_pos (by omega), show 1 + 36 * 1 + j - 37 = j by omega]
  · rw [if_neg (by omega), if_neg (by omega), if_neg (by omega), if_pos (by omega), show 1 + 36 * 2 + j - 73 = j by omega]
theorem cMn_net3 {k j : Nat} (h3 : 3 ≤ k) (hk : k < 7) (hj : j < 36) : cMn n (3 + 36 * k + j) = netC (n + (3 + 36 * k)) w0 j := by
  unfold cMn
  rw [if_neg (by omega), if_neg (by omega), if_neg (by omega), if_neg (by omega), if_pos (by omega)]
  unfold cHp
  rw [if_neg (by omega), if_neg (by omega), show (3 + 36 * k + j - 109 - 2) / 36 = k - 3 by omega, show (3 + 36 * k + j - 109 - 2) % 36 = j by omega, show n + 109 + 2 + 36 * (k - 3) = n + (3 + 36 * k) by omega]
theorem Rel_00 : Rel g0 w0 := by
  refine ⟨⟨fun _ _ => rfl, fun _ _ => rfl, fun _ _ => rfl, fun _ _ => rfl, fun _ _ _ => rfl, fun _ _ _ _ => rfl, fun i j h => ?_⟩, fun i _ => ⟨rfl, rfl, fun h => absurd h (by show ¬ (0 : Int32) = 1; decide), Or.inl ⟨rfl, rfl⟩, rfl, rfl, fun _ => ⟨rfl, rfl⟩⟩⟩
  rcases h with h | h
  · show (if j = 3 then (2 : Int32) else 0) = 0
    rw [if_neg h]
  · exact absurd h (by show ¬ (0 : Int32) = 1; decide)
theorem Inv_00 : Inv g0 := by
  refine ⟨fun i _ => ⟨Or.inl rfl, Or.inl rfl, fun h => absurd h (by show ¬ (0 : Int32) = 1; decide)⟩, fun i _ => ⟨Or.inl rfl, Or.inl rfl, fun h => absurd h (by show ¬ (0 : Int32) = 1; decide)⟩, fun i _ => ⟨Or.inl rfl, Or.inl rfl⟩, fun i _ => ⟨Or.inl rfl, ⟨0, by decide, rfl⟩, ⟨15, by decide, rfl⟩⟩⟩
theorem GR_start : GR n (OL (OL σ n 257 (cMn n)) (n + 257) 11 (cMp (n + 257) (flat g0))) := by
  have lo : ∀ q, q < 257 → (OL (OL σ n 257 (cMn n)) (n + 257) 11 (cMp (n + 257) (flat g0))).1 (n + q) = some (cMn n q) := fun q hq => by
    rw [OL_out (by omega), OL_at hq]
  refine ⟨fun _ => w0, fun k => k + 3, 0, 0, 0, fun _ => 0, fun _ _ => 0, g0, ⟨rfl, fun k hk j hj => ?_, lo 0 (by decide), lo 109 (by decide), ?_, lo 255 (by decide), lo 256 (by decide), fun k hk => OL_at hk⟩, Rel_00, Inv_00, ⟨⟨fun i hi => ⟨by show 3 ≤ i + 3; omega, by show i + 3 < 7; omega⟩, fun i _ j _ h => by have h : i + 3 = j + 3 := h; omega⟩, Nat.zero_le _, rfl, fun k hk => absurd hk (Nat.not_lt_zero k)⟩, ⟨rfl, Or.inl rfl, fun h => absurd h (by decide)⟩, ⟨Nat.zero_le _, rfl, fun j hj => absurd hj (Nat.not_lt_zero j)⟩⟩
  · by_cases h3 : k < 3
    · rw [show NA n k = n + (1 + 36 * k) from if_pos h3, ← cMn_net1 h3 hj, ← lo _ (by omega), Nat.add_assoc]
    · rw [show NA n k = n + (3 + 36 * k) from if_neg h3, ← cMn_net3 (by omega) hk hj, ← lo _ (by omega), Nat.add_assoc]
  · refine (lo 110 (by decide)).trans (congrArg some ?_)
    show cHp (n + 109) 4 1 = _
    unfold cHp cHA
    rw [if_neg (by decide), if_pos rfl]
    refine congrArg (fun f => (Sum.inr (5, 4, Sum.inr f) : CE)) (funext fun i => ?_)
    by_cases hi : i < 4
    · rw [if_pos hi, if_pos hi]
      show _ = some (NA n (i + 3))
      unfold NA
      rw [if_neg (by omega), show n + 109 + 2 + 36 * i = n + (3 + 36 * (i + 3)) by omega]
    · rw [if_neg hi, if_neg hi]
end CTM
