/-! LEVEL 2: constructors, fourth: the history, the text, the object, the reference; THE START -/
def ap (c : Nat → CE) (m : Nat) (d : Nat → CE) : Nat → CE := fun k => if k < m then c k else d (k - m)
theorem ap_lo {c d : Nat → CE} {m k : Nat} (h : k < m) : ap c m d k = c k := if_pos h
theorem ap_hi {c d : Nat → CE} {m k : Nat} (h : m ≤ k) : ap c m d k = d (k - m) := if_neg (Nat.not_lt.mpr h)
section CTO
variable {σ : SG} {n m : Nat} {c : Nat → CE}
theorem OL_app {p : Nat} {d : Nat → CE} : OL (OL σ n m c) (n + m) p d = OL σ n (m + p) (ap c m d) := by
  unfold OL
  refine Prod.ext (funext fun a => ?_) (Nat.add_assoc n m p)
  show (if n + m ≤ a ∧ a < n + m + p then some (d (a - (n + m))) else if n ≤ a ∧ a < n + m then some (c (a - n)) else σ.1 a) = if n ≤ a ∧ a < n + (m + p) then some (ap c m d (a - n)) else σ.1 a
  by_cases h1 : n + m ≤ a ∧ a < n + m + p
  · rw [if_pos h1, if_pos (by omega), ap_hi (by omega), Nat.sub_sub]
  · rw [if_neg h1]
    by_cases h2 : n ≤ a ∧ a < n + m
    · rw [if_pos h2, if_pos (by omega), ap_lo (by omega)]
    · rw [if_neg h2, if_neg (by omega)]
theorem OL_one {e : CE} : OL (OL σ n m c) (n + m) 1 (fun _ => e) = OL σ n (m + 1) (cu c m e) := by
  rw [OL_app]
  refine OL_congr fun k hk => ?_
  by_cases h : k = m
  · subst h; rw [ap_hi (Nat.le_refl _), cu_eq]
  · rw [ap_lo (by omega), cu_ne _ _ h]
theorem OL_zero {τ : SG} {e : CE} {lim : Nat} (hl : τ.2 + 1 ≤ lim) : sNew lim e τ = some (some τ.2, OL τ τ.2 1 (fun _ => e)) := by
  unfold sNew
  rw [if_pos hl]
  refine congrArg (fun x => some (some τ.2, x)) (Prod.ext (funext fun a => ?_) rfl)
  show hup τ.1 τ.2 e a = if τ.2 ≤ a ∧ a < τ.2 + 1 then some e else τ.1 a
  unfold hup
  by_cases h : a = τ.2
  · rw [if_pos h, if_pos (by omega)]
  · rw [if_neg h, if_neg (by omega)]
abbrev e3 : CE := .inl (3, [.null, .null, .null, .null, .null, .null, .int 0, .null])
theorem j_3 : m_X3_init (some (n + m)) (OL σ n (m + 1) (cu c m e3)) = some ((), OL σ n (m + 36) (ap c m (netC (n + m) w0))) := by
  rw [← OL_one, i_3, OL_app]
/-- the history's cells, so many Nets in its row -/
def cHp (n a : Nat) : Nat → CE := fun k => if k = 0 then .inl (0, [.ref (n + 1), .int 0]) else if k = 1 then .inr (5, 4, .inr (fun i => if i < a then some (n + 2 + 36 * i) else none)) else netC (n + 2 + 36 * ((k - 2) / 36)) w0 ((k - 2) % 36)
theorem n_his {i lim : Nat} (hi : i < 4) (hl : n + 146 ≤ lim) (rec : Option Nat → Int32 → SG → Option (Unit × SG)) : m_X0_init_B19 lim rec (some n) (nI i) (OL σ n (2 + 36 * i) (cHp n i)) = rec (some n) (nI (i + 1)) (OL σ n (2 + 36 * (i + 1)) (cHp n (i + 1))) := by
  unfold m_X0_init_B19
  have e0 : sGetR (some n) 0 0 (OL σ n (2 + 36 * i) (cHp n i)) = some (some (n + 1)) := OL_getR (k := 0) (by omega) rfl rfl
  have e1 : sLen (some (n + 1)) (OL σ n (2 + 36 * i) (cHp n i)) = some (nI 4) := OL_len (k := 1) (by omega) rfl (by decide)
  simp only [e0, e1, Option.bind_some]
  rw [if_neg (nI_ge hi (by decide)), OL_new (by omega)]
  simp only [bnd_some]
  rw [sRoom_eq (by show n + (2 + 36 * i + 1) + 35 ≤ lim; omega), ol_ob (k := 2 + 36 * i) (by omega)]
  simp only [Option.bind_some]
  rw [j_3]
  simp only [bnd_some]
  rw [sSame_OL (by omega)]
  simp only [Option.bind_some]
  rw [OL_astR (k := 1) (by omega) (kd := 5) (N := 4) (f := fun j => if j < i then some (n + 2 + 36 * j) else none) ((ap_lo (by omega)).trans rfl) (by decide) hi (by decide) (ci := 3) rfl (OL_obj (k := 2 + 36 * i) (by omega) (ci := 3) (fs := [.ref (n + (2 + 36 * i) + 1), .ref (n + (2 + 36 * i) + 2), .ref (n + (2 + 36 * i) + 3), .ref (n + (2 + 36 * i) + 4), .ref (n + (2 + 36 * i) + 5), .ref (n + (2 + 36 * i) + 6), .int 0, .ref (n + (2 + 36 * i) + 7)]) (by rw [ap_hi (Nat.le_refl _), Nat.sub_self]; rfl))]
  simp only [Option.bind_some]
  rw [← nI_succ]
  refine congrArg (rec (some n) (nI (i + 1))) (OL_congr (m := 2 + 36 * i + 36) fun k hk => ?_)
  by_cases h1 : k = 1
  · subst h1
    rw [cu_eq, show some (n + (2 + 36 * i)) = some ((fun j => n + 2 + 36 * j) i) from congrArg some (Nat.add_assoc _ _ _).symm, up_row (f := fun j => n + 2 + 36 * j)]
    rfl
  rw [cu_ne _ _ h1]
  by_cases h2 : k < 2 + 36 * i
  · rw [ap_lo h2]
    unfold cHp
    simp only [h1, if_false]
  · rw [ap_hi (by omega)]
    unfold cHp
    rw [if_neg (by omega), if_neg h1, show (k - 2) / 36 = i by omega, show (k - 2) % 36 = k - (2 + 36 * i) by omega, Nat.add_assoc]
theorem n_hisL {lim : Nat} (hl : n + 146 ≤ lim) : ∀ (d k : Nat), k + d = 4 → ∀ (F : Nat), d < F → m_X0_init_L19 lim F (some n) (nI k) (OL σ n (2 + 36 * k) (cHp n k)) = some ((), OL σ n 146 (cHp n 4)) := by
  intro d
  induction d with
  | zero =>
    intro k hk F hF
    obtain ⟨F, rfl⟩ : ∃ m, F = m + 1 := ⟨F - 1, by omega⟩
    rw [show m_X0_init_L19 lim (F + 1) = m_X0_init_B19 lim (m_X0_init_L19 lim F) from rfl]
    obtain rfl : k = 4 := by omega
    unfold m_X0_init_B19
    have e0 : sGetR (some n) 0 0 (OL σ n (2 + 36 * 4) (cHp n 4)) = some (some (n + 1)) := OL_getR (k := 0) (by omega) rfl rfl
    have e1 : sLen (some (n + 1)) (OL σ n (2 + 36 * 4) (cHp n 4)) = some (nI 4) := OL_len (k := 1) (by omega) rfl (by decide)
    simp only [e0, e1, Option.bind_some]
    rw [if_pos (nI_le (Nat.le_refl _) (by decide)), sEnd_eq (by show n + (2 + 36 * 4) ≤ lim; omega)]
  | succ d ih =>
    intro k hk F hF
    obtain ⟨F, rfl⟩ : ∃ m, F = m + 1 := ⟨F - 1, by omega⟩
    rw [show m_X0_init_L19 lim (F + 1) = m_X0_init_B19 lim (m_X0_init_L19 lim F) from rfl, n_his (by omega) hl]
    exact ih (k + 1) (by omega) F (by omega)
abbrev e0H : CE := .inl (0, [.null, .int 0])
theorem i_0 : m_X0_init (some n) (OL σ n 1 (fun _ => e0H)) = some ((), OL σ n 146 (cHp n 4)) := by
  unfold m_X0_init
  rw [show (OL σ n 1 (fun _ => e0H)).2 + 145 = n + 146 from rfl]
  unfold m_X0_init_e
  rw [show sNN (some n) = some () from rfl]
  simp only [Option.bind_some]
  rw [show sNewQ (n + 146) 5 (4 : Int32) (OL σ n 1 _) = _ from OL_newQ (by omega) 5 (N := 4) (by decide)]
  simp only [bnd_some]
  rw [show sPutR (some n) 0 0 (some (n + 1)) (OL σ n 2 _) = _ from OL_putR (k := 0) (by omega) (ci := 0) (j := 0) rfl (by simp) _]
  simp only [Option.bind_some]
  rw [show sPutI (some n) 0 1 (0 : Int32) (OL σ n 2 _) = _ from OL_putI (k := 0) (by omega) (ci := 0) (j := 1) rfl (by simp) _]
  simp only [Option.bind_some]
  refine Eq.trans (congrArg (m_X0_init_L19 (n + 146) 1000 (some n) 0) (OL_congr (c' := cHp n 0) fun k hk => ?_)) (n_hisL (σ := σ) (n := n) (lim := n + 146) (Nat.le_refl _) 4 0 rfl 1000 (by decide))
  match k, hk with
  | 0, _ => rfl
  | 1, _ => rfl
  | k + 2, h => exact absurd h (by omega)
theorem j_0 : m_X0_init (some (n + m)) (OL σ n (m + 1) (cu c m e0H)) = some ((), OL σ n (m + 146) (ap c m (cHp (n + m) 4))) := by
  rw [← OL_one, i_0, OL_app]
abbrev e5 : CE := .inl (5, [.null, .int 0])
def cSc (n : Nat) : Nat → CE := fun k => if k = 0 then .inl (5, [.ref (n + 1), .int 0]) else .inr (1, 80, .inl (fun _ => 0))
theorem i_5 : m_X5_init (some n) (OL σ n 1 (fun _ => e5)) = some ((), OL σ n 2 (cSc n)) := by
  unfold m_X5_init
  rw [show (OL σ n 1 (fun _ => e5)).2 + 1 = n + 2 from rfl]
  unfold m_X5_init_e
  rw [show sNN (some n) = some () from rfl]
  simp only [Option.bind_some]
  rw [show sNewA (n + 2) 1 (80 : Int32) (OL σ n 1 _) = _ from OL_newA (by omega) 1 (N := 80) (by decide)]
  simp only [bnd_some]
  rw [show sPutR (some n) 5 0 (some (n + 1)) (OL σ n 2 _) = _ from OL_putR (k := 0) (by omega) (ci := 5) (j := 0) rfl (by simp) _]
  simp only [Option.bind_some]
  rw [show sPutI (some n) 5 1 (0 : Int32) (OL σ n 2 _) = _ from OL_putI (k := 0) (by omega) (ci := 5) (j := 1) rfl (by simp) _]
  simp only [Option.bind_some]
  rw [sEnd_eq (by show n + 2 ≤ n + 2; omega)]
  refine congrArg (fun x => some ((), x)) (OL_congr fun k hk => ?_)
  match k, hk with
  | 0, _ => rfl
  | 1, _ => rfl
  | k + 2, h => exact absurd h (by omega)
theorem j_5 : m_X5_init (some (n + m)) (OL σ n (m + 1) (cu c m e5)) = some ((), OL σ n (m + 2) (ap c m (cSc (n + m)))) := by
  rw [← OL_one, i_5, OL_app]
/-- the object's 257 cells -/
def cMn (n : Nat) : Nat → CE := fun k => if k = 0 then cMW n 0 else if k < 37 then netC (n + 1) w0 (k - 1) else if k < 73 then netC (n + 37) w0 (k - 37) else if k < 109 then netC (n + 73) w0 (k - 73) else if k < 255 then cHp (n + 109) 4 (k - 109) else cSc (n + 255) (k - 255)
abbrev e7 : CE := .inl (7, [.null, .null, .null, .int 0, .null, .null])
theorem i_8 : m_X8_init (some n) (OL σ n 1 (fun _ => e7)) = some ((), OL σ n 257 (cMn n)) := by
  unfold m_X8_init
  rw [show (OL σ n 1 (fun _ => e7)).2 + 256 = n + 257 from rfl]
  unfold m_X8_init_e
  rw [show sNN (some n) = some () from rfl]
  simp only [Option.bind_some]
  rw [OL_new (by omega)]
  simp only [bnd_some]
  rw [sRoom_eq (by show n + 2 + 35 ≤ n + 257; omega), ol_ob (k := 1) (by omega)]
  simp only [Option.bind_some]
  rw [j_3]
  simp only [bnd_some]
  rw [sSame_OL (by omega)]
  simp only [Option.bind_some]
  rw [show sPutR (some n) 7 0 (some (n + 1)) (OL σ n (1 + 36) _) = _ from OL_putR (k := 0) (by omega) (ci := 7) (j := 0) rfl (by simp) _]
  simp only [Option.bind_some]
  rw [OL_new (by omega)]
  simp only [bnd_some]
  rw [sRoom_eq (by show n + 38 + 35 ≤ n + 257; omega), ol_ob (k := 1 + 36) (by omega)]
  simp only [Option.bind_some]
  rw [j_3]
  simp only [bnd_some]
  rw [sSame_OL (by omega)]
  simp only [Option.bind_some]
  rw [show sPutR (some n) 7 1 (some (n + (1 + 36))) (OL σ n (1 + 36 + 36) _) = _ from OL_putR (k := 0) (by omega) (ci := 7) (j := 1) rfl (by simp) _]
  simp only [Option.bind_some]
  rw [OL_new (by omega)]
  simp only [bnd_some]
  rw [sRoom_eq (by show n + 74 + 35 ≤ n + 257; omega), ol_ob (k := 1 + 36 + 36) (by omega)]
  simp only [Option.bind_some]
  rw [j_3]
  simp only [bnd_some]
  rw [sSame_OL (by omega)]
  simp only [Option.bind_some]
  rw [show sPutR (some n) 7 2 (some (n + (1 + 36 + 36))) (OL σ n (1 + 36 + 36 + 36) _) = _ from OL_putR (k := 0) (by omega) (ci := 7) (j := 2) rfl (by simp) _]
  simp only [Option.bind_some]
  rw [show sPutZ (some n) 7 3 (0 : Int32) (OL σ n (1 + 36 + 36 + 36) _) = _ from OL_putZ (k := 0) (by omega) (ci := 7) (j := 3) rfl (by simp) _ (Or.inl rfl)]
  simp only [Option.bind_some]
  rw [OL_new (by omega)]
  simp only [bnd_some]
  rw [sRoom_eq (by show n + 110 + 145 ≤ n + 257; omega), ol_ob (k := 1 + 36 + 36 + 36) (by omega)]
  simp only [Option.bind_some]
  rw [j_0]
  simp only [bnd_some]
  rw [sSame_OL (by omega)]
  simp only [Option.bind_some]
  rw [show sPutR (some n) 7 4 (some (n + (1 + 36 + 36 + 36))) (OL σ n (1 + 36 + 36 + 36 + 146) _) = _ from OL_putR (k := 0) (by omega) (ci := 7) (j := 4) rfl (by simp) _]
  simp only [Option.bind_some]
  rw [OL_new (by omega)]
  simp only [bnd_some]
  rw [sRoom_eq (by show n + 256 + 1 ≤ n + 257; omega), ol_ob (k := 1 + 36 + 36 + 36 + 146) (by omega)]
  simp only [Option.bind_some]
  rw [j_5]
  simp only [bnd_some]
  rw [sSame_OL (by omega)]
  simp only [Option.bind_some]
  rw [show sPutR (some n) 7 5 (some (n + (1 + 36 + 36 + 36 + 146))) (OL σ n (1 + 36 + 36 + 36 + 146 + 2) _) = _ from OL_putR (k := 0) (by omega) (ci := 7) (j := 5) rfl (by simp) _]
  simp only [Option.bind_some]
  rw [sEnd_eq (by show n + 257 ≤ n + 257; omega)]
  refine congrArg (fun x => some ((), x)) (OL_congr (m := 257) fun k hk => ?_)
  unfold cMn
  by_cases h0 : k = 0
  · subst h0; rfl
  rw [if_neg h0, cu_ne _ _ h0]
  by_cases h1 : k < 255
  · rw [ap_lo (show k < 1 + 36 + 36 + 36 + 146 by omega), cu_ne _ _ h0]
    by_cases h2 : k < 109
    · rw [ap_lo (show k < 1 + 36 + 36 + 36 by omega), cu_ne _ _ h0, cu_ne _ _ h0]
      by_cases h3 : k < 73
      · rw [ap_lo (show k < 1 + 36 + 36 by omega), cu_ne _ _ h0]
        by_cases h4 : k < 37
        · rw [ap_lo (show k < 1 + 36 by omega), cu_ne _ _ h0, ap_hi (by omega), if_pos h4]
        · rw [ap_hi (show 1 + 36 ≤ k by omega), if_neg h4, if_pos h3]
      · rw [ap_hi (show 1 + 36 + 36 ≤ k by omega), if_neg (by omega), if_neg h3, if_pos h2]
    · rw [ap_hi (show 1 + 36 + 36 + 36 ≤ k by omega), if_neg (by omega), if_neg (by omega), if_neg h2, if_pos h1]
  · rw [ap_hi (show 1 + 36 + 36 + 36 + 146 ≤ k by omega), if_neg (by omega), if_neg (by omega), if_neg (by omega), if_neg h1]
end CTO

