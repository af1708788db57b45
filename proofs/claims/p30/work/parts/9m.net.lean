/-! LEVEL 2: constructors, third: a Net's -/
def w0 : NW := fun c _ j => if c = 6 then (if j = 0 then 6 else if j = 1 then 5 else if j = 2 then 4 else if j = 3 then 2 else 0) else if c = 2 then (if j = 3 then 2 else 0) else if c = 4 then (if j = 4 then -5 else if j = 6 then 15 else 0) else 0
/-- a Net's cells while it is made: so many of its senders, machines, lamps, receivers stand in its rows -/
def cI (n a b c d : Nat) : Nat → CE := fun k =>
  if k = 1 then .inr (7, 5, .inr (fun i => if i < a then some (sndA n i) else none))
  else if k = 2 then .inr (4, 4, .inr (fun i => if i < b then some (macA n i) else none))
  else if k = 3 then .inr (3, 8, .inr (fun i => if i < c then some (lamA n i) else none))
  else if k = 4 then .inr (6, 6, .inr (fun i => if i < d then some (rcvA n i) else none))
  else netC n w0 k
theorem cI_o {n a b c d k : Nat} (h : k = 0 ∨ 4 < k) : cI n a b c d k = netC n w0 k := by
  unfold cI
  rw [if_neg (by omega), if_neg (by omega), if_neg (by omega), if_neg (by omega)]
theorem cI_all {n : Nat} : cI n 5 4 8 6 = netC n w0 := by
  funext k
  by_cases h : k = 0 ∨ 4 < k
  · exact cI_o h
  · rcases (show k = 1 ∨ k = 2 ∨ k = 3 ∨ k = 4 by omega) with rfl | rfl | rfl | rfl <;> rfl
section CTN
variable {σ : SG} {n m : Nat} {c : Nat → CE}
theorem sSame_OL {k j : Nat} {d : Nat → CE} (h : m = k + j) : sSame (OL σ n m c).2 ((OL σ n k d).2 + j) = some () := if_pos (show n + m = n + k + j by omega)
theorem OL_astR {k : Nat} (hk : k < m) {kd N : Nat} {f : Nat → Option Nat} (hc : c k = .inr (kd, N, .inr f)) (h3 : 3 ≤ kd ∧ kd < 8) {i : Nat} (hi : i < N) (hN : N ≤ 800) {b ci : Nat} (hci : kci kd = ci) (hb : sObj (some b) ci (OL σ n m c) = some ()) : sAstR (some (n + k)) (nI i) (some b) (OL σ n m c) = some (OL σ n m (cu c k (.inr (kd, N, .inr (va_up f i (some b)))))) := by
  simp only [sAstR, OL_at hk, hc]
  rw [if_pos h3, if_neg (nI_in hi (by omega)), nI_clamp (by omega), hci, hb]
  simp only [Option.bind_some]
  rw [OL_hup hk]
theorem OL_ast {k : Nat} (hk : k < m) {kd N : Nat} {f : Nat → Int32} (hc : c k = .inr (kd, N, .inl f)) {i : Nat} (hi : i < N) (hN : N ≤ 800) (v : Int32) : sAst (some (n + k)) kd (nI i) v (OL σ n m c) = some (OL σ n m (cu c k (.inr (kd, N, .inl (upd f i v))))) := by
  simp only [sAst, OL_at hk, hc, if_true]
  rw [if_neg (nI_in hi (by omega)), nI_clamp (by omega), OL_hup hk]
theorem up_row {f : Nat → Nat} {i : Nat} : (va_up (fun j => if j < i then some (f j) else none) i (some (f i)) : Nat → Option Nat) = fun j => if j < i + 1 then some (f j) else none := by
  funext j
  show (if j = i then some (f i) else if j < i then some (f j) else none) = _
  by_cases h : j = i
  · subst h; rw [if_pos rfl, if_pos (by omega)]
  · rw [if_neg h]
    by_cases h2 : j < i
    · rw [if_pos h2, if_pos (by omega)]
    · rw [if_neg h2, if_neg (by omega)]
theorem n_snd {i lim : Nat} (hi : i < 5) (hl : n + 36 ≤ lim) (rec : Option Nat → Int32 → SG → Option (Unit × SG)) : m_X3_init_B84 lim rec (some n) (nI i) (OL σ n (8 + 2 * i) (cI n i 0 0 0)) = rec (some n) (nI (i + 1)) (OL σ n (8 + 2 * (i + 1)) (cI n (i + 1) 0 0 0)) := by
  unfold m_X3_init_B84
  have e0 : sGetR (some n) 3 0 (OL σ n (8 + 2 * i) (cI n i 0 0 0)) = some (some (n + 1)) := OL_getR (k := 0) (by omega) (cI_o (Or.inl rfl)) rfl
  have e1 : sLen (some (n + 1)) (OL σ n (8 + 2 * i) (cI n i 0 0 0)) = some (nI 5) := OL_len (k := 1) (by omega) rfl (by decide)
  simp only [e0, e1, Option.bind_some]
  rw [if_neg (nI_ge hi (by decide)), OL_new (by omega)]
  simp only [bnd_some]
  rw [sRoom_eq (by show n + ((8 + 2 * i) + 1) + 1 ≤ lim; omega), ol_ob (k := (8 + 2 * i)) (by omega)]
  simp only [Option.bind_some]
  rw [i_6 (k := (8 + 2 * i)) (by omega) (nI i)]
  simp only [bnd_some]
  rw [sSame_OL (by omega)]
  simp only [Option.bind_some]
  rw [OL_astR (k := 1) (by omega) (kd := 7) (N := 5) (f := fun j => if j < i then some (sndA n j) else none) ((cu_ne _ _ (by omega)).trans (cu_ne _ _ (by omega))) (by decide) hi (by decide) (ci := 6) rfl (OL_obj (k := (8 + 2 * i)) (by omega) ((cu_ne _ _ (by omega)).trans (cu_eq _ _ _)))]
  simp only [Option.bind_some]
  rw [← nI_succ]
  refine congrArg (rec (some n) (nI (i + 1))) (OL_congr (m := (8 + 2 * i) + 1 + 1) fun k hk => ?_)
  by_cases h1 : k = 1
  · subst h1
    rw [cu_eq, show some (n + (8 + 2 * i)) = some (sndA n i) from rfl, up_row]
    rfl
  rw [cu_ne _ _ h1]
  by_cases h2 : k = (8 + 2 * i) + 1
  · subst h2
    rw [cu_eq, cI_o (Or.inr (by omega)), show (8 + 2 * i) + 1 = 9 + 2 * i by omega, netC_que hi]
    rfl
  rw [cu_ne _ _ h2]
  by_cases h3 : k = (8 + 2 * i)
  · subst h3
    rw [cu_eq, cI_o (Or.inr (by omega)), netC_snd hi, show 8 + 2 * i + 1 = 9 + 2 * i by omega]
    rfl
  rw [cu_ne _ _ h3]
  unfold cI
  simp only [h1, if_false]
theorem n_sndL {lim : Nat} (hl : n + 36 ≤ lim) : ∀ (d k : Nat), k + d = 5 → ∀ (F : Nat), d < F → m_X3_init_L84 lim F (some n) (nI k) (OL σ n (8 + 2 * k) (cI n k 0 0 0)) = m_X3_init_L115 lim 1000 (some n) 0 (OL σ n 18 (cI n 5 0 0 0)) := by
  intro d
  induction d with
  | zero =>
    intro k hk F hF
    obtain ⟨F, rfl⟩ : ∃ m, F = m + 1 := ⟨F - 1, by omega⟩
    rw [show m_X3_init_L84 lim (F + 1) = m_X3_init_B84 lim (m_X3_init_L84 lim F) from rfl]
    obtain rfl : k = 5 := by omega
    unfold m_X3_init_B84
    have e0 : sGetR (some n) 3 0 (OL σ n (8 + 2 * 5) (cI n 5 0 0 0)) = some (some (n + 1)) := OL_getR (k := 0) (by omega) (cI_o (Or.inl rfl)) rfl
    have e1 : sLen (some (n + 1)) (OL σ n (8 + 2 * 5) (cI n 5 0 0 0)) = some (nI 5) := OL_len (k := 1) (by omega) rfl (by decide)
    simp only [e0, e1, Option.bind_some]
    rw [if_pos (nI_le (Nat.le_refl _) (by decide))]
  | succ d ih =>
    intro k hk F hF
    obtain ⟨F, rfl⟩ : ∃ m, F = m + 1 := ⟨F - 1, by omega⟩
    rw [show m_X3_init_L84 lim (F + 1) = m_X3_init_B84 lim (m_X3_init_L84 lim F) from rfl, n_snd (by omega) hl]
    exact ih (k + 1) (by omega) F (by omega)
theorem n_mac {i lim : Nat} (hi : i < 4) (hl : n + 36 ≤ lim) (rec : Option Nat → Int32 → SG → Option (Unit × SG)) : m_X3_init_B115 lim rec (some n) (nI i) (OL σ n (18 + i) (cI n 5 i 0 0)) = rec (some n) (nI (i + 1)) (OL σ n (18 + (i + 1)) (cI n 5 (i + 1) 0 0)) := by
  unfold m_X3_init_B115
  have e0 : sGetR (some n) 3 1 (OL σ n (18 + i) (cI n 5 i 0 0)) = some (some (n + 2)) := OL_getR (k := 0) (by omega) (cI_o (Or.inl rfl)) rfl
  have e1 : sLen (some (n + 2)) (OL σ n (18 + i) (cI n 5 i 0 0)) = some (nI 4) := OL_len (k := 2) (by omega) rfl (by decide)
  simp only [e0, e1, Option.bind_some]
  rw [if_neg (nI_ge hi (by decide)), OL_new (by omega)]
  simp only [bnd_some]
  rw [sRoom_eq (by show n + ((18 + i) + 1) + 0 ≤ lim; omega), ol_ob (k := (18 + i)) (by omega)]
  simp only [Option.bind_some]
  rw [i_2 (k := (18 + i)) (by omega) (nI i)]
  simp only [bnd_some]
  rw [sSame_OL (by omega)]
  simp only [Option.bind_some]
  rw [OL_astR (k := 2) (by omega) (kd := 4) (N := 4) (f := fun j => if j < i then some (macA n j) else none) (cu_ne _ _ (by omega)) (by decide) hi (by decide) (ci := 2) rfl (OL_obj (k := (18 + i)) (by omega) (cu_eq _ _ _))]
  simp only [Option.bind_some]
  rw [← nI_succ]
  refine congrArg (rec (some n) (nI (i + 1))) (OL_congr (m := (18 + i) + 1) fun k hk => ?_)
  by_cases h1 : k = 2
  · subst h1
    rw [cu_eq, show some (n + (18 + i)) = some (macA n i) from rfl, up_row]
    rfl
  rw [cu_ne _ _ h1]
  by_cases h3 : k = (18 + i)
  · subst h3
    rw [cu_eq, cI_o (Or.inr (by omega)), netC_mac hi]
    rfl
  rw [cu_ne _ _ h3]
  unfold cI
  simp only [h1, if_false]
theorem n_macL {lim : Nat} (hl : n + 36 ≤ lim) : ∀ (d k : Nat), k + d = 4 → ∀ (F : Nat), d < F → m_X3_init_L115 lim F (some n) (nI k) (OL σ n (18 + k) (cI n 5 k 0 0)) = m_X3_init_L146 lim 1000 (some n) 0 (OL σ n 22 (cI n 5 4 0 0)) := by
  intro d
  induction d with
  | zero =>
    intro k hk F hF
    obtain ⟨F, rfl⟩ : ∃ m, F = m + 1 := ⟨F - 1, by omega⟩
    rw [show m_X3_init_L115 lim (F + 1) = m_X3_init_B115 lim (m_X3_init_L115 lim F) from rfl]
    obtain rfl : k = 4 := by omega
    unfold m_X3_init_B115
    have e0 : sGetR (some n) 3 1 (OL σ n (18 + 4) (cI n 5 4 0 0)) = some (some (n + 2)) := OL_getR (k := 0) (by omega) (cI_o (Or.inl rfl)) rfl
    have e1 : sLen (some (n + 2)) (OL σ n (18 + 4) (cI n 5 4 0 0)) = some (nI 4) := OL_len (k := 2) (by omega) rfl (by decide)
    simp only [e0, e1, Option.bind_some]
    rw [if_pos (nI_le (Nat.le_refl _) (by decide))]
  | succ d ih =>
    intro k hk F hF
    obtain ⟨F, rfl⟩ : ∃ m, F = m + 1 := ⟨F - 1, by omega⟩
    rw [show m_X3_init_L115 lim (F + 1) = m_X3_init_B115 lim (m_X3_init_L115 lim F) from rfl, n_mac (by omega) hl]
    exact ih (k + 1) (by omega) F (by omega)
theorem n_lam {i lim : Nat} (hi : i < 8) (hl : n + 36 ≤ lim) (rec : Option Nat → Int32 → SG → Option (Unit × SG)) : m_X3_init_B146 lim rec (some n) (nI i) (OL σ n (22 + i) (cI n 5 4 i 0)) = rec (some n) (nI (i + 1)) (OL σ n (22 + (i + 1)) (cI n 5 4 (i + 1) 0)) := by
  unfold m_X3_init_B146
  have e0 : sGetR (some n) 3 2 (OL σ n (22 + i) (cI n 5 4 i 0)) = some (some (n + 3)) := OL_getR (k := 0) (by omega) (cI_o (Or.inl rfl)) rfl
  have e1 : sLen (some (n + 3)) (OL σ n (22 + i) (cI n 5 4 i 0)) = some (nI 8) := OL_len (k := 3) (by omega) rfl (by decide)
  simp only [e0, e1, Option.bind_some]
  rw [if_neg (nI_ge hi (by decide)), OL_new (by omega)]
  simp only [bnd_some]
  rw [sRoom_eq (by show n + ((22 + i) + 1) + 0 ≤ lim; omega), ol_ob (k := (22 + i)) (by omega)]
  simp only [Option.bind_some]
  rw [i_1 (k := (22 + i)) (by omega) (nI i)]
  simp only [bnd_some]
  rw [sSame_OL (by omega)]
  simp only [Option.bind_some]
  rw [OL_astR (k := 3) (by omega) (kd := 3) (N := 8) (f := fun j => if j < i then some (lamA n j) else none) (cu_ne _ _ (by omega)) (by decide) hi (by decide) (ci := 1) rfl (OL_obj (k := (22 + i)) (by omega) (cu_eq _ _ _))]
  simp only [Option.bind_some]
  rw [← nI_succ]
  refine congrArg (rec (some n) (nI (i + 1))) (OL_congr (m := (22 + i) + 1) fun k hk => ?_)
  by_cases h1 : k = 3
  · subst h1
    rw [cu_eq, show some (n + (22 + i)) = some (lamA n i) from rfl, up_row]
    rfl
  rw [cu_ne _ _ h1]
  by_cases h3 : k = (22 + i)
  · subst h3
    rw [cu_eq, cI_o (Or.inr (by omega)), netC_lam hi]
    rfl
  rw [cu_ne _ _ h3]
  unfold cI
  simp only [h1, if_false]
theorem n_lamL {lim : Nat} (hl : n + 36 ≤ lim) : ∀ (d k : Nat), k + d = 8 → ∀ (F : Nat), d < F → m_X3_init_L146 lim F (some n) (nI k) (OL σ n (22 + k) (cI n 5 4 k 0)) = m_X3_init_L177 lim 1000 (some n) 0 (OL σ n 30 (cI n 5 4 8 0)) := by
  intro d
  induction d with
  | zero =>
    intro k hk F hF
    obtain ⟨F, rfl⟩ : ∃ m, F = m + 1 := ⟨F - 1, by omega⟩
    rw [show m_X3_init_L146 lim (F + 1) = m_X3_init_B146 lim (m_X3_init_L146 lim F) from rfl]
    obtain rfl : k = 8 := by omega
    unfold m_X3_init_B146
    have e0 : sGetR (some n) 3 2 (OL σ n (22 + 8) (cI n 5 4 8 0)) = some (some (n + 3)) := OL_getR (k := 0) (by omega) (cI_o (Or.inl rfl)) rfl
    have e1 : sLen (some (n + 3)) (OL σ n (22 + 8) (cI n 5 4 8 0)) = some (nI 8) := OL_len (k := 3) (by omega) rfl (by decide)
    simp only [e0, e1, Option.bind_some]
    rw [if_pos (nI_le (Nat.le_refl _) (by decide))]
  | succ d ih =>
    intro k hk F hF
    obtain ⟨F, rfl⟩ : ∃ m, F = m + 1 := ⟨F - 1, by omega⟩
    rw [show m_X3_init_L146 lim (F + 1) = m_X3_init_B146 lim (m_X3_init_L146 lim F) from rfl, n_lam (by omega) hl]
    exact ih (k + 1) (by omega) F (by omega)
theorem n_rcv {i lim : Nat} (hi : i < 6) (hl : n + 36 ≤ lim) (rec : Option Nat → Int32 → SG → Option (Unit × SG)) : m_X3_init_B177 lim rec (some n) (nI i) (OL σ n (30 + i) (cI n 5 4 8 i)) = rec (some n) (nI (i + 1)) (OL σ n (30 + (i + 1)) (cI n 5 4 8 (i + 1))) := by
  unfold m_X3_init_B177
  have e0 : sGetR (some n) 3 3 (OL σ n (30 + i) (cI n 5 4 8 i)) = some (some (n + 4)) := OL_getR (k := 0) (by omega) (cI_o (Or.inl rfl)) rfl
  have e1 : sLen (some (n + 4)) (OL σ n (30 + i) (cI n 5 4 8 i)) = some (nI 6) := OL_len (k := 4) (by omega) rfl (by decide)
  simp only [e0, e1, Option.bind_some]
  rw [if_neg (nI_ge hi (by decide)), OL_new (by omega)]
  simp only [bnd_some]
  rw [sRoom_eq (by show n + ((30 + i) + 1) + 0 ≤ lim; omega), ol_ob (k := (30 + i)) (by omega)]
  simp only [Option.bind_some]
  rw [i_4 (k := (30 + i)) (by omega)]
  simp only [bnd_some]
  rw [sSame_OL (by omega)]
  simp only [Option.bind_some]
  rw [OL_astR (k := 4) (by omega) (kd := 6) (N := 6) (f := fun j => if j < i then some (rcvA n j) else none) (cu_ne _ _ (by omega)) (by decide) hi (by decide) (ci := 4) rfl (OL_obj (k := (30 + i)) (by omega) (cu_eq _ _ _))]
  simp only [Option.bind_some]
  rw [← nI_succ]
  refine congrArg (rec (some n) (nI (i + 1))) (OL_congr (m := (30 + i) + 1) fun k hk => ?_)
  by_cases h1 : k = 4
  · subst h1
    rw [cu_eq, show some (n + (30 + i)) = some (rcvA n i) from rfl, up_row]
    rfl
  rw [cu_ne _ _ h1]
  by_cases h3 : k = (30 + i)
  · subst h3
    rw [cu_eq, cI_o (Or.inr (by omega)), netC_rcv hi]
    rfl
  rw [cu_ne _ _ h3]
  unfold cI
  simp only [h1, if_false]
theorem n_rcvL {lim : Nat} (hl : n + 36 ≤ lim) : ∀ (d k : Nat), k + d = 6 → ∀ (F : Nat), d < F → m_X3_init_L177 lim F (some n) (nI k) (OL σ n (30 + k) (cI n 5 4 8 k)) = some ((), OL σ n 36 (netC n w0)) := by
  intro d
  induction d with
  | zero =>
    intro k hk F hF
    obtain ⟨F, rfl⟩ : ∃ m, F = m + 1 := ⟨F - 1, by omega⟩
    rw [show m_X3_init_L177 lim (F + 1) = m_X3_init_B177 lim (m_X3_init_L177 lim F) from rfl]
    obtain rfl : k = 6 := by omega
    unfold m_X3_init_B177
    have e0 : sGetR (some n) 3 3 (OL σ n (30 + 6) (cI n 5 4 8 6)) = some (some (n + 4)) := OL_getR (k := 0) (by omega) (cI_o (Or.inl rfl)) rfl
    have e1 : sLen (some (n + 4)) (OL σ n (30 + 6) (cI n 5 4 8 6)) = some (nI 6) := OL_len (k := 4) (by omega) rfl (by decide)
    simp only [e0, e1, Option.bind_some]
    rw [if_pos (nI_le (Nat.le_refl _) (by decide))]
    rw [sEnd_eq (by show n + (30 + 6) ≤ lim; omega), cI_all]
  | succ d ih =>
    intro k hk F hF
    obtain ⟨F, rfl⟩ : ∃ m, F = m + 1 := ⟨F - 1, by omega⟩
    rw [show m_X3_init_L177 lim (F + 1) = m_X3_init_B177 lim (m_X3_init_L177 lim F) from rfl, n_rcv (by omega) hl]
    exact ih (k + 1) (by omega) F (by omega)
theorem i_3 : m_X3_init (some n) (OL σ n 1 (fun _ => .inl (3, [.null, .null, .null, .null, .null, .null, .int 0, .null]))) = some ((), OL σ n 36 (netC n w0)) := by
  unfold m_X3_init
  rw [show (OL σ n 1 (fun _ => .inl (3, [.null, .null, .null, .null, .null, .null, .int 0, .null]))).2 + 35 = n + 36 from rfl]
  unfold m_X3_init_e
  rw [show sNN (some n) = some () from rfl]
  simp only [Option.bind_some]
  rw [show sNewQ (n + 36) 7 (5 : Int32) (OL σ n 1 _) = _ from OL_newQ (by omega) 7 (N := 5) (by decide)]
  simp only [bnd_some]
  rw [show sPutR (some n) 3 0 (some (n + 1)) (OL σ n 2 _) = _ from OL_putR (k := 0) (by omega) (ci := 3) (j := 0) rfl (by simp) _]
  simp only [Option.bind_some]
  rw [show sNewQ (n + 36) 4 (4 : Int32) (OL σ n 2 _) = _ from OL_newQ (by omega) 4 (N := 4) (by decide)]
  simp only [bnd_some]
  rw [show sPutR (some n) 3 1 (some (n + 2)) (OL σ n 3 _) = _ from OL_putR (k := 0) (by omega) (ci := 3) (j := 1) rfl (by simp) _]
  simp only [Option.bind_some]
  rw [show sNewQ (n + 36) 3 (8 : Int32) (OL σ n 3 _) = _ from OL_newQ (by omega) 3 (N := 8) (by decide)]
  simp only [bnd_some]
  rw [show sPutR (some n) 3 2 (some (n + 3)) (OL σ n 4 _) = _ from OL_putR (k := 0) (by omega) (ci := 3) (j := 2) rfl (by simp) _]
  simp only [Option.bind_some]
  rw [show sNewQ (n + 36) 6 (6 : Int32) (OL σ n 4 _) = _ from OL_newQ (by omega) 6 (N := 6) (by decide)]
  simp only [bnd_some]
  rw [show sPutR (some n) 3 3 (some (n + 4)) (OL σ n 5 _) = _ from OL_putR (k := 0) (by omega) (ci := 3) (j := 3) rfl (by simp) _]
  simp only [Option.bind_some]
  rw [show sNewA (n + 36) 1 (4 : Int32) (OL σ n 5 _) = _ from OL_newA (by omega) 1 (N := 4) (by decide)]
  simp only [bnd_some]
  rw [show sAst (some (n + 5)) 1 (0 : Int32) (6 : Int32) (OL σ n 6 _) = _ from OL_ast (k := 5) (by omega) (kd := 1) (N := 4) rfl (i := 0) (by decide) (by decide) _]
  simp only [Option.bind_some]
  rw [show sAst (some (n + 5)) 1 (1 : Int32) (5 : Int32) (OL σ n 6 _) = _ from OL_ast (k := 5) (by omega) (kd := 1) (N := 4) rfl (i := 1) (by decide) (by decide) _]
  simp only [Option.bind_some]
  rw [show sAst (some (n + 5)) 1 (2 : Int32) (4 : Int32) (OL σ n 6 _) = _ from OL_ast (k := 5) (by omega) (kd := 1) (N := 4) rfl (i := 2) (by decide) (by decide) _]
  simp only [Option.bind_some]
  rw [show sAst (some (n + 5)) 1 (3 : Int32) (2 : Int32) (OL σ n 6 _) = _ from OL_ast (k := 5) (by omega) (kd := 1) (N := 4) rfl (i := 3) (by decide) (by decide) _]
  simp only [Option.bind_some]
  rw [show sPutR (some n) 3 4 (some (n + 5)) (OL σ n 6 _) = _ from OL_putR (k := 0) (by omega) (ci := 3) (j := 4) rfl (by simp) _]
  simp only [Option.bind_some]
  rw [show sNewA (n + 36) 1 (5 : Int32) (OL σ n 6 _) = _ from OL_newA (by omega) 1 (N := 5) (by decide)]
  simp only [bnd_some]
  rw [show sPutR (some n) 3 5 (some (n + 6)) (OL σ n 7 _) = _ from OL_putR (k := 0) (by omega) (ci := 3) (j := 5) rfl (by simp) _]
  simp only [Option.bind_some]
  rw [show sPutI (some n) 3 6 (0 : Int32) (OL σ n 7 _) = _ from OL_putI (k := 0) (by omega) (ci := 3) (j := 6) rfl (by simp) _]
  simp only [Option.bind_some]
  rw [show sNewA (n + 36) 2 (6 : Int32) (OL σ n 7 _) = _ from OL_newA (by omega) 2 (N := 6) (by decide)]
  simp only [bnd_some]
  rw [show sPutR (some n) 3 7 (some (n + 7)) (OL σ n 8 _) = _ from OL_putR (k := 0) (by omega) (ci := 3) (j := 7) rfl (by simp) _]
  simp only [Option.bind_some]
  refine Eq.trans (congrArg (m_X3_init_L84 (n + 36) 1000 (some n) 0) (OL_congr (c' := cI n 0 0 0 0) fun k hk => ?_)) ?_
  · match k, hk with
    | 0, _ => rfl
    | 1, _ => rfl
    | 2, _ => rfl
    | 3, _ => rfl
    | 4, _ => rfl
    | 5, _ =>
      refine congrArg (fun f => (Sum.inr (1, 4, Sum.inl f) : CE)) (funext fun j => ?_)
      show upd (upd (upd (upd (fun _ => 0) 0 6) 1 5) 2 4) 3 2 j = w0 6 0 j
      unfold upd w0
      simp only [if_true]
      split
      next h => subst h; rfl
      split
      next h => subst h; rfl
      split
      next h => subst h; rfl
      split
      next h => subst h; rfl
      rfl
    | 6, _ => rfl
    | 7, _ => rfl
    | k + 8, h => exact absurd h (by omega)
  · have h := n_sndL (σ := σ) (n := n) (lim := n + 36) (Nat.le_refl _) 5 0 rfl 1000 (by decide)
    refine h.trans ?_
    have h := n_macL (σ := σ) (n := n) (lim := n + 36) (Nat.le_refl _) 4 0 rfl 1000 (by decide)
    refine h.trans ?_
    have h := n_lamL (σ := σ) (n := n) (lim := n + 36) (Nat.le_refl _) 8 0 rfl 1000 (by decide)
    refine h.trans ?_
    exact n_rcvL (σ := σ) (n := n) (lim := n + 36) (Nat.le_refl _) 6 0 rfl 1000 (by decide)
end CTN

