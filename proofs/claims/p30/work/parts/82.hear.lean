/-! LEVEL 2: the class hears a word -/
theorem lossG_eq {g w : NW} (hb : Base g w) (a b : Int32) : lossG w a b = lossG g a b := by
  unfold lossG
  rw [hb.c6, hb.c6]
theorem snd1_eq {g w : NW} (hb : Base g w) (h : Nat → Int32) (a s : Int32) : snd1 w h a s = snd1 g h a s := by
  funext k
  unfold snd1
  rw [lossG_eq hb, hb.c6]
theorem hrS_eq {g w : NW} (hb : Base g w) (hI : Inv g) : ∀ k, k ≤ 5 → hrS w k = hrS g k := by
  intro k
  induction k with
  | zero => intro _; rfl
  | succ k ih =>
    intro hk
    show (if spk w k ∧ bitG w k = 1 then snd1 w (hrS w k) (w 1 k 1) (w 1 k 2) else hrS w k) = if spk g k ∧ bitG g k = 1 then snd1 g (hrS g k) (g 1 k 1) (g 1 k 2) else hrS g k
    rw [ih (by omega), snd1_eq hb, hb.c1 k (by decide : 1 < 8), hb.c1 k (by decide : 2 < 8)]
    by_cases hs : spk g k
    · rw [hb.bit (hI.1 k (by omega)) hs]
      by_cases h1 : bitG g k = 1
      · rw [if_pos ⟨(hb.spks k).mpr hs, h1⟩, if_pos ⟨hs, h1⟩]
      · rw [if_neg (fun e => h1 e.2), if_neg (fun e => h1 e.2)]
    · rw [if_neg (fun e => hs ((hb.spks k).mp e.1)), if_neg (fun e => hs e.1)]
theorem nois_iff {g w : NW} (hb : Base g w) (k : Nat) : nois w k ↔ nois g k := by
  by_cases hp : g 2 k 0 = 1
  · unfold nois
    rw [hb.c2 k (Or.inl (by decide : (0 : Nat) ≠ 3)), hb.c2 k (Or.inl (by decide : (4 : Nat) ≠ 3)), hb.c2 k (Or.inr hp), hb.c0]
  · constructor
    · intro e; exact absurd ((hb.c2 k (Or.inl (by decide : (0 : Nat) ≠ 3))).symm.trans e.1) hp
    · intro e; exact absurd e.1 hp
theorem hrM_eq {g w : NW} (hb : Base g w) (hI : Inv g) : ∀ k, hrM w k = hrM g k := by
  intro k
  induction k with
  | zero => exact hrS_eq hb hI 5 (by omega)
  | succ k ih =>
    show (if nois w k then snd1 w (hrM w k) (w 2 k 1) (w 2 k 2) else hrM w k) = if nois g k then snd1 g (hrM g k) (g 2 k 1) (g 2 k 2) else hrM g k
    rw [ih, snd1_eq hb, hb.c2 k (Or.inl (by decide : (1 : Nat) ≠ 3)), hb.c2 k (Or.inl (by decide : (2 : Nat) ≠ 3))]
    by_cases hs : nois g k
    · rw [if_pos hs, if_pos ((nois_iff hb k).mpr hs)]
    · rw [if_neg hs, if_neg (fun e => hs ((nois_iff hb k).mp e))]
theorem hear_eq {g w : NW} (hb : Base g w) (hI : Inv g) : hear w = hear g := hrM_eq hb hI 4
theorem snd1_01 (g : NW) {h : Nat → Int32} (hh : ∀ j, b01 (h j)) (a s : Int32) (j : Nat) : b01 (snd1 g h a s j) := by
  unfold snd1
  split
  · exact hh j
  · exact Or.inr rfl
theorem hrS_01 (g : NW) : ∀ k j, b01 (hrS g k j) := by
  intro k
  induction k with
  | zero => intro j; exact Or.inl rfl
  | succ k ih =>
    show ∀ j, b01 ((if spk g k ∧ bitG g k = 1 then snd1 g (hrS g k) (g 1 k 1) (g 1 k 2) else hrS g k) j)
    split
    · exact fun j => snd1_01 g ih _ _ j
    · exact ih
theorem hear_01 (g : NW) : ∀ j, b01 (hear g j) := by
  have key : ∀ k j, b01 (hrM g k j) := by
    intro k
    induction k with
    | zero => exact hrS_01 g 5
    | succ k ih =>
      show ∀ j, b01 ((if nois g k then snd1 g (hrM g k) (g 2 k 1) (g 2 k 2) else hrM g k) j)
      split
      · exact fun j => snd1_01 g ih _ _ j
      · exact ih
  exact key 4
theorem lmp1_c (G : NW) (a l c f : Int32) (k : Nat) (hL : ∀ i, i < 8 → InvL G i) : ∀ i, i < 8 → InvL (lmp1 G a l c f k) i := by
  intro i hi
  obtain ⟨h0, h5⟩ := hL i hi
  unfold lmp1
  split
  · split
    · split
      · exact ⟨by rw [show up3 G 3 k 4 0 3 i 0 = G 3 i 0 by simp [up3]]; exact h0, by rw [show up3 G 3 k 4 0 3 i 5 = G 3 i 5 by simp [up3]]; exact h5⟩
      · split
        · exact ⟨by rw [show up3 G 3 k 4 (lvl c (G 3 k 4)) 3 i 0 = G 3 i 0 by simp [up3]]; exact h0, by rw [show up3 G 3 k 4 (lvl c (G 3 k 4)) 3 i 5 = G 3 i 5 by simp [up3]]; exact h5⟩
        · exact ⟨h0, h5⟩
    · refine ⟨?_, ?_⟩
      · simp only [up3]; rw [if_neg (by omega)]; exact h0
      · simp only [up3]
        by_cases hik : i = k
        · subst hik
          rw [if_pos (by simp)]
          split
          · exact Or.inr rfl
          · split
            · exact h5
            · exact Or.inl rfl
        · rw [if_neg (fun e => hik e.2.1)]; exact h5
  · exact ⟨h0, h5⟩
theorem lmpN_L (G : NW) (a l c f : Int32) (hL : ∀ i, i < 8 → InvL G i) : ∀ n i, i < 8 → InvL (lmpN G a l c f n) i := by
  intro n
  induction n with
  | zero => exact hL
  | succ n ih => exact lmp1_c _ a l c f n ih
theorem Base_lmp1 {g w : NW} (hb : Base g w) (a l c f : Int32) (k : Nat) : Base (lmp1 g a l c f k) (lmp1 w a l c f k) := by
  unfold lmp1 isOfG
  simp only [hb.c3]
  split
  · split
    · split
      · exact hb.up _ (Or.inl (by decide)) (Or.inl (by decide))
      · split
        · exact hb.up _ (Or.inl (by decide)) (Or.inl (by decide))
        · exact hb
    · exact hb.up _ (Or.inl (by decide)) (Or.inl (by decide))
  · exact hb
theorem Base_lmpN {g w : NW} (hb : Base g w) (a l c f : Int32) : ∀ n, Base (lmpN g a l c f n) (lmpN w a l c f n) := by
  intro n
  induction n with
  | zero => exact hb
  | succ n ih => exact Base_lmp1 ih a l c f n
section CLS4
variable {σ : SG} {n : Nat} {w : NW}
theorem c_called {k : Nat} (hk : k < 8) (h0 : b01 (w 3 k 0)) (a l : Int32) : m_X1_isCalledBy (some (lamA n k)) a l (ovr σ n w) = some (if isOfG w k a l then 1 else 0, ovr σ n w) := by
  unfold m_X1_isCalledBy
  simp only [gI_lam_1 hk, gI_lam_2 hk, gI_lam_3 hk, Option.bind_some]
  rcases h0 with h0 | h0
  · rw [if_pos h0, if_neg (fun e => absurd (e.1.symm.trans h0) one_ne)]; rfl
  · rw [if_neg (by rw [h0]; exact one_ne)]
    by_cases h1 : w 3 k 1 = a
    · rw [if_pos h1]
      by_cases h2 : w 3 k 2 = l
      · rw [if_pos h2, if_pos ⟨h0, h1, h2⟩]; rfl
      · rw [if_neg h2, if_neg (fun e => h2 e.2.2)]; rfl
    · rw [if_neg h1, if_neg (fun e => h1 e.2.1)]; rfl
theorem c_levelBy {k cc : Nat} (hk : k < 8) (h4 : 4 ≤ cc) (h7 : cc < 7) : m_X1_levelBy (some (lamA n k)) (nI cc) (ovr σ n w) = some (lvl (nI cc) (w 3 k 4), ovr σ n w) := by
  unfold m_X1_levelBy lvl
  simp only [gI_lam_5 hk, Option.bind_some, swK]
  rcases (show cc = 4 ∨ cc = 5 ∨ cc = 6 by omega) with rfl | rfl | rfl
  · rw [if_pos (by rfl), if_pos (by rfl)]
  · rw [if_neg (by decide), if_pos (by rfl), if_neg (by decide), if_pos (by rfl)]
  · rw [if_neg (show ¬ nI 6 = 4 by decide), if_neg (show ¬ nI 6 = 5 by decide), if_pos (show nI 6 = 6 by rfl), if_neg (show ¬ nI 6 = 4 by decide), if_neg (show ¬ nI 6 = 5 by decide)]
    split <;> rfl
theorem c_obey {k cc : Nat} (hk : k < 8) (h7 : cc < 8) (h5 : b01 (w 3 k 5)) {op f : Int32} (hf : f = 0 ∨ f = 1) (ho : op = if f = 0 then 1 else 0) : m_X1_obey (some (lamA n k)) (nI cc) op (ovr σ n w) = some ((), ovr σ n (if 4 ≤ nI cc then (if nI cc = 7 then up3 w 3 k 4 0 else if w 3 k 5 = 1 then up3 w 3 k 4 (lvl (nI cc) (w 3 k 4)) else w) else up3 w 3 k 5 (if w 3 k 3 = nI cc then 1 else if f = 0 then w 3 k 5 else 0))) := by
  unfold m_X1_obey m_X1_obey_b29 m_X1_obey_b25 m_X1_obey_b30
  simp only [gI_lam_6 hk, gI_lam_4 hk, Option.bind_some, pI_lam_5 hk, ob_lam hk, pZ_lam_6 hk _ (Or.inl rfl), pZ_lam_6 hk _ (Or.inr rfl)]
  by_cases h4 : 4 ≤ nI cc
  · have h4' : 4 ≤ cc := (nI_leI (a := 4) (by omega) (by omega)).mp h4
    rw [if_pos h4, if_pos h4]
    by_cases h : nI cc = 7
    · rw [if_pos h, if_pos h]
    · have h7' : cc < 7 := by
        rcases Nat.lt_or_ge cc 7 with z | z
        · exact z
        · exact absurd (by rw [show cc = 7 by omega]; rfl) h
      rw [if_neg h, if_neg h]
      rcases h5 with h5 | h5
      · rw [if_pos h5, if_neg (by rw [h5]; exact Ne.symm one_ne)]
      · rw [if_neg (by rw [h5]; exact one_ne), if_pos h5, c_levelBy hk h4' h7']
        simp only [bnd_some, pI_lam_5 hk, Option.bind_some]
  · rw [if_neg h4, if_neg h4]
    by_cases h : w 3 k 3 = nI cc
    · rw [if_pos h, if_pos h]
    · rw [if_neg h, if_neg h]
      rcases h5 with h5 | h5
      · rw [if_pos h5, h5]
        simp only [ite_self]
      · rw [if_neg (by rw [h5]; exact one_ne), h5, ho]
        rcases hf with hf | hf
        · rw [if_pos hf, if_neg one_ne]
        · rw [if_neg (show ¬ f = 0 by rw [hf]; exact one_ne), if_pos rfl]
theorem frsh_01 (o l c : Int32) : frsh o l c = 0 ∨ frsh o l c = 1 := by
  unfold frsh
  split
  · exact Or.inl rfl
  · split
    · exact Or.inr rfl
    · exact Or.inl rfl
theorem opn_bit : ∀ (o : Fin 16) (l : Fin 4), ((nI o.val >>> (nI l.val &&& 31)) &&& 1 = 1 ∧ ¬ (nI o.val >>> (nI l.val &&& 31)) &&& 1 = 0) ∨ (¬ (nI o.val >>> (nI l.val &&& 31)) &&& 1 = 1 ∧ (nI o.val >>> (nI l.val &&& 31)) &&& 1 = 0) := by decide +kernel
theorem opn_set : ∀ (o : Fin 16) (l : Fin 4), nI o.val &&& ((1 <<< (nI l.val &&& 31)) ^^^ -1) = nI o.val &&& ((15 : Int32) - ((1 : Int32) <<< (nI l.val &&& 31))) ∧ nI o.val ||| (1 <<< (nI l.val &&& 31)) = (nI o.val &&& ((15 : Int32) - ((1 : Int32) <<< (nI l.val &&& 31)))) ||| ((1 : Int32) <<< (nI l.val &&& 31)) := by decide +kernel
theorem opn_lt : ∀ (o : Fin 16) (l : Fin 4), (∃ q : Fin 16, nI o.val &&& ((15 : Int32) - ((1 : Int32) <<< (nI l.val &&& 31))) = nI q.val) ∧ ∃ q : Fin 16, (nI o.val &&& ((15 : Int32) - ((1 : Int32) <<< (nI l.val &&& 31)))) ||| ((1 : Int32) <<< (nI l.val &&& 31)) = nI q.val := by decide +kernel
theorem opnV_lt {o l : Nat} (ho : o < 16) (hl : l < 4) (c : Int32) : ∃ q, q < 16 ∧ opnV (nI o) (nI l) c = nI q := by
  obtain ⟨⟨q1, h1⟩, q2, h2⟩ := opn_lt ⟨o, ho⟩ ⟨l, hl⟩
  unfold opnV
  split
  · exact ⟨q1.val, q1.isLt, h1⟩
  · exact ⟨q2.val, q2.isLt, h2⟩
theorem c_isOpen {a o l : Nat} (ha : a < 6) (ho : w 4 a 6 = nI o) (ho16 : o < 16) (hl : l < 4) : m_X4_isOpen (some (rcvA n a)) (nI l) (ovr σ n w) = some (if (w 4 a 6 >>> (nI l &&& 31)) &&& 1 = 0 then 0 else 1, ovr σ n w) := by
  unfold m_X4_isOpen
  simp only [gI_rcv_6 ha, Option.bind_some, ho]
  rcases opn_bit ⟨o, ho16⟩ ⟨l, hl⟩ with ⟨h1, h2⟩ | ⟨h1, h2⟩
  · rw [if_pos h1, if_neg h2]; rfl
  · rw [if_neg h1, if_pos h2]; rfl
theorem c_lamps {a o l cc : Nat} (ha : a < 6) (ho : w 4 a 6 = nI o) (ho16 : o < 16) (hl : l < 4) (hcc : cc < 8) (hL : ∀ i, i < 8 → InvL w i) : ∀ (d k : Nat), k + d = 8 → ∀ (N : Nat), d < N → m_X3_hearWord_L60 N (nI a) (some (rcvA n a)) (nI l) (nI cc) (some (n + 3)) 8 (nI k) (ovr σ n (lmpN w (nI a) (nI l) (nI cc) (frsh (w 4 a 6) (nI l) (nI cc)) k)) = some (1, ovr σ n (up3 (lmpN w (nI a) (nI l) (nI cc) (frsh (w 4 a 6) (nI l) (nI cc)) 8) 4 a 6 (opnV (w 4 a 6) (nI l) (nI cc)))) := by
  intro d
  induction d with
  | zero =>
    intro k hk N hN
    obtain ⟨N, rfl⟩ : ∃ m, N = m + 1 := ⟨N - 1, by omega⟩
    rw [show m_X3_hearWord_L60 (N + 1) = m_X3_hearWord_B60 (m_X3_hearWord_L60 N) from rfl]
    unfold m_X3_hearWord_B60 m_X3_hearWord_b118 m_X4_setOpen m_X4_setOpen_b26
    rw [if_pos (show (8 : Int32) ≤ nI k from nI_le (a := 8) (by omega) (by omega))]
    obtain rfl : k = 8 := by omega
    obtain ⟨e1, e2⟩ := opn_set ⟨o, ho16⟩ ⟨l, hl⟩
    simp only [ob_rcv ha, Option.bind_some, gI_rcv_6 ha, pI_rcv_6 ha, if_true, one_ne, if_false, bnd_some, lmpN_o w _ _ _ _ (by decide : (4 : Nat) ≠ 3)]
    unfold opnV
    rw [ho]
    by_cases h4 : 4 ≤ nI cc
    · rw [if_pos h4, if_pos h4, e1]
    · rw [if_neg h4, if_neg h4, e2]
  | succ d ih =>
    intro k hk N hN
    obtain ⟨N, rfl⟩ : ∃ m, N = m + 1 := ⟨N - 1, by omega⟩
    rw [show m_X3_hearWord_L60 (N + 1) = m_X3_hearWord_B60 (m_X3_hearWord_L60 N) from rfl]
    unfold m_X3_hearWord_B60 m_X3_hearWord_b98
    rw [if_neg (show ¬ (8 : Int32) ≤ nI k from nI_ge (b := 8) (by omega) (by decide))]
    have hk8 : k < 8 := by omega
    have nx := ih (k + 1) (by omega) N (by omega)
    have hLk := lmpN_L w (nI a) (nI l) (nI cc) (frsh (w 4 a 6) (nI l) (nI cc)) hL k
    have e46 : lmpN w (nI a) (nI l) (nI cc) (frsh (w 4 a 6) (nI l) (nI cc)) k 4 a 6 = w 4 a 6 := lmpN_o w _ _ _ _ (by decide) k
    rw [show lmpN w (nI a) (nI l) (nI cc) (frsh (w 4 a 6) (nI l) (nI cc)) (k + 1) = lmp1 (lmpN w (nI a) (nI l) (nI cc) (frsh (w 4 a 6) (nI l) (nI cc)) k) (nI a) (nI l) (nI cc) (frsh (w 4 a 6) (nI l) (nI cc)) k from rfl] at nx
    generalize lmpN w (nI a) (nI l) (nI cc) (frsh (w 4 a 6) (nI l) (nI cc)) k = G at nx hLk e46 ⊢
    obtain ⟨g0, g5⟩ := hLk k hk8
    simp only [ald_3 hk8, Option.bind_some, ob_lam hk8]
    rw [c_called hk8 g0]
    simp only [bnd_some, ob_rcv ha, Option.bind_some, ← nI_succ]
    unfold lmp1 at nx
    by_cases hof : isOfG G k (nI a) (nI l)
    · rw [if_pos hof] at nx
      rw [if_pos hof, if_neg one_ne, c_isOpen ha (by rw [e46]; exact ho) ho16 hl]
      simp only [bnd_some, ob_lam hk8, Option.bind_some, e46]
      by_cases h4 : 4 ≤ nI cc
      · have hob : ∀ q : Int32, m_X1_obey (some (lamA n k)) (nI cc) q (ovr σ n G) = m_X1_obey (some (lamA n k)) (nI cc) 1 (ovr σ n G) := by
          intro q
          unfold m_X1_obey
          rw [if_pos h4, if_pos h4]
        rw [hob, c_obey hk8 hcc g5 (op := 1) (f := 0) (Or.inl rfl) rfl]
        simp only [bnd_some]
        rw [if_pos h4] at nx ⊢
        exact nx
      · have hfr : frsh (w 4 a 6) (nI l) (nI cc) = if (w 4 a 6 >>> (nI l &&& 31)) &&& 1 = 0 then 1 else 0 := by
          unfold frsh
          rw [if_neg h4]
        rw [c_obey hk8 hcc g5 (frsh_01 (w 4 a 6) (nI l) (nI cc)) (by rw [hfr]; split <;> rfl)]
        exact nx
    · rw [if_neg hof] at nx
      rw [if_neg hof, if_pos rfl]
      exact nx
end CLS4

