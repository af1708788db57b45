/-! LEVEL 2: a word is told, on both sides -/
abbrev cpy (w : NW) (a : Nat) (x : Int32) : Prop := x = w 4 a 4 ∧ ¬ 17 < w 0 0 0 - w 4 a 5
def ctelW (w : NW) (a : Nat) (x : Int32) : NW := if cpy w a x then up3 (up3 (up3 w 4 a 4 x) 4 a 5 (w 0 0 0)) 7 0 3 (w 7 0 3 + 1) else up3 (lmpN (up3 (up3 (up3 w 4 a 4 x) 4 a 5 (w 0 0 0)) 7 0 2 (w 7 0 2 + 1)) (nI a) (x / 8) (x - x / 8 * 8) (frsh (w 4 a 6) (x / 8) (x - x / 8 * 8)) 8) 4 a 6 (opnV (w 4 a 6) (x / 8) (x - x / 8 * 8))
theorem div8 {u : Nat} (hu : u < 32) : nI u / 8 = nI (u / 8) ∧ nI u - nI u / 8 * 8 = nI (u % 8) := ⟨pk_div (d := 8) (by omega) (by decide) (by decide), pk_rem (d := 8) (by omega) (by decide) (by decide)⟩
section CLS5
variable {σ : SG} {n : Nat} {w : NW}
theorem c_tell {a : Nat} (ha : a < 6) (x : Int32) : m_X4_tell (some (rcvA n a)) x (w 0 0 0) (ovr σ n w) = some (if cpy w a x then 0 else 1, ovr σ n (up3 (up3 w 4 a 4 x) 4 a 5 (w 0 0 0))) := by
  unfold m_X4_tell m_X4_tell_b23 m_X4_tell_b24
  simp only [gI_rcv_4 ha, gI_rcv_5 ha, Option.bind_some, pI_rcv_4 ha, pI_rcv_5 ha, if_true, one_ne, if_false]
  by_cases h1 : x = w 4 a 4
  · rw [if_pos h1]
    by_cases h2 : 17 < w 0 0 0 - w 4 a 5
    · rw [if_pos h2, if_neg (fun e => e.2 h2)]; rfl
    · rw [if_neg h2, if_pos ⟨h1, h2⟩]; rfl
  · rw [if_neg h1, if_neg (fun e => h1 e.1)]; rfl
theorem c_hearWord {a u o : Nat} (ha : a < 6) (hu : u < 32) (ho : w 4 a 6 = nI o) (ho16 : o < 16) (hL : ∀ i, i < 8 → InvL w i) : m_X3_hearWord (some n) (nI a) (some (rcvA n a)) (nI u) (ovr σ n w) = some (if cpy w a (nI u) then 0 else 1, ovr σ n (ctelW w a (nI u))) := by
  unfold m_X3_hearWord
  simp only [gI_net_6, Option.bind_some, ob_rcv ha, c_tell ha, bnd_some]
  have t3 : ∀ W : NW, sAld (some (n + 6)) 1 3 (ovr σ n W) = some (W 7 0 3) := fun W => ald_6 (i := 3) (by decide)
  have t2 : ∀ W : NW, sAld (some (n + 6)) 1 2 (ovr σ n W) = some (W 7 0 2) := fun W => ald_6 (i := 2) (by decide)
  have u3 : ∀ (W : NW) (x : Int32), sAst (some (n + 6)) 1 3 x (ovr σ n W) = some (ovr σ n (up3 W 7 0 3 x)) := fun W x => ast_6 (i := 3) (by decide) x
  have u2 : ∀ (W : NW) (x : Int32), sAst (some (n + 6)) 1 2 x (ovr σ n W) = some (ovr σ n (up3 W 7 0 2 x)) := fun W x => ast_6 (i := 2) (by decide) x
  unfold ctelW
  by_cases hc : cpy w a (nI u)
  · rw [if_pos hc, if_pos hc, if_pos rfl]
    simp only [gR_net_5, Option.bind_some, t3, u3, up3_c (by decide : (7 : Nat) ≠ 4)]
  · rw [if_neg hc, if_neg hc, if_neg one_ne]
    simp only [gR_net_5, gR_net_2, Option.bind_some, t2, u2, up3_c (by decide : (7 : Nat) ≠ 4), eight_ne, if_false, len_3]
    rw [(div8 hu).1, ← (div8 hu).1, (div8 hu).2, (div8 hu).1]
    have e6 : up3 (up3 (up3 w 4 a 4 (nI u)) 4 a 5 (w 0 0 0)) 7 0 2 (w 7 0 2 + 1) 4 a 6 = w 4 a 6 := by
      rw [up3_c (by decide), up3_f (by decide), up3_f (by decide)]
    have hL2 : ∀ i, i < 8 → InvL (up3 (up3 (up3 w 4 a 4 (nI u)) 4 a 5 (w 0 0 0)) 7 0 2 (w 7 0 2 + 1)) i := by
      intro i hi
      have := hL i hi
      unfold InvL at this ⊢
      rw [up3_c (by decide), up3_c (by decide), up3_c (by decide), up3_c (by decide), up3_c (by decide), up3_c (by decide)]
      exact this
    have key := c_lamps (σ := σ) (n := n) (w := up3 (up3 (up3 w 4 a 4 (nI u)) 4 a 5 (w 0 0 0)) 7 0 2 (w 7 0 2 + 1)) (l := u / 8) (cc := u % 8) ha (by rw [e6]; exact ho) ho16 (by omega) (by omega) hL2 8 0 rfl 1000 (by decide)
    rw [e6] at key
    exact key
end CLS5
theorem telG_4o (g : NW) (a : Nat) (x : Int32) {i j : Nat} (h : ¬ (i = a ∧ 4 ≤ j)) : telG g a x 4 i j = g 4 i j := by
  have k : ∀ (G : NW) (q : Nat) (v : Int32), 4 ≤ q → up3 G 4 a q v 4 i j = G 4 i j := by
    intro G q v hq
    simp only [up3]
    rw [if_neg]
    rintro ⟨-, rfl, rfl⟩
    exact h ⟨rfl, hq⟩
  unfold telG actG
  split
  · rw [k _ _ _ (by decide), up3_c (by decide)]
  · rw [k _ _ _ (by decide), k _ _ _ (by decide), lmpN_o _ _ _ _ _ (by decide), k _ _ _ (by decide), up3_c (by decide)]
theorem ctelW_4o (w : NW) (a : Nat) (x : Int32) {i j : Nat} (h : ¬ (i = a ∧ 4 ≤ j)) : ctelW w a x 4 i j = w 4 i j := by
  have k : ∀ (G : NW) (q : Nat) (v : Int32), 4 ≤ q → up3 G 4 a q v 4 i j = G 4 i j := by
    intro G q v hq
    simp only [up3]
    rw [if_neg]
    rintro ⟨-, rfl, rfl⟩
    exact h ⟨rfl, hq⟩
  unfold ctelW
  split
  · rw [up3_c (by decide), k _ _ _ (by decide), k _ _ _ (by decide)]
  · rw [k _ _ _ (by decide), lmpN_o _ _ _ _ _ (by decide), up3_c (by decide), k _ _ _ (by decide), k _ _ _ (by decide)]
theorem ctelW_8 (w : NW) (a : Nat) (x : Int32) (i j : Nat) : ctelW w a x 8 i j = w 8 i j := by
  unfold ctelW
  split
  · rw [up3_c (by decide), up3_c (by decide), up3_c (by decide)]
  · rw [up3_c (by decide), lmpN_o _ _ _ _ _ (by decide), up3_c (by decide), up3_c (by decide), up3_c (by decide)]
theorem nI_m5 {u : Nat} (hu : u < 32) : ¬ nI u = -5 := by
  have key : ∀ q : Fin 32, ¬ nI q.val = -5 := by decide
  exact key ⟨u, hu⟩
theorem cpy_iff {g w : NW} (hb : Base g w) {a u : Nat} (hu : u < 32) (hl : LastOK (g 4 a 4) (w 4 a 4)) (h5 : w 4 a 5 = g 4 a 5) : cpy w a (nI u) ↔ (g 4 a 4 = nI u + 1 ∧ ¬ 17 < g 0 0 0 - g 4 a 5) := by
  unfold cpy
  rw [hb.c0, h5, ← nI_succ]
  rcases hl with ⟨h1, h2⟩ | ⟨v, hv, h1, h2⟩
  · rw [h1, h2]
    constructor
    · rintro ⟨e, -⟩; exact absurd e (nI_m5 hu)
    · rintro ⟨e, -⟩; exact absurd e.symm (nI_ne0 (by omega) (by omega))
  · rw [h1, h2, nI_eq (by omega) (by omega), nI_eq (by omega) (by omega)]
    constructor
    · rintro ⟨rfl, e⟩; exact ⟨rfl, e⟩
    · rintro ⟨h, e⟩; exact ⟨by omega, e⟩
/-- telling keeps the relation -/
theorem tel_rel {g w : NW} (hb : Base g w) {a u : Nat} (hu : u < 32) (hl : LastOK (g 4 a 4) (w 4 a 4)) (h5 : w 4 a 5 = g 4 a 5) (h6 : w 4 a 6 = g 4 a 6) :
    Base (telG g a (nI u)) (ctelW w a (nI u)) ∧ LastOK (telG g a (nI u) 4 a 4) (ctelW w a (nI u) 4 a 4) ∧ ctelW w a (nI u) 4 a 5 = telG g a (nI u) 4 a 5 ∧ ctelW w a (nI u) 4 a 6 = telG g a (nI u) 4 a 6 ∧ telG g a (nI u) 7 0 2 = g 7 0 2 + (if cpy w a (nI u) then 0 else 1) := by
  have hc := cpy_iff hb hu hl h5
  by_cases h : cpy w a (nI u)
  · have e1 : telG g a (nI u) = up3 (up3 g 7 0 3 (g 7 0 3 + 1)) 4 a 5 (g 0 0 0) := by unfold telG; rw [if_pos (hc.mp h)]
    have e2 : ctelW w a (nI u) = up3 (up3 (up3 w 4 a 4 (nI u)) 4 a 5 (w 0 0 0)) 7 0 3 (w 7 0 3 + 1) := by unfold ctelW; rw [if_pos h]
    rw [e1, e2, if_pos h]
    refine ⟨?_, ?_, ?_, ?_, ?_⟩
    · rw [hb.c7]
      exact ((((hb.up4 _).up4 _).up _ (Or.inl (by decide)) (Or.inl (by decide))).up4g _)
    · rw [up3_f (by decide), up3_c (by decide), up3_c (by decide), up3_f (by decide), up3_eq]
      exact Or.inr ⟨u, hu, by rw [(hc.mp h).1, nI_succ], rfl⟩
    · rw [up3_c (by decide), up3_eq, up3_eq, hb.c0]
    · rw [up3_c (by decide), up3_f (by decide), up3_f (by decide), up3_f (by decide), up3_c (by decide)]; exact h6
    · rw [up3_c (by decide), up3_f (by decide)]; simp
  · have e1 : telG g a (nI u) = up3 (actG (up3 (up3 g 7 0 2 (g 7 0 2 + 1)) 4 a 4 (nI u + 1)) a (nI u)) 4 a 5 (g 0 0 0) := by unfold telG; rw [if_neg (fun e => h (hc.mpr e))]
    have e2 : ctelW w a (nI u) = up3 (lmpN (up3 (up3 (up3 w 4 a 4 (nI u)) 4 a 5 (w 0 0 0)) 7 0 2 (w 7 0 2 + 1)) (nI a) (nI u / 8) (nI u - nI u / 8 * 8) (frsh (w 4 a 6) (nI u / 8) (nI u - nI u / 8 * 8)) 8) 4 a 6 (opnV (w 4 a 6) (nI u / 8) (nI u - nI u / 8 * 8)) := by unfold ctelW; rw [if_neg h]
    have eg6 : up3 (up3 g 7 0 2 (g 7 0 2 + 1)) 4 a 4 (nI u + 1) 4 a 6 = g 4 a 6 := by rw [up3_f (by decide), up3_c (by decide)]
    rw [e1, e2, if_neg h]
    unfold actG
    rw [eg6, h6]
    refine ⟨?_, ?_, ?_, ?_, ?_⟩
    · refine Base.up4g (Base.up4 (Base.up4g (Base_lmpN ?_ _ _ _ _ _) _) _) _
      rw [hb.c7]
      exact (((hb.up4 _).up4 _).up _ (Or.inl (by decide)) (Or.inl (by decide))).up4g _
    · rw [up3_f (by decide), up3_f (by decide), lmpN_o _ _ _ _ _ (by decide), up3_eq, up3_f (by decide), lmpN_o _ _ _ _ _ (by decide), up3_c (by decide), up3_f (by decide), up3_eq]
      exact Or.inr ⟨u, hu, by rw [nI_succ], rfl⟩
    · rw [up3_f (by decide), lmpN_o _ _ _ _ _ (by decide), up3_c (by decide), up3_eq, up3_eq, hb.c0]
    · rw [up3_eq, up3_f (by decide), up3_eq]
    · rw [up3_c (by decide), up3_c (by decide), lmpN_o _ _ _ _ _ (by decide), up3_c (by decide), up3_eq]
/-- what always holds, behind a telling -/
theorem telG_o (g : NW) (a : Nat) (x : Int32) {c i j : Nat} (h3 : c ≠ 3) (h4 : c ≠ 4) (h7 : c ≠ 7) : telG g a x c i j = g c i j := by
  unfold telG actG
  split
  · rw [up3_c h4, up3_c h7]
  · rw [up3_c h4, up3_c h4, lmpN_o _ _ _ _ _ h3, up3_c h4, up3_c h7]
theorem telG_7 (g : NW) (a : Nat) (x : Int32) {j : Nat} (h2 : j ≠ 2) (h3 : j ≠ 3) : telG g a x 7 0 j = g 7 0 j := by
  unfold telG actG
  split
  · rw [up3_c (by decide), up3_f h3]
  · rw [up3_c (by decide), up3_c (by decide), lmpN_o _ _ _ _ _ (by decide), up3_c (by decide), up3_f h2]
theorem telG_L {g : NW} (a : Nat) (x : Int32) (hL : ∀ i, i < 8 → InvL g i) : ∀ i, i < 8 → InvL (telG g a x) i := by
  intro i hi
  have k : ∀ (G : NW) (q i' : Nat) (v : Int32) (c : Nat), c ≠ 3 → InvL G i → InvL (up3 G c i' q v) i := by
    intro G q i' v c hc h
    unfold InvL at h ⊢
    rw [up3_c (Ne.symm hc), up3_c (Ne.symm hc)]
    exact h
  unfold telG actG
  split
  · exact k _ _ _ _ _ (by decide) (k _ _ _ _ _ (by decide) (hL i hi))
  · refine k _ _ _ _ _ (by decide) (k _ _ _ _ _ (by decide) (lmpN_L _ _ _ _ _ (fun i hi => ?_) 8 i hi))
    have := hL i hi
    unfold InvL at this ⊢
    rw [up3_c (by decide), up3_c (by decide), up3_c (by decide), up3_c (by decide)]
    exact this
theorem telG_6 {g : NW} {a o u : Nat} (hu : u < 32) (ho : g 4 a 6 = nI o) (ho16 : o < 16) : ∃ q, q < 16 ∧ telG g a (nI u) 4 a 6 = nI q := by
  unfold telG actG
  split
  · rw [up3_f (by decide), up3_c (by decide)]; exact ⟨o, ho16, ho⟩
  · rw [up3_f (by decide), up3_eq, up3_f (by decide), up3_c (by decide), ho, (div8 hu).1]
    exact opnV_lt ho16 (by omega) _

