/-! LEVEL 2: more queries: receiver, frame, loss, total, count -/
section QRY2
variable {z0 : Nat} {σ : SG} {W : Nat → NW} {P : Nat → Nat} {kp : Nat} {h : Int32} {tl : Nat} {tx : Nat → Int32} {r : RW} {g w : NW} {n M : Nat}
theorem P_receiver (H : GR z0 σ) (a b : Int32) : Pair z0 σ (m_X8_receiver (some z0) a b) (m_X9_receiver (some (z0 + 257)) a b) := by
  have H0 := H
  obtain ⟨W, P, kp, h, tl, tx, r, g, H, O⟩ := H
  have outa : (a < 0 ∨ nI 6 ≤ a) → Pair z0 σ (m_X8_receiver (some z0) a b) (m_X9_receiver (some (z0 + 257)) a b) := fun ho => by
    refine Pair.same H0 (v := -1) ?_ ?_
    · unfold m_X8_receiver
      simp only [c_wire_out ho, bnd_some, if_true]
    · unfold m_X9_receiver
      simp only [q_wire_out ho, bnd_some, if_true]
  rcases pk_ix a (n := 6) (by decide) with h0 | h0 | ⟨i, hi, rfl⟩
  · exact outa (Or.inl h0)
  · exact outa (Or.inr h0)
  have out : (b < 0 ∨ nI 5 ≤ b) → Pair z0 σ (m_X8_receiver (some z0) (nI i) b) (m_X9_receiver (some (z0 + 257)) (nI i) b) := fun ho => by
    refine PQ H O (v := -2) ?_ ?_
    · unfold m_X8_receiver
      simp only [c_wire hi, bnd_some, one_ne, if_false, H.e0, gR_net_3, ald_4 hi, Option.bind_some, swK]
      rw [if_neg (show ¬ b = 0 from ne_out (k := 0) ho (by decide) (by decide)), if_neg (show ¬ b = 1 from ne_out (k := 1) ho (by decide) (by decide)), if_neg (show ¬ b = 2 from ne_out (k := 2) ho (by decide) (by decide)), if_neg (show ¬ b = 3 from ne_out (k := 3) ho (by decide) (by decide)), if_neg (show ¬ b = 4 from ne_out (k := 4) ho (by decide) (by decide))]
    · unfold m_X9_receiver
      simp only [q_wire hi, bnd_some, one_ne, if_false, q_r, swK]
      rw [if_neg (show ¬ b = 0 from ne_out (k := 0) ho (by decide) (by decide)), if_neg (show ¬ b = 1 from ne_out (k := 1) ho (by decide) (by decide)), if_neg (show ¬ b = 2 from ne_out (k := 2) ho (by decide) (by decide)), if_neg (show ¬ b = 3 from ne_out (k := 3) ho (by decide) (by decide)), if_neg (show ¬ b = 4 from ne_out (k := 4) ho (by decide) (by decide))]
  rcases pk_ix b (n := 5) (by decide) with h0 | h0 | ⟨k, hk, rfl⟩
  · exact out (Or.inl h0)
  · exact out (Or.inr h0)
  obtain ⟨r0, r1, r2, r4, r5, r6, -⟩ := O.1.2 i hi
  obtain ⟨hb, -⟩ := O.2.1.2.2.2 i hi
  have hk5 : k = 0 ∨ k = 1 ∨ k = 2 ∨ k = 3 ∨ k = 4 := by omega
  rcases hk5 with rfl | rfl | rfl | rfl | rfl
  · refine PQ H O (v := if g 4 i 0 = 0 then -5 else g 4 i 2) ?_ ?_
    · unfold m_X8_receiver
      simp only [c_wire hi, bnd_some, one_ne, if_false, H.e0, gR_net_3, ald_4 hi, Option.bind_some, swK]
      rw [if_pos (show nI 0 = 0 from rfl)]
      simp only [gI_rcv_0 hi, gI_rcv_2 hi, r0, Option.bind_some]
      rcases hb with hb | hb
      · rw [if_pos hb, if_pos hb]
      · rw [if_neg (by rw [hb]; decide), if_neg (by rw [hb]; decide), (r2 hb).1]
    · unfold m_X9_receiver
      simp only [q_wire hi, bnd_some, one_ne, if_false, q_r, swK]
      rw [if_pos (show nI 0 = 0 from rfl)]
      simp only [gR_s_0, xR_p0, xR_p2, sld_R hi (show 0 < 7 by decide), sld_R hi (show 2 < 7 by decide), Option.bind_some]
      rcases hb with hb | hb
      · rw [if_neg (by rw [hb]; decide), if_pos hb]
      · rw [if_pos hb, if_neg (by rw [hb]; decide)]
  · refine PQ H O (v := if g 4 i 0 = 0 then g 4 i 1 else -5) ?_ ?_
    · unfold m_X8_receiver
      simp only [c_wire hi, bnd_some, one_ne, if_false, H.e0, gR_net_3, ald_4 hi, Option.bind_some, swK]
      rw [if_neg (show ¬ nI 1 = 0 by decide), if_pos (show nI 1 = 1 from rfl)]
      simp only [gI_rcv_0 hi, gI_rcv_1 hi, r0, r1, Option.bind_some]
      split <;> rfl
    · unfold m_X9_receiver
      simp only [q_wire hi, bnd_some, one_ne, if_false, q_r, swK]
      rw [if_neg (show ¬ nI 1 = 0 by decide), if_pos (show nI 1 = 1 from rfl)]
      simp only [gR_s_0, xR_p0, xR_p1, sld_R hi (show 0 < 7 by decide), sld_R hi (show 1 < 7 by decide), Option.bind_some]
      split <;> rfl
  · refine PQ H O (v := W 0 4 i 4) ?_ ?_
    · unfold m_X8_receiver
      simp only [c_wire hi, bnd_some, one_ne, if_false, H.e0, gR_net_3, ald_4 hi, Option.bind_some, swK]
      rw [if_neg (show ¬ nI 2 = 0 by decide), if_neg (show ¬ nI 2 = 1 by decide), if_pos (show nI 2 = 2 from rfl)]
      simp only [gI_rcv_4 hi, Option.bind_some]
    · unfold m_X9_receiver
      simp only [q_wire hi, bnd_some, one_ne, if_false, q_r, swK]
      rw [if_neg (show ¬ nI 2 = 0 by decide), if_neg (show ¬ nI 2 = 1 by decide), if_pos (show nI 2 = 2 from rfl)]
      simp only [gR_s_0, xR_p4, sld_R hi (show 4 < 7 by decide), Option.bind_some]
      rcases r4 with ⟨e1, e2⟩ | ⟨u, hu, e1, e2⟩
      · rw [if_pos e1, e2]
      · rw [if_neg (by rw [e1]; exact nI_ne0 (by omega) (by omega)), e1, e2, nI_pr]
  · refine PQ H O (v := if g 4 i 4 = 0 then -5 else g 0 0 0 - g 4 i 5) ?_ ?_
    · unfold m_X8_receiver
      simp only [c_wire hi, bnd_some, one_ne, if_false, H.e0, gR_net_3, ald_4 hi, Option.bind_some, swK]
      rw [if_neg (show ¬ nI 3 = 0 by decide), if_neg (show ¬ nI 3 = 1 by decide), if_neg (show ¬ nI 3 = 2 by decide), if_pos (show nI 3 = 3 from rfl)]
      simp only [gI_rcv_4 hi, gI_rcv_5 hi, gI_net_6, r5, O.1.1.c0, Option.bind_some]
      rcases r4 with ⟨e1, e2⟩ | ⟨u, hu, e1, e2⟩
      · rw [if_pos e2, if_pos e1]
      · rw [if_neg (by rw [e2]; exact nI_m5 hu), if_neg (by rw [e1]; exact nI_ne0 (by omega) (by omega))]
    · unfold m_X9_receiver
      simp only [q_wire hi, bnd_some, one_ne, if_false, q_r, swK]
      rw [if_neg (show ¬ nI 3 = 0 by decide), if_neg (show ¬ nI 3 = 1 by decide), if_neg (show ¬ nI 3 = 2 by decide), if_pos (show nI 3 = 3 from rfl)]
      simp only [gR_s_0, xR_p4, xR_p5, sl4, sld_R hi (show 4 < 7 by decide), sld_R hi (show 5 < 7 by decide), Option.bind_some]
      split <;> rfl
  · refine PQ H O (v := g 4 i 6) ?_ ?_
    · unfold m_X8_receiver
      simp only [c_wire hi, bnd_some, one_ne, if_false, H.e0, gR_net_3, ald_4 hi, Option.bind_some, swK]
      rw [if_neg (show ¬ nI 4 = 0 by decide), if_neg (show ¬ nI 4 = 1 by decide), if_neg (show ¬ nI 4 = 2 by decide), if_neg (show ¬ nI 4 = 3 by decide), if_pos (show nI 4 = 4 from rfl)]
      simp only [gI_rcv_6 hi, r6, Option.bind_some]
    · unfold m_X9_receiver
      simp only [q_wire hi, bnd_some, one_ne, if_false, q_r, swK]
      rw [if_neg (show ¬ nI 4 = 0 by decide), if_neg (show ¬ nI 4 = 1 by decide), if_neg (show ¬ nI 4 = 2 by decide), if_neg (show ¬ nI 4 = 3 by decide), if_pos (show nI 4 = 4 from rfl)]
      simp only [gR_s_0, xR_p6, sld_R hi (show 6 < 7 by decide), Option.bind_some]
theorem P_frame (H : GR z0 σ) (a b : Int32) : Pair z0 σ (m_X8_frame (some z0) a b) (m_X9_frame (some (z0 + 257)) a b) := by
  have outa : (a < 0 ∨ nI 32 ≤ a) → Pair z0 σ (m_X8_frame (some z0) a b) (m_X9_frame (some (z0 + 257)) a b) := fun ho => by
    refine Pair.same H (v := -2) ?_ ?_
    · unfold m_X8_frame
      simp only [c_word_out ho, bnd_some, if_true]
    · unfold m_X9_frame
      simp only [in_out (show a < 0 ∨ (31 : Int32) < a from ho.imp_right (fun h => le_lt (n := 31) h (by decide))), bnd_some, if_true]
  rcases pk_ix a (n := 32) (by decide) with h0 | h0 | ⟨x, hx, rfl⟩
  · exact outa (Or.inl h0)
  · exact outa (Or.inr h0)
  have hin : ∀ τ, m_X9_in (nI x) 0 31 τ = some (1, τ) := fun τ => in_nI (c := 31) (n := 31) rfl (by decide) (by omega) τ
  have out : (b < 0 ∨ nI 14 ≤ b) → Pair z0 σ (m_X8_frame (some z0) (nI x) b) (m_X9_frame (some (z0 + 257)) (nI x) b) := fun ho => by
    refine Pair.same H (v := -2) ?_ ?_
    · unfold m_X8_frame
      simp only [c_word hx, bnd_some, one_ne, if_false]
      by_cases h0 : b < 0
      · rw [if_pos h0]
      · rw [if_neg h0, if_neg (show ¬ b < 14 from Int32.not_lt.mpr (ho.resolve_left h0))]
    · unfold m_X9_frame
      simp only [hin, in_out (show b < 0 ∨ (13 : Int32) < b from ho.imp_right (fun h => le_lt (n := 13) h (by decide))), bnd_some, one_ne, if_false, if_true]
  rcases pk_ix b (n := 14) (by decide) with h0 | h0 | ⟨p, hp, rfl⟩
  · exact out (Or.inl h0)
  · exact out (Or.inr h0)
  have hip : ∀ τ, m_X9_in (nI p) 0 13 τ = some (1, τ) := fun τ => in_nI (c := 13) (n := 13) rfl (by decide) (by omega) τ
  refine Pair.same H (v := frm (nI x) (nI p)) ?_ ?_
  · unfold m_X8_frame
    simp only [c_word hx, c_frameBit _ hp, bnd_some, one_ne, if_false]
    rw [if_neg (nI_pos (by omega)), if_pos (show nI p < 14 from nI_lt (b := 14) hp (by decide))]
  · unfold m_X9_frame
    simp only [hin, hip, q_frameBit, bnd_some, one_ne, if_false]
theorem lossG_rel (hB : Base g w) (a b : Int32) : lossG w a b = lossG g a b := by
  unfold lossG
  rw [hB.c6, hB.c6]
theorem P_loss (H : GR z0 σ) (a b : Int32) : Pair z0 σ (m_X8_loss (some z0) a b) (m_X9_loss (some (z0 + 257)) a b) := by
  have H0 := H
  obtain ⟨W, P, kp, h, tl, tx, r, g, H, O⟩ := H
  have outa : (a < 0 ∨ nI 6 ≤ a) → Pair z0 σ (m_X8_loss (some z0) a b) (m_X9_loss (some (z0 + 257)) a b) := fun ho => by
    refine Pair.same H0 (v := -1) ?_ ?_
    · unfold m_X8_loss
      simp only [c_wire_out ho, bnd_some, if_true]
    · unfold m_X9_loss
      simp only [q_wire_out ho, bnd_some, if_true]
  rcases pk_ix a (n := 6) (by decide) with h0 | h0 | ⟨i, hi, rfl⟩
  · exact outa (Or.inl h0)
  · exact outa (Or.inr h0)
  have out : (b < 0 ∨ nI 6 ≤ b) → Pair z0 σ (m_X8_loss (some z0) (nI i) b) (m_X9_loss (some (z0 + 257)) (nI i) b) := fun ho => by
    refine Pair.same H0 (v := -1) ?_ ?_
    · unfold m_X8_loss
      simp only [c_wire hi, c_wire_out ho, bnd_some, one_ne, if_false, if_true]
    · unfold m_X9_loss
      simp only [q_wire hi, q_wire_out ho, bnd_some, one_ne, if_false, if_true]
  rcases pk_ix b (n := 6) (by decide) with h0 | h0 | ⟨j, hj, rfl⟩
  · exact out (Or.inl h0)
  · exact out (Or.inr h0)
  refine PQ H O (v := lossG g (nI i) (nI j)) ?_ ?_
  · unfold m_X8_loss
    simp only [c_wire hi, c_wire hj, bnd_some, one_ne, if_false, H.e0, ob_net, c_loss, lossG_rel O.1.1, Option.bind_some]
  · unfold m_X9_loss
    simp only [q_wire hi, q_wire hj, bnd_some, one_ne, if_false, ob_s, q_lossOf, Option.bind_some]
theorem P_total (H : GR z0 σ) (a : Int32) : Pair z0 σ (m_X8_total (some z0) a) (m_X9_total (some (z0 + 257)) a) := by
  have H0 := H
  obtain ⟨W, P, kp, h, tl, tx, r, g, H, O⟩ := H
  have out : (a < 0 ∨ nI 5 ≤ a) → Pair z0 σ (m_X8_total (some z0) a) (m_X9_total (some (z0 + 257)) a) := fun ho => by
    refine Pair.same H0 (v := -2) ?_ ?_
    · unfold m_X8_total
      by_cases h0 : a < 0
      · rw [if_pos h0]
      · rw [if_neg h0, if_neg (show ¬ a < 5 from Int32.not_lt.mpr (ho.resolve_left h0))]
    · unfold m_X9_total
      simp only [in_out (show a < 0 ∨ (4 : Int32) < a from ho.imp_right (fun h => le_lt (n := 4) h (by decide))), bnd_some, if_true]
  rcases pk_ix a (n := 5) (by decide) with h0 | h0 | ⟨j, hj, rfl⟩
  · exact out (Or.inl h0)
  · exact out (Or.inr h0)
  have hin : ∀ τ, m_X9_in (nI j) 0 4 τ = some (1, τ) := fun τ => in_nI (c := 4) (n := 4) rfl (by decide) (by omega) τ
  refine PQ H O (v := g 7 0 j) ?_ ?_
  · unfold m_X8_total
    simp only [H.e0, gR_net_5, ald_6 hj, O.1.1.c7, Option.bind_some]
    rw [if_neg (nI_pos (by omega)), if_pos (show nI j < 5 from nI_lt (b := 5) hj (by decide))]
  · unfold m_X9_total
    have e5 : (5 : Int32) + nI j = nI (5 + j) := by rw [show (5 : Int32) = nI 5 from rfl, nI_add]
    simp only [hin, bnd_some, one_ne, if_false, gR_s_0, e5, sld_tot hj, Option.bind_some]
/-! sums -/
def sm (f : Nat → Int32) : Nat → Nat → Int32 → Int32
  | 0, _, x => x
  | d + 1, k, x => sm f d (k + 1) (x + f k)
theorem sm_congr {f f' : Nat → Int32} {N : Nat} (hf : ∀ k, k < N → f k = f' k) : ∀ d k x, k + d ≤ N → sm f d k x = sm f' d k x
  | 0, _, _, _ => rfl
  | d + 1, k, x, hk => by
    unfold sm
    rw [hf k (by omega), sm_congr hf d (k + 1) _ (by omega)]
def fS (g : NW) (a : Int32) (k : Nat) : Int32 := if g 1 k 0 = 1 then (if a = 1 then 1 else if a = 4 then g 1 k 4 else g 1 k 3) else 0
def fL (g : NW) (a : Int32) (k : Nat) : Int32 := if g 3 k 0 = 1 then (if a = 3 then 1 else if g 3 k 4 ≤ 0 then 0 else 1) else 0
theorem q_ofSL (a : Int32) : ∀ (d k : Nat), k + d = 5 → ∀ (F : Nat), d < F → ∀ (x : Int32), m_X9_ofSenders_L4 F (some M) a x (nI k) (ovs σ M r g) = some (sm (fS g a) d k x, ovs σ M r g) := by
  intro d
  induction d with
  | zero =>
    intro k hk F hF x
    obtain ⟨F, rfl⟩ : ∃ m, F = m + 1 := ⟨F - 1, by omega⟩
    rw [show m_X9_ofSenders_L4 (F + 1) = m_X9_ofSenders_B4 (m_X9_ofSenders_L4 F) from rfl]
    unfold m_X9_ofSenders_B4
    rw [if_pos (show (5 : Int32) ≤ nI k from nI_le (a := 5) (by omega) (by omega))]
    rfl
  | succ d ih =>
    intro k hk F hF x
    obtain ⟨F, rfl⟩ : ∃ m, F = m + 1 := ⟨F - 1, by omega⟩
    have hk' : k < 5 := by omega
    rw [show m_X9_ofSenders_L4 (F + 1) = m_X9_ofSenders_B4 (m_X9_ofSenders_L4 F) from rfl]
    unfold m_X9_ofSenders_B4 m_X9_ofSenders_b59 m_X9_ofSenders_b57 m_X9_ofSenders_b59
    rw [if_neg (show ¬ (5 : Int32) ≤ nI k from nI_ge (b := 5) hk' (by decide))]
    simp only [ob_s, q_isSender hk', Option.bind_some, bnd_some, gR_s_0, q_n, xS_p3, xS_p4, sld_S hk' (show 3 < 14 by decide), sld_S hk' (show 4 < 14 by decide), ← nI_succ, ih (k + 1) (by omega) F (by omega)]
    rw [show sm (fS g a) (d + 1) k x = sm (fS g a) d (k + 1) (x + fS g a k) from rfl]
    unfold thr fS
    by_cases hp : g 1 k 0 = 1
    · rw [if_pos hp, if_neg one_ne, if_pos hp]
      split
      · rfl
      · split <;> rfl
    · rw [if_neg hp, if_pos rfl, if_neg hp, Int32.add_zero]
theorem q_ofS (a : Int32) : m_X9_ofSenders (some M) a (ovs σ M r g) = some (sm (fS g a) 5 0 0, ovs σ M r g) := by
  have e := q_ofSL (σ := σ) (M := M) (r := r) (g := g) a 5 0 rfl 1000 (by decide) 0
  rw [← nI0] at e
  exact e
theorem q_ofLL (a : Int32) : ∀ (d k : Nat), k + d = 8 → ∀ (F : Nat), d < F → ∀ (x : Int32), m_X9_ofLamps_L4 F (some M) a x (nI k) (ovs σ M r g) = some (sm (fL g a) d k x, ovs σ M r g) := by
  intro d
  induction d with
  | zero =>
    intro k hk F hF x
    obtain ⟨F, rfl⟩ : ∃ m, F = m + 1 := ⟨F - 1, by omega⟩
    rw [show m_X9_ofLamps_L4 (F + 1) = m_X9_ofLamps_B4 (m_X9_ofLamps_L4 F) from rfl]
    unfold m_X9_ofLamps_B4
    rw [if_pos (show (8 : Int32) ≤ nI k from nI_le (a := 8) (by omega) (by omega))]
    rfl
  | succ d ih =>
    intro k hk F hF x
    obtain ⟨F, rfl⟩ : ∃ m, F = m + 1 := ⟨F - 1, by omega⟩
    have hk' : k < 8 := by omega
    rw [show m_X9_ofLamps_L4 (F + 1) = m_X9_ofLamps_B4 (m_X9_ofLamps_L4 F) from rfl]
    unfold m_X9_ofLamps_B4 m_X9_ofLamps_b42 m_X9_ofLamps_b38 m_X9_ofLamps_b43
    rw [if_neg (show ¬ (8 : Int32) ≤ nI k from nI_ge (b := 8) hk' (by decide))]
    simp only [ob_s, q_isLamp hk', Option.bind_some, bnd_some, gR_s_0, q_l, xL_p4, sld_L hk' (show 4 < 6 by decide), ← nI_succ, ih (k + 1) (by omega) F (by omega)]
    rw [show sm (fL g a) (d + 1) k x = sm (fL g a) d (k + 1) (x + fL g a k) from rfl]
    unfold thr fL
    by_cases hp : g 3 k 0 = 1
    · rw [if_pos hp, if_neg one_ne, if_pos hp]
      split
      · rfl
      · split <;> rfl
    · rw [if_neg hp, if_pos rfl, if_neg hp]
theorem q_ofL (a : Int32) : m_X9_ofLamps (some M) a (ovs σ M r g) = some (sm (fL g a) 8 0 0, ovs σ M r g) := by
  have e := q_ofLL (σ := σ) (M := M) (r := r) (g := g) a 8 0 rfl 1000 (by decide) 0
  rw [← nI0] at e
  exact e
theorem c_pinSL (hb : ∀ i, i < 5 → b01 (w 1 i 0)) : ∀ (d k : Nat), k + d = 5 → ∀ (F : Nat), d < F → ∀ (x : Int32), m_X8_presentIn_L10 F x (some (n + 1)) 5 (nI k) (ovr σ n w) = some (sm (fun k => w 1 k 0) d k x, ovr σ n w) := by
  intro d
  induction d with
  | zero =>
    intro k hk F hF x
    obtain ⟨F, rfl⟩ : ∃ m, F = m + 1 := ⟨F - 1, by omega⟩
    rw [show m_X8_presentIn_L10 (F + 1) = m_X8_presentIn_B10 (m_X8_presentIn_L10 F) from rfl]
    unfold m_X8_presentIn_B10
    rw [if_pos (show (5 : Int32) ≤ nI k from nI_le (a := 5) (by omega) (by omega))]
    rfl
  | succ d ih =>
    intro k hk F hF x
    obtain ⟨F, rfl⟩ : ∃ m, F = m + 1 := ⟨F - 1, by omega⟩
    have hk' : k < 5 := by omega
    rw [show m_X8_presentIn_L10 (F + 1) = m_X8_presentIn_B10 (m_X8_presentIn_L10 F) from rfl]
    unfold m_X8_presentIn_B10 
    rw [if_neg (show ¬ (5 : Int32) ≤ nI k from nI_ge (b := 5) hk' (by decide))]
    rw [show sm (fun k => w 1 k 0) (d + 1) k x = sm (fun k => w 1 k 0) d (k + 1) (x + (fun k => w 1 k 0) k) from rfl]
    simp only [ald_1 hk', gT_snd_1 hk', c_asN (hb k hk'), Option.bind_some, bnd_some, ← nI_succ, ih (k + 1) (by omega) F (by omega)]
    
theorem c_pinS (hb : ∀ i, i < 5 → b01 (w 1 i 0)) : m_X8_presentIn (some (n + 1)) (ovr σ n w) = some (sm (fun k => w 1 k 0) 5 0 0, ovr σ n w) := by
  have e := c_pinSL (σ := σ) (n := n) (w := w) hb 5 0 rfl 1000 (by decide) 0
  rw [← nI0] at e
  unfold m_X8_presentIn
  simp only [len_1, Option.bind_some]
  exact e
theorem c_pinML (hb : ∀ i, i < 4 → b01 (w 2 i 0)) : ∀ (d k : Nat), k + d = 4 → ∀ (F : Nat), d < F → ∀ (x : Int32), m_X8_presentIn_L10 F x (some (n + 2)) 4 (nI k) (ovr σ n w) = some (sm (fun k => w 2 k 0) d k x, ovr σ n w) := by
  intro d
  induction d with
  | zero =>
    intro k hk F hF x
    obtain ⟨F, rfl⟩ : ∃ m, F = m + 1 := ⟨F - 1, by omega⟩
    rw [show m_X8_presentIn_L10 (F + 1) = m_X8_presentIn_B10 (m_X8_presentIn_L10 F) from rfl]
    unfold m_X8_presentIn_B10
    rw [if_pos (show (4 : Int32) ≤ nI k from nI_le (a := 4) (by omega) (by omega))]
    rfl
  | succ d ih =>
    intro k hk F hF x
    obtain ⟨F, rfl⟩ : ∃ m, F = m + 1 := ⟨F - 1, by omega⟩
    have hk' : k < 4 := by omega
    rw [show m_X8_presentIn_L10 (F + 1) = m_X8_presentIn_B10 (m_X8_presentIn_L10 F) from rfl]
    unfold m_X8_presentIn_B10 
    rw [if_neg (show ¬ (4 : Int32) ≤ nI k from nI_ge (b := 4) hk' (by decide))]
    rw [show sm (fun k => w 2 k 0) (d + 1) k x = sm (fun k => w 2 k 0) d (k + 1) (x + (fun k => w 2 k 0) k) from rfl]
    simp only [ald_2 hk', gT_mac_1 hk', c_asN (hb k hk'), Option.bind_some, bnd_some, ← nI_succ, ih (k + 1) (by omega) F (by omega)]
    
theorem c_pinM (hb : ∀ i, i < 4 → b01 (w 2 i 0)) : m_X8_presentIn (some (n + 2)) (ovr σ n w) = some (sm (fun k => w 2 k 0) 4 0 0, ovr σ n w) := by
  have e := c_pinML (σ := σ) (n := n) (w := w) hb 4 0 rfl 1000 (by decide) 0
  rw [← nI0] at e
  unfold m_X8_presentIn
  simp only [len_2, Option.bind_some]
  exact e
theorem c_pinLL (hb : ∀ i, i < 8 → b01 (w 3 i 0)) : ∀ (d k : Nat), k + d = 8 → ∀ (F : Nat), d < F → ∀ (x : Int32), m_X8_presentIn_L10 F x (some (n + 3)) 8 (nI k) (ovr σ n w) = some (sm (fun k => w 3 k 0) d k x, ovr σ n w) := by
  intro d
  induction d with
  | zero =>
    intro k hk F hF x
    obtain ⟨F, rfl⟩ : ∃ m, F = m + 1 := ⟨F - 1, by omega⟩
    rw [show m_X8_presentIn_L10 (F + 1) = m_X8_presentIn_B10 (m_X8_presentIn_L10 F) from rfl]
    unfold m_X8_presentIn_B10
    rw [if_pos (show (8 : Int32) ≤ nI k from nI_le (a := 8) (by omega) (by omega))]
    rfl
  | succ d ih =>
    intro k hk F hF x
    obtain ⟨F, rfl⟩ : ∃ m, F = m + 1 := ⟨F - 1, by omega⟩
    have hk' : k < 8 := by omega
    rw [show m_X8_presentIn_L10 (F + 1) = m_X8_presentIn_B10 (m_X8_presentIn_L10 F) from rfl]
    unfold m_X8_presentIn_B10 
    rw [if_neg (show ¬ (8 : Int32) ≤ nI k from nI_ge (b := 8) hk' (by decide))]
    rw [show sm (fun k => w 3 k 0) (d + 1) k x = sm (fun k => w 3 k 0) d (k + 1) (x + (fun k => w 3 k 0) k) from rfl]
    simp only [ald_3 hk', gT_lam_1 hk', c_asN (hb k hk'), Option.bind_some, bnd_some, ← nI_succ, ih (k + 1) (by omega) F (by omega)]
    
theorem c_pinL (hb : ∀ i, i < 8 → b01 (w 3 i 0)) : m_X8_presentIn (some (n + 3)) (ovr σ n w) = some (sm (fun k => w 3 k 0) 8 0 0, ovr σ n w) := by
  have e := c_pinLL (σ := σ) (n := n) (w := w) hb 8 0 rfl 1000 (by decide) 0
  rw [← nI0] at e
  unfold m_X8_presentIn
  simp only [len_3, Option.bind_some]
  exact e
theorem c_spksL (hb : ∀ i, i < 5 → b01 (w 1 i 0) ∧ b01 (w 1 i 4)) : ∀ (d k : Nat), k + d = 5 → ∀ (F : Nat), d < F → ∀ (x : Int32), m_X3_speakingSenders_L13 F x (some (n + 1)) 5 (nI k) (ovr σ n w) = some (sm (fun k => if w 1 k 0 = 1 then w 1 k 4 else 0) d k x, ovr σ n w) := by
  intro d
  induction d with
  | zero =>
    intro k hk F hF x
    obtain ⟨F, rfl⟩ : ∃ m, F = m + 1 := ⟨F - 1, by omega⟩
    rw [show m_X3_speakingSenders_L13 (F + 1) = m_X3_speakingSenders_B13 (m_X3_speakingSenders_L13 F) from rfl]
    unfold m_X3_speakingSenders_B13
    rw [if_pos (show (5 : Int32) ≤ nI k from nI_le (a := 5) (by omega) (by omega))]
    rfl
  | succ d ih =>
    intro k hk F hF x
    obtain ⟨F, rfl⟩ : ∃ m, F = m + 1 := ⟨F - 1, by omega⟩
    have hk' : k < 5 := by omega
    rw [show m_X3_speakingSenders_L13 (F + 1) = m_X3_speakingSenders_B13 (m_X3_speakingSenders_L13 F) from rfl]
    unfold m_X3_speakingSenders_B13 m_X6_isSpeaking
    rw [if_neg (show ¬ (5 : Int32) ≤ nI k from nI_ge (b := 5) hk' (by decide))]
    rw [show sm (fun k => if w 1 k 0 = 1 then w 1 k 4 else 0) (d + 1) k x = sm (fun k => if w 1 k 0 = 1 then w 1 k 4 else 0) d (k + 1) (x + (fun k => if w 1 k 0 = 1 then w 1 k 4 else 0) k) from rfl]
    simp only [ald_1 hk', ob_snd hk', gI_snd_1 hk', gI_snd_6 hk', Option.bind_some, bnd_some, ← nI_succ, ih (k + 1) (by omega) F (by omega)]
    rcases (hb k hk').1 with h0 | h0
    · rw [if_pos h0, if_neg (by rw [h0]; decide), show ∀ τ, chkZ 0 τ = some (0, τ) from fun _ => rfl]
      simp only [bnd_some, c_asN (Or.inl rfl), ih (k + 1) (by omega) F (by omega)]
    · rw [if_neg (by rw [h0]; decide), if_pos h0]
      rcases (hb k hk').2 with h4 | h4
      · rw [if_pos h4, h4, show ∀ τ, chkZ 0 τ = some (0, τ) from fun _ => rfl]
        simp only [bnd_some, c_asN (Or.inl rfl), ih (k + 1) (by omega) F (by omega)]
      · rw [if_neg (by rw [h4]; decide), h4, show ∀ τ, chkZ 1 τ = some (1, τ) from fun _ => rfl]
        simp only [bnd_some, c_asN (Or.inr rfl), ih (k + 1) (by omega) F (by omega)]
theorem c_queL  : ∀ (d k : Nat), k + d = 5 → ∀ (F : Nat), d < F → ∀ (x : Int32), m_X3_queuedWords_L13 F x (some (n + 1)) 5 (nI k) (ovr σ n w) = some (sm (fun k => if w 1 k 0 = 0 then 0 else w 1 k 3) d k x, ovr σ n w) := by
  intro d
  induction d with
  | zero =>
    intro k hk F hF x
    obtain ⟨F, rfl⟩ : ∃ m, F = m + 1 := ⟨F - 1, by omega⟩
    rw [show m_X3_queuedWords_L13 (F + 1) = m_X3_queuedWords_B13 (m_X3_queuedWords_L13 F) from rfl]
    unfold m_X3_queuedWords_B13
    rw [if_pos (show (5 : Int32) ≤ nI k from nI_le (a := 5) (by omega) (by omega))]
    rfl
  | succ d ih =>
    intro k hk F hF x
    obtain ⟨F, rfl⟩ : ∃ m, F = m + 1 := ⟨F - 1, by omega⟩
    have hk' : k < 5 := by omega
    rw [show m_X3_queuedWords_L13 (F + 1) = m_X3_queuedWords_B13 (m_X3_queuedWords_L13 F) from rfl]
    unfold m_X3_queuedWords_B13 m_X3_queuedWords_b41
    rw [if_neg (show ¬ (5 : Int32) ≤ nI k from nI_ge (b := 5) hk' (by decide))]
    rw [show sm (fun k => if w 1 k 0 = 0 then 0 else w 1 k 3) (d + 1) k x = sm (fun k => if w 1 k 0 = 0 then 0 else w 1 k 3) d (k + 1) (x + (fun k => if w 1 k 0 = 0 then 0 else w 1 k 3) k) from rfl]
    simp only [ald_1 hk', gI_snd_1 hk', gI_snd_4 hk', Option.bind_some, bnd_some, ← nI_succ, ih (k + 1) (by omega) F (by omega)]
    split
    · rw [Int32.add_zero]
    · rfl
theorem c_litL  : ∀ (d k : Nat), k + d = 8 → ∀ (F : Nat), d < F → ∀ (x : Int32), m_X3_litLamps_L13 F x (some (n + 3)) 8 (nI k) (ovr σ n w) = some (sm (fun k => if w 3 k 0 = 0 then 0 else if w 3 k 4 ≤ 0 then 0 else 1) d k x, ovr σ n w) := by
  intro d
  induction d with
  | zero =>
    intro k hk F hF x
    obtain ⟨F, rfl⟩ : ∃ m, F = m + 1 := ⟨F - 1, by omega⟩
    rw [show m_X3_litLamps_L13 (F + 1) = m_X3_litLamps_B13 (m_X3_litLamps_L13 F) from rfl]
    unfold m_X3_litLamps_B13
    rw [if_pos (show (8 : Int32) ≤ nI k from nI_le (a := 8) (by omega) (by omega))]
    rfl
  | succ d ih =>
    intro k hk F hF x
    obtain ⟨F, rfl⟩ : ∃ m, F = m + 1 := ⟨F - 1, by omega⟩
    have hk' : k < 8 := by omega
    rw [show m_X3_litLamps_L13 (F + 1) = m_X3_litLamps_B13 (m_X3_litLamps_L13 F) from rfl]
    unfold m_X3_litLamps_B13 m_X3_litLamps_b46 m_X3_litLamps_b47
    rw [if_neg (show ¬ (8 : Int32) ≤ nI k from nI_ge (b := 8) hk' (by decide))]
    rw [show sm (fun k => if w 3 k 0 = 0 then 0 else if w 3 k 4 ≤ 0 then 0 else 1) (d + 1) k x = sm (fun k => if w 3 k 0 = 0 then 0 else if w 3 k 4 ≤ 0 then 0 else 1) d (k + 1) (x + (fun k => if w 3 k 0 = 0 then 0 else if w 3 k 4 ≤ 0 then 0 else 1) k) from rfl]
    simp only [ald_3 hk', gI_lam_1 hk', gI_lam_5 hk', c_asN (Or.inl rfl), c_asN (Or.inr rfl), Option.bind_some, bnd_some, ← nI_succ, ih (k + 1) (by omega) F (by omega)]
    split
    · rfl
    · split <;> rfl
theorem c_spks (hb : ∀ i, i < 5 → b01 (w 1 i 0) ∧ b01 (w 1 i 4)) : m_X3_speakingSenders (some n) (ovr σ n w) = some (sm (fun k => if w 1 k 0 = 1 then w 1 k 4 else 0) 5 0 0, ovr σ n w) := by
  have e := c_spksL (σ := σ) (n := n) (w := w) hb 5 0 rfl 1000 (by decide) 0
  rw [← nI0] at e
  unfold m_X3_speakingSenders
  simp only [gR_net_0, len_1, Option.bind_some]
  exact e
theorem c_que : m_X3_queuedWords (some n) (ovr σ n w) = some (sm (fun k => if w 1 k 0 = 0 then 0 else w 1 k 3) 5 0 0, ovr σ n w) := by
  have e := c_queL (σ := σ) (n := n) (w := w) 5 0 rfl 1000 (by decide) 0
  rw [← nI0] at e
  unfold m_X3_queuedWords
  simp only [gR_net_0, len_1, Option.bind_some]
  exact e
theorem c_lit : m_X3_litLamps (some n) (ovr σ n w) = some (sm (fun k => if w 3 k 0 = 0 then 0 else if w 3 k 4 ≤ 0 then 0 else 1) 8 0 0, ovr σ n w) := by
  have e := c_litL (σ := σ) (n := n) (w := w) 8 0 rfl 1000 (by decide) 0
  rw [← nI0] at e
  unfold m_X3_litLamps
  simp only [gR_net_2, len_3, Option.bind_some]
  exact e
theorem b01_if {x : Int32} (hx : b01 x) {α : Type} (a b : α) : (if x = 0 then a else b) = if x = 1 then b else a := by
  rcases hx with h | h <;> subst h <;> rfl
/-- the words that wait, on both sides -/
theorem que_eq (hR : Rel g w) (hI : Inv g) : sm (fun k => if w 1 k 0 = 0 then 0 else w 1 k 3) 5 0 0 = sm (fS g 5) 5 0 0 := by
  refine sm_congr (N := 5) (fun k hk => ?_) 5 0 0 (by omega)
  show (if w 1 k 0 = 0 then 0 else w 1 k 3) = fS g 5 k
  rw [hR.1.c1 k (by decide), hR.1.c1 k (by decide), b01_if (hI.1 k hk).1]
  rfl
theorem P_count (H : GR z0 σ) (a : Int32) : Pair z0 σ (m_X8_count (some z0) a) (m_X9_count (some (z0 + 257)) a) := by
  have H0 := H
  obtain ⟨W, P, kp, h, tl, tx, r, g, H, O⟩ := H
  have out : (a < 0 ∨ nI 13 ≤ a) → Pair z0 σ (m_X8_count (some z0) a) (m_X9_count (some (z0 + 257)) a) := fun ho => by
    refine Pair.same H0 (v := -2) ?_ ?_
    · unfold m_X8_count
      simp only [swK]
      rw [if_neg (show ¬ a = 0 from ne_out (k := 0) ho (by decide) (by decide)), if_neg (show ¬ a = 1 from ne_out (k := 1) ho (by decide) (by decide)), if_neg (show ¬ a = 2 from ne_out (k := 2) ho (by decide) (by decide)), if_neg (show ¬ a = 3 from ne_out (k := 3) ho (by decide) (by decide)), if_neg (show ¬ a = 4 from ne_out (k := 4) ho (by decide) (by decide)), if_neg (show ¬ a = 5 from ne_out (k := 5) ho (by decide) (by decide)), if_neg (show ¬ a = 6 from ne_out (k := 6) ho (by decide) (by decide)), if_neg (show ¬ a = 7 from ne_out (k := 7) ho (by decide) (by decide)), if_neg (show ¬ a = 8 from ne_out (k := 8) ho (by decide) (by decide)), if_neg (show ¬ a = 9 from ne_out (k := 9) ho (by decide) (by decide)), if_neg (show ¬ a = 10 from ne_out (k := 10) ho (by decide) (by decide)), if_neg (show ¬ a = 11 from ne_out (k := 11) ho (by decide) (by decide)), if_neg (show ¬ a = 12 from ne_out (k := 12) ho (by decide) (by decide))]
    · unfold m_X9_count
      simp only [swK]
      rw [if_neg (show ¬ a = 0 from ne_out (k := 0) ho (by decide) (by decide)), if_neg (show ¬ a = 1 from ne_out (k := 1) ho (by decide) (by decide)), if_neg (show ¬ a = 2 from ne_out (k := 2) ho (by decide) (by decide)), if_neg (show ¬ a = 3 from ne_out (k := 3) ho (by decide) (by decide)), if_neg (show ¬ a = 4 from ne_out (k := 4) ho (by decide) (by decide)), if_neg (show ¬ a = 5 from ne_out (k := 5) ho (by decide) (by decide)), if_neg (show ¬ a = 6 from ne_out (k := 6) ho (by decide) (by decide)), if_neg (show ¬ a = 7 from ne_out (k := 7) ho (by decide) (by decide)), if_neg (show ¬ a = 8 from ne_out (k := 8) ho (by decide) (by decide)), if_neg (show ¬ a = 9 from ne_out (k := 9) ho (by decide) (by decide)), if_neg (show ¬ a = 10 from ne_out (k := 10) ho (by decide) (by decide)), if_neg (show ¬ a = 11 from ne_out (k := 11) ho (by decide) (by decide)), if_neg (show ¬ a = 12 from ne_out (k := 12) ho (by decide) (by decide))]
  rcases pk_ix a (n := 13) (by decide) with h0 | h0 | ⟨k, hk, rfl⟩
  · exact out (Or.inl h0)
  · exact out (Or.inr h0)
  have hB := O.1.1
  have hI := O.2.1
  have bS : ∀ i, i < 5 → b01 (W 0 1 i 0) ∧ b01 (W 0 1 i 4) := fun i hi => by
    rw [hB.c1 i (by decide), hB.c1 i (by decide)]
    exact ⟨(hI.1 i hi).1, (hI.1 i hi).2.1⟩
  have k13 : k = 0 ∨ k = 1 ∨ k = 2 ∨ k = 3 ∨ k = 4 ∨ k = 5 ∨ k = 6 ∨ k = 7 ∨ k = 8 ∨ k = 9 ∨ k = 10 ∨ k = 11 ∨ k = 12 := by omega
  rcases k13 with rfl | rfl | rfl | rfl | rfl | rfl | rfl | rfl | rfl | rfl | rfl | rfl | rfl
  · refine PQ H O (v := g 0 0 0) ?_ ?_
    · unfold m_X8_count
      simp only [swK]
      rw [if_pos (show nI 0 = 0 from rfl)]
      simp only [H.e0, gI_net_6, hB.c0, Option.bind_some, bnd_some]
    · unfold m_X9_count 
      simp only [swK]
      rw [if_pos (show nI 0 = 0 from rfl)]
      simp only [gR_s_0, sl4, Option.bind_some, bnd_some]
  · refine PQ H O (v := sm (fS g (nI 1)) 5 0 0) ?_ ?_
    · unfold m_X8_count
      simp only [swK]
      rw [if_neg (show ¬ nI 1 = 0 by decide), if_pos (show nI 1 = 1 from rfl)]
      simp only [H.e0, gR_net_0, c_pinS (fun i hi => (bS i hi).1), Option.bind_some, bnd_some]
      rw [sm_congr (N := 5) (f' := fS g (nI 1)) (fun i hi => ?_) 5 0 0 (by omega)]
      show W 0 1 i 0 = fS g (nI 1) i
      rw [hB.c1 i (by decide)]
      unfold fS
      rcases (hI.1 i hi).1 with e | e
      · rw [if_neg (by rw [e]; decide), e]
      · rw [if_pos e, if_pos (show nI 1 = 1 from rfl), e]
    · unfold m_X9_count m_X9_count_b75
      simp only [swK]
      rw [if_neg (show ¬ nI 1 = 0 by decide), if_pos (show nI 1 = 1 from rfl)]
      simp only [ob_s, q_ofS, Option.bind_some, bnd_some]
  · refine PQ H O (v := ((g 2 0 0 + g 2 1 0) + g 2 2 0) + g 2 3 0) ?_ ?_
    · unfold m_X8_count
      simp only [swK]
      rw [if_neg (show ¬ nI 2 = 0 by decide), if_neg (show ¬ nI 2 = 1 by decide), if_pos (show nI 2 = 2 from rfl)]
      have bM : ∀ i, i < 4 → b01 (W 0 2 i 0) := fun i hi => by
        rw [hB.c2 i (Or.inl (by decide))]
        exact (hI.2.1 i hi).1
      simp only [H.e0, gR_net_1, c_pinM bM, Option.bind_some, bnd_some, sm, hB.c2 0 (Or.inl (show (0 : Nat) ≠ 3 by decide)), hB.c2 1 (Or.inl (show (0 : Nat) ≠ 3 by decide)), hB.c2 2 (Or.inl (show (0 : Nat) ≠ 3 by decide)), hB.c2 3 (Or.inl (show (0 : Nat) ≠ 3 by decide)), Int32.zero_add, Nat.zero_add, Nat.reduceAdd]
    · unfold m_X9_count
      simp only [swK]
      rw [if_neg (show ¬ nI 2 = 0 by decide), if_neg (show ¬ nI 2 = 1 by decide), if_pos (show nI 2 = 2 from rfl)]
      have em : ∀ (i : Nat) (x : Int32), x = nI i → ∀ τ, m_X9_m x τ = some (nI (xM i 0), τ) := fun i x e τ => by rw [e]; exact q_m i τ
      simp only [gR_s_0, em 0 0 rfl, em 1 1 rfl, em 2 2 rfl, em 3 3 rfl, sld_M (show 0 < 4 by decide) (show 0 < 5 by decide), sld_M (show 1 < 4 by decide) (show 0 < 5 by decide), sld_M (show 2 < 4 by decide) (show 0 < 5 by decide), sld_M (show 3 < 4 by decide) (show 0 < 5 by decide), Option.bind_some, bnd_some]
  · refine PQ H O (v := sm (fL g (nI 3)) 8 0 0) ?_ ?_
    · unfold m_X8_count
      simp only [swK]
      rw [if_neg (show ¬ nI 3 = 0 by decide), if_neg (show ¬ nI 3 = 1 by decide), if_neg (show ¬ nI 3 = 2 by decide), if_pos (show nI 3 = 3 from rfl)]
      simp only [H.e0, gR_net_2, c_pinL (b_L hI O.1), Option.bind_some, bnd_some]
      rw [sm_congr (N := 8) (f' := fL g (nI 3)) (fun i hi => ?_) 8 0 0 (by omega)]
      show W 0 3 i 0 = fL g (nI 3) i
      rw [hB.c3 i 0]
      unfold fL
      rcases (hI.2.2.1 i hi).1 with e | e
      · rw [if_neg (by rw [e]; decide), e]
      · rw [if_pos e, if_pos (show nI 3 = 3 from rfl), e]
    · unfold m_X9_count m_X9_count_b121
      simp only [swK]
      rw [if_neg (show ¬ nI 3 = 0 by decide), if_neg (show ¬ nI 3 = 1 by decide), if_neg (show ¬ nI 3 = 2 by decide), if_pos (show nI 3 = 3 from rfl)]
      simp only [ob_s, q_ofL, Option.bind_some, bnd_some]
  · refine PQ H O (v := sm (fS g (nI 4)) 5 0 0) ?_ ?_
    · unfold m_X8_count
      simp only [swK]
      rw [if_neg (show ¬ nI 4 = 0 by decide), if_neg (show ¬ nI 4 = 1 by decide), if_neg (show ¬ nI 4 = 2 by decide), if_neg (show ¬ nI 4 = 3 by decide), if_pos (show nI 4 = 4 from rfl)]
      simp only [H.e0, ob_net, c_spks bS, Option.bind_some, bnd_some]
      rw [sm_congr (N := 5) (f' := fS g (nI 4)) (fun i hi => ?_) 5 0 0 (by omega)]
      show (if W 0 1 i 0 = 1 then W 0 1 i 4 else 0) = fS g (nI 4) i
      rw [hB.c1 i (by decide), hB.c1 i (by decide)]
      unfold fS
      rw [if_neg (show ¬ nI 4 = 1 by decide), if_pos (show nI 4 = 4 from rfl)]
    · unfold m_X9_count m_X9_count_b75
      simp only [swK]
      rw [if_neg (show ¬ nI 4 = 0 by decide), if_neg (show ¬ nI 4 = 1 by decide), if_neg (show ¬ nI 4 = 2 by decide), if_neg (show ¬ nI 4 = 3 by decide), if_pos (show nI 4 = 4 from rfl)]
      simp only [ob_s, q_ofS, Option.bind_some, bnd_some]
  · refine PQ H O (v := sm (fS g (nI 5)) 5 0 0) ?_ ?_
    · unfold m_X8_count
      simp only [swK]
      rw [if_neg (show ¬ nI 5 = 0 by decide), if_neg (show ¬ nI 5 = 1 by decide), if_neg (show ¬ nI 5 = 2 by decide), if_neg (show ¬ nI 5 = 3 by decide), if_neg (show ¬ nI 5 = 4 by decide), if_pos (show nI 5 = 5 from rfl)]
      simp only [H.e0, ob_net, c_que, Option.bind_some, bnd_some]
      rw [que_eq O.1 hI]
      rfl
    · unfold m_X9_count m_X9_count_b75
      simp only [swK]
      rw [if_neg (show ¬ nI 5 = 0 by decide), if_neg (show ¬ nI 5 = 1 by decide), if_neg (show ¬ nI 5 = 2 by decide), if_neg (show ¬ nI 5 = 3 by decide), if_neg (show ¬ nI 5 = 4 by decide), if_pos (show nI 5 = 5 from rfl)]
      simp only [ob_s, q_ofS, Option.bind_some, bnd_some]
  · refine PQ H O (v := sm (fL g (nI 6)) 8 0 0) ?_ ?_
    · unfold m_X8_count
      simp only [swK]
      rw [if_neg (show ¬ nI 6 = 0 by decide), if_neg (show ¬ nI 6 = 1 by decide), if_neg (show ¬ nI 6 = 2 by decide), if_neg (show ¬ nI 6 = 3 by decide), if_neg (show ¬ nI 6 = 4 by decide), if_neg (show ¬ nI 6 = 5 by decide), if_pos (show nI 6 = 6 from rfl)]
      simp only [H.e0, ob_net, c_lit, Option.bind_some, bnd_some]
      rw [sm_congr (N := 8) (f' := fL g (nI 6)) (fun i hi => ?_) 8 0 0 (by omega)]
      show (if W 0 3 i 0 = 0 then 0 else if W 0 3 i 4 ≤ 0 then 0 else 1) = fL g (nI 6) i
      rw [hB.c3 i 0, hB.c3 i 4, b01_if (hI.2.2.1 i hi).1]
      unfold fL
      rw [if_neg (show ¬ nI 6 = 3 by decide)]
    · unfold m_X9_count m_X9_count_b121
      simp only [swK]
      rw [if_neg (show ¬ nI 6 = 0 by decide), if_neg (show ¬ nI 6 = 1 by decide), if_neg (show ¬ nI 6 = 2 by decide), if_neg (show ¬ nI 6 = 3 by decide), if_neg (show ¬ nI 6 = 4 by decide), if_neg (show ¬ nI 6 = 5 by decide), if_pos (show nI 6 = 6 from rfl)]
      simp only [ob_s, q_ofL, Option.bind_some, bnd_some]
  · refine PQ H O (v := g 6 0 0) ?_ ?_
    · unfold m_X8_count
      simp only [swK]
      rw [if_neg (show ¬ nI 7 = 0 by decide), if_neg (show ¬ nI 7 = 1 by decide), if_neg (show ¬ nI 7 = 2 by decide), if_neg (show ¬ nI 7 = 3 by decide), if_neg (show ¬ nI 7 = 4 by decide), if_neg (show ¬ nI 7 = 5 by decide), if_neg (show ¬ nI 7 = 6 by decide), if_pos (show nI 7 = 7 from rfl)]
      simp only [H.e0, gR_net_4, show ∀ τ w, sAld (some (NA z0 0 + 5)) 1 0 (ovr τ (NA z0 0) w) = some (w 6 0 0) from fun τ w => ald_5 (i := 0) (by decide), hB.c6, Option.bind_some, bnd_some]
    · unfold m_X9_count m_X9_count_b127
      simp only [swK]
      rw [if_neg (show ¬ nI 7 = 0 by decide), if_neg (show ¬ nI 7 = 1 by decide), if_neg (show ¬ nI 7 = 2 by decide), if_neg (show ¬ nI 7 = 3 by decide), if_neg (show ¬ nI 7 = 4 by decide), if_neg (show ¬ nI 7 = 5 by decide), if_neg (show ¬ nI 7 = 6 by decide), if_pos (show nI 7 = 7 from rfl)]
      simp only [gR_s_0, show (nI 7 : Int32) - 7 = nI 0 from rfl, sld_set (show 0 < 4 by decide), Option.bind_some, bnd_some]
  · refine PQ H O (v := g 6 0 1) ?_ ?_
    · unfold m_X8_count
      simp only [swK]
      rw [if_neg (show ¬ nI 8 = 0 by decide), if_neg (show ¬ nI 8 = 1 by decide), if_neg (show ¬ nI 8 = 2 by decide), if_neg (show ¬ nI 8 = 3 by decide), if_neg (show ¬ nI 8 = 4 by decide), if_neg (show ¬ nI 8 = 5 by decide), if_neg (show ¬ nI 8 = 6 by decide), if_neg (show ¬ nI 8 = 7 by decide), if_pos (show nI 8 = 8 from rfl)]
      simp only [H.e0, gR_net_4, show ∀ τ w, sAld (some (NA z0 0 + 5)) 1 1 (ovr τ (NA z0 0) w) = some (w 6 0 1) from fun τ w => ald_5 (i := 1) (by decide), hB.c6, Option.bind_some, bnd_some]
    · unfold m_X9_count m_X9_count_b127
      simp only [swK]
      rw [if_neg (show ¬ nI 8 = 0 by decide), if_neg (show ¬ nI 8 = 1 by decide), if_neg (show ¬ nI 8 = 2 by decide), if_neg (show ¬ nI 8 = 3 by decide), if_neg (show ¬ nI 8 = 4 by decide), if_neg (show ¬ nI 8 = 5 by decide), if_neg (show ¬ nI 8 = 6 by decide), if_neg (show ¬ nI 8 = 7 by decide), if_pos (show nI 8 = 8 from rfl)]
      simp only [gR_s_0, show (nI 8 : Int32) - 7 = nI 1 from rfl, sld_set (show 1 < 4 by decide), Option.bind_some, bnd_some]
  · refine PQ H O (v := g 6 0 2) ?_ ?_
    · unfold m_X8_count
      simp only [swK]
      rw [if_neg (show ¬ nI 9 = 0 by decide), if_neg (show ¬ nI 9 = 1 by decide), if_neg (show ¬ nI 9 = 2 by decide), if_neg (show ¬ nI 9 = 3 by decide), if_neg (show ¬ nI 9 = 4 by decide), if_neg (show ¬ nI 9 = 5 by decide), if_neg (show ¬ nI 9 = 6 by decide), if_neg (show ¬ nI 9 = 7 by decide), if_neg (show ¬ nI 9 = 8 by decide), if_pos (show nI 9 = 9 from rfl)]
      simp only [H.e0, gR_net_4, show ∀ τ w, sAld (some (NA z0 0 + 5)) 1 2 (ovr τ (NA z0 0) w) = some (w 6 0 2) from fun τ w => ald_5 (i := 2) (by decide), hB.c6, Option.bind_some, bnd_some]
    · unfold m_X9_count m_X9_count_b127
      simp only [swK]
      rw [if_neg (show ¬ nI 9 = 0 by decide), if_neg (show ¬ nI 9 = 1 by decide), if_neg (show ¬ nI 9 = 2 by decide), if_neg (show ¬ nI 9 = 3 by decide), if_neg (show ¬ nI 9 = 4 by decide), if_neg (show ¬ nI 9 = 5 by decide), if_neg (show ¬ nI 9 = 6 by decide), if_neg (show ¬ nI 9 = 7 by decide), if_neg (show ¬ nI 9 = 8 by decide), if_pos (show nI 9 = 9 from rfl)]
      simp only [gR_s_0, show (nI 9 : Int32) - 7 = nI 2 from rfl, sld_set (show 2 < 4 by decide), Option.bind_some, bnd_some]
  · refine PQ H O (v := g 6 0 3) ?_ ?_
    · unfold m_X8_count
      simp only [swK]
      rw [if_neg (show ¬ nI 10 = 0 by decide), if_neg (show ¬ nI 10 = 1 by decide), if_neg (show ¬ nI 10 = 2 by decide), if_neg (show ¬ nI 10 = 3 by decide), if_neg (show ¬ nI 10 = 4 by decide), if_neg (show ¬ nI 10 = 5 by decide), if_neg (show ¬ nI 10 = 6 by decide), if_neg (show ¬ nI 10 = 7 by decide), if_neg (show ¬ nI 10 = 8 by decide), if_neg (show ¬ nI 10 = 9 by decide), if_pos (show nI 10 = 10 from rfl)]
      simp only [H.e0, gR_net_4, show ∀ τ w, sAld (some (NA z0 0 + 5)) 1 3 (ovr τ (NA z0 0) w) = some (w 6 0 3) from fun τ w => ald_5 (i := 3) (by decide), hB.c6, Option.bind_some, bnd_some]
    · unfold m_X9_count m_X9_count_b127
      simp only [swK]
      rw [if_neg (show ¬ nI 10 = 0 by decide), if_neg (show ¬ nI 10 = 1 by decide), if_neg (show ¬ nI 10 = 2 by decide), if_neg (show ¬ nI 10 = 3 by decide), if_neg (show ¬ nI 10 = 4 by decide), if_neg (show ¬ nI 10 = 5 by decide), if_neg (show ¬ nI 10 = 6 by decide), if_neg (show ¬ nI 10 = 7 by decide), if_neg (show ¬ nI 10 = 8 by decide), if_neg (show ¬ nI 10 = 9 by decide), if_pos (show nI 10 = 10 from rfl)]
      simp only [gR_s_0, show (nI 10 : Int32) - 7 = nI 3 from rfl, sld_set (show 3 < 4 by decide), Option.bind_some, bnd_some]
  · refine PQ H O (v := nI kp) ?_ ?_
    · rw [H.neq (by decide)]
      unfold m_X8_count
      simp only [swK]
      rw [if_neg (show ¬ nI 11 = 0 by decide), if_neg (show ¬ nI 11 = 1 by decide), if_neg (show ¬ nI 11 = 2 by decide), if_neg (show ¬ nI 11 = 3 by decide), if_neg (show ¬ nI 11 = 4 by decide), if_neg (show ¬ nI 11 = 5 by decide), if_neg (show ¬ nI 11 = 6 by decide), if_neg (show ¬ nI 11 = 7 by decide), if_neg (show ¬ nI 11 = 8 by decide), if_neg (show ¬ nI 11 = 9 by decide), if_neg (show ¬ nI 11 = 10 by decide), if_pos (show nI 11 = 11 from rfl)]
      simp only [H.g4, H.k1, Option.bind_some]
    · unfold m_X9_count
      simp only [swK]
      rw [if_neg (show ¬ nI 11 = 0 by decide), if_neg (show ¬ nI 11 = 1 by decide), if_neg (show ¬ nI 11 = 2 by decide), if_neg (show ¬ nI 11 = 3 by decide), if_neg (show ¬ nI 11 = 4 by decide), if_neg (show ¬ nI 11 = 5 by decide), if_neg (show ¬ nI 11 = 6 by decide), if_neg (show ¬ nI 11 = 7 by decide), if_neg (show ¬ nI 11 = 8 by decide), if_neg (show ¬ nI 11 = 9 by decide), if_neg (show ¬ nI 11 = 10 by decide), if_pos (show nI 11 = 11 from rfl)]
      simp only [gI_s_12, O.2.2.1.2.2.1, Option.bind_some]
  · refine PQ H O (v := nI tl) ?_ ?_
    · rw [H.neq (by decide)]
      unfold m_X8_count
      simp only [swK]
      rw [if_neg (show ¬ nI 12 = 0 by decide), if_neg (show ¬ nI 12 = 1 by decide), if_neg (show ¬ nI 12 = 2 by decide), if_neg (show ¬ nI 12 = 3 by decide), if_neg (show ¬ nI 12 = 4 by decide), if_neg (show ¬ nI 12 = 5 by decide), if_neg (show ¬ nI 12 = 6 by decide), if_neg (show ¬ nI 12 = 7 by decide), if_neg (show ¬ nI 12 = 8 by decide), if_neg (show ¬ nI 12 = 9 by decide), if_neg (show ¬ nI 12 = 10 by decide), if_neg (show ¬ nI 12 = 11 by decide), if_pos (show nI 12 = 12 from rfl)]
      simp only [H.g5, H.s1, Option.bind_some]
    · unfold m_X9_count
      simp only [swK]
      rw [if_neg (show ¬ nI 12 = 0 by decide), if_neg (show ¬ nI 12 = 1 by decide), if_neg (show ¬ nI 12 = 2 by decide), if_neg (show ¬ nI 12 = 3 by decide), if_neg (show ¬ nI 12 = 4 by decide), if_neg (show ¬ nI 12 = 5 by decide), if_neg (show ¬ nI 12 = 6 by decide), if_neg (show ¬ nI 12 = 7 by decide), if_neg (show ¬ nI 12 = 8 by decide), if_neg (show ¬ nI 12 = 9 by decide), if_neg (show ¬ nI 12 = 10 by decide), if_neg (show ¬ nI 12 = 11 by decide), if_pos (show nI 12 = 12 from rfl)]
      simp only [gI_s_11, O.2.2.2.2.2.1, Option.bind_some]
end QRY2
