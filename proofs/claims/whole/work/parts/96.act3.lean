/-! LEVEL 2: remove, say, run, set: both sides -/
section ACT3
variable {z0 : Nat} {σ σ1 : SG} {W W1 : Nat → NW} {P P1 : Nat → Nat} {kp : Nat} {h : Int32} {tl : Nat} {tx : Nat → Int32} {r : RW} {g : NW}
theorem ne_out {a : Int32} {n k : Nat} (h : a < 0 ∨ nI n ≤ a) (hk : k < n) (hn : n < 2 ^ 31) : ¬ a = nI k := by
  rintro rfl
  rcases h with h | h
  · exact nI_pos (by omega) h
  · exact nI_ge hk hn h
theorem thr_0 {v : Int32} (h : v = 0) : thr v = 0 := by subst h; rfl
theorem thr_1 {v : Int32} (h : v = 1) : thr v = 1 := by subst h; rfl
theorem rel_gone {w : NW} (hR : Rel g w) {c : Nat} (i : Nat) (hc : c = 1 ∨ c = 2 ∨ c = 3) : Rel (up3 g c i 0 0) (up3 w c i 0 0) := by
  refine hR.slot (c0 := c) (i0 := i) hc (fun c' i' j hn => up3_slot _ _ hn) (fun c' i' j hn => up3_slot _ _ hn) (fun j h1 h2 => ?_) (fun e j hj hl => ?_)
  · by_cases hj : j = 0
    · subst hj; rw [up3_eq, up3_eq]
    · have e : ∀ G : NW, up3 G c i 0 0 c i j = G c i j := fun G => if_neg (fun e => hj e.2.2)
      rw [e, e]
      rcases hc with rfl | rfl | rfl
      · exact hR.1.c1 i (h1 rfl)
      · refine hR.1.c2 i ?_
        rcases h2 rfl with h3 | h3
        · exact Or.inl h3
        · rw [up3_eq] at h3
          exact absurd h3 (by decide)
      · exact hR.1.c3 i j
  · subst e
    have e : ∀ (G : NW) (q : Nat), q ≠ 0 → up3 G 1 i 0 0 1 i q = G 1 i q := fun G q hq => if_neg (fun e => hq e.2.2)
    rw [e _ _ (by decide)] at hl
    rw [e _ _ (by omega), e _ _ (by omega)]
    exact hR.1.cq i hj hl
theorem inv_gone (hI : Inv g) {c : Nat} (i : Nat) (hc : c = 1 ∨ c = 2 ∨ c = 3) : Inv (up3 g c i 0 0) := by
  refine hI.slot (c0 := c) (i0 := i) (fun c' i' j hn => up3_slot _ _ hn) (fun e hi => ?_) (fun e hi => ?_) (fun e hi => ?_) (by omega)
  · subst e
    refine ⟨Or.inl (up3_eq _ _ _ _ _), ?_, fun hp => ?_⟩
    · rw [show up3 g 1 i 0 0 1 i 4 = g 1 i 4 from if_neg (by omega)]
      exact (hI.1 i hi).2.1
    · rw [up3_eq] at hp
      exact absurd hp (by decide)
  · subst e
    refine ⟨Or.inl (up3_eq _ _ _ _ _), ?_, fun hp => ?_⟩
    · rw [show up3 g 2 i 0 0 2 i 4 = g 2 i 4 from if_neg (by omega)]
      exact (hI.2.1 i hi).2.1
    · rw [up3_eq] at hp
      exact absurd hp (by decide)
  · subst e
    refine ⟨Or.inl (up3_eq _ _ _ _ _), ?_⟩
    rw [show up3 g 3 i 0 0 3 i 5 = g 3 i 5 from if_neg (by omega)]
    exact (hI.2.2.1 i hi).2
theorem P_remove (H : GR z0 σ) (a b : Int32) : Pair z0 σ (m_X8_remove (some z0) a b) (m_X9_remove (some (z0 + 257)) a b) := by
  have H0 := H
  obtain ⟨W, P, kp, h, tl, tx, r, g, H, O⟩ := H
  have out : (a < 0 ∨ nI 3 ≤ a) → Pair z0 σ (m_X8_remove (some z0) a b) (m_X9_remove (some (z0 + 257)) a b) := fun ho => by
    refine Pair.same H0 (v := -2) ?_ ?_
    · unfold m_X8_remove m_X3_thingsOf
      simp only [H.g0, H.oN (show 0 < 7 by decide), Option.bind_some, swK]
      rw [if_neg (show ¬ a = 0 from ne_out (k := 0) ho (by decide) (by decide)), if_neg (show ¬ a = 1 from ne_out (k := 1) ho (by decide) (by decide)), if_neg (show ¬ a = 2 from ne_out (k := 2) ho (by decide) (by decide))]
      rfl
    · unfold m_X9_remove
      rw [in_out (show a < 0 ∨ (2 : Int32) < a from ho.imp_right (fun h => le_lt (n := 2) h (by decide)))]
      simp only [bnd_some, if_true]
  rcases pk_ix a (n := 3) (by decide) with h0 | h0 | ⟨k, hk, rfl⟩
  · exact out (Or.inl h0)
  · exact out (Or.inr h0)
  have hk3 : k = 0 ∨ k = 1 ∨ k = 2 := by omega
  rcases hk3 with rfl | rfl | rfl
  · have et : ∀ τ, m_X3_thingsOf (some (NA z0 0)) (nI 0) (ovr τ (NA z0 0) (W 0)) = some (some (NA z0 0 + 1), ovr τ (NA z0 0) (W 0)) := fun τ => by
      unfold m_X3_thingsOf
      simp only [swK]
      rw [if_pos (show nI 0 = 0 from rfl)]
      simp only [gR_net_0, Option.bind_some]
    have et' := et σ
    rw [H.neq (by decide)] at et'
    have no : m_X8_presentAt (some (NA z0 0 + 1)) b σ = some (none, σ) → (∀ τ, m_X9_isSender (some (z0 + 257)) b (ovs τ (z0 + 257) r g) = some (0, ovs τ (z0 + 257) r g)) → Pair z0 σ (m_X8_remove (some z0) (nI 0) b) (m_X9_remove (some (z0 + 257)) (nI 0) b) := fun e1 e2 => by
      refine Pair.same H0 (v := -1) ?_ ?_
      · unfold m_X8_remove
        simp only [H.g0, H.oN (show 0 < 7 by decide), Option.bind_some, et', bnd_some, e1]
        rw [if_neg (fun e => nomatch e), if_pos trivial]
      · have e : m_X9_remove (some (z0 + 257)) (nI 0) b (ovs σ (z0 + 257) r g) = some (-1, ovs σ (z0 + 257) r g) := by
          unfold m_X9_remove m_X9_remove_b42
          rw [in_nI (c := 2) (n := 2) rfl (by decide) (by decide)]
          simp only [bnd_some, one_ne, if_false, ob_s, Option.bind_some, e2, if_true]
          rw [if_pos (show nI 0 = 0 from rfl)]
        rwa [H.meq] at e
    have outn : (b < 0 ∨ nI 5 ≤ b) → Pair z0 σ (m_X8_remove (some z0) (nI 0) b) (m_X9_remove (some (z0 + 257)) (nI 0) b) := fun ho => by
      refine no ?_ (fun τ => q_isSender_out ho)
      have e := c_presS_out (σ := σ) (n := NA z0 0) (w := W 0) ho
      rwa [H.neq (by decide)] at e
    rcases pk_ix b (n := 5) (by decide) with h0 | h0 | ⟨i, hi, rfl⟩
    · exact outn (Or.inl h0)
    · exact outn (Or.inr h0)
    have ep := c_presS (σ := σ) (n := NA z0 0) (w := W 0) hi
    rw [H.neq (by decide), O.1.1.c1 i (by decide)] at ep
    rcases (O.2.1.1 i hi).1 with hp | hp
    · refine no (by rw [ep, if_pos hp]) (fun τ => ?_)
      rw [q_isSender hi, thr_0 hp]
    · rw [if_neg (by rw [hp]; exact one_ne)] at ep
      obtain ⟨σ1, W1, P1, ek, H1, K, hR1⟩ := g_keep H O
      have e1 := pZT_snd_1 (σ := σ1) (n := NA z0 0) (w := W1 0) hi 0 (Or.inl rfl)
      rw [H1.neq (by decide)] at e1
      have e2 := gT_snd_2 (σ := σ1) (n := NA z0 0) (w := up3 (W1 0) 1 i 0 0) hi
      rw [show up3 (W1 0) 1 i 0 0 1 i 1 = W1 0 1 i 1 from if_neg (by omega), hR1.1.c1 i (by decide)] at e2
      refine fin_act H1 O K (rel_gone hR1 i (Or.inl rfl)) (inv_gone O.2.1 i (Or.inl rfl)) (v := g 1 i 1) ?_ (fun τ => ?_)
      · unfold m_X8_remove
        simp only [H.g0, H.g4, H.oN (show 0 < 7 by decide), H.oH, Option.bind_some, et', bnd_some, ep, ek, e1, e2]
        rw [if_neg (fun e => nomatch e), if_neg (fun e => nomatch e)]
      · unfold m_X9_remove m_X9_remove_b42 m_X9_remove_b80
        rw [in_nI (c := 2) (n := 2) rfl (by decide) (by decide)]
        simp only [bnd_some, one_ne, if_false, ob_s, Option.bind_some, q_isSender hi, thr_1 hp, q_hold, q_n, gR_s_0, xS_p1, sld_S hi (show 1 < 14 by decide), sst_S hi (show 0 < 14 by decide), q_recorded O.2.2.1.2.1 O.r12]
        rw [if_pos (show nI 0 = 0 from rfl)]
        rfl
  · have et : ∀ τ, m_X3_thingsOf (some (NA z0 0)) (nI 1) (ovr τ (NA z0 0) (W 0)) = some (some (NA z0 0 + 2), ovr τ (NA z0 0) (W 0)) := fun τ => by
      unfold m_X3_thingsOf
      simp only [swK]
      rw [if_neg (show ¬ nI 1 = 0 by decide), if_pos (show nI 1 = 1 from rfl)]
      simp only [gR_net_1, Option.bind_some]
    have et' := et σ
    rw [H.neq (by decide)] at et'
    have no : m_X8_presentAt (some (NA z0 0 + 2)) b σ = some (none, σ) → (∀ τ, m_X9_isMachine (some (z0 + 257)) b (ovs τ (z0 + 257) r g) = some (0, ovs τ (z0 + 257) r g)) → Pair z0 σ (m_X8_remove (some z0) (nI 1) b) (m_X9_remove (some (z0 + 257)) (nI 1) b) := fun e1 e2 => by
      refine Pair.same H0 (v := -1) ?_ ?_
      · unfold m_X8_remove
        simp only [H.g0, H.oN (show 0 < 7 by decide), Option.bind_some, et', bnd_some, e1]
        rw [if_neg (fun e => nomatch e), if_pos trivial]
      · have e : m_X9_remove (some (z0 + 257)) (nI 1) b (ovs σ (z0 + 257) r g) = some (-1, ovs σ (z0 + 257) r g) := by
          unfold m_X9_remove m_X9_remove_b42
          rw [in_nI (c := 2) (n := 2) rfl (by decide) (by decide)]
          simp only [bnd_some, one_ne, if_false, ob_s, Option.bind_some, e2, if_true]
          rw [if_neg (show ¬ nI 1 = 0 by decide), if_pos (show nI 1 = 1 from rfl)]
        rwa [H.meq] at e
    have outn : (b < 0 ∨ nI 4 ≤ b) → Pair z0 σ (m_X8_remove (some z0) (nI 1) b) (m_X9_remove (some (z0 + 257)) (nI 1) b) := fun ho => by
      refine no ?_ (fun τ => q_isMachine_out ho)
      have e := c_presM_out (σ := σ) (n := NA z0 0) (w := W 0) ho
      rwa [H.neq (by decide)] at e
    rcases pk_ix b (n := 4) (by decide) with h0 | h0 | ⟨i, hi, rfl⟩
    · exact outn (Or.inl h0)
    · exact outn (Or.inr h0)
    have ep := c_presM (σ := σ) (n := NA z0 0) (w := W 0) hi
    rw [H.neq (by decide), O.1.1.c2 i (Or.inl (by decide))] at ep
    rcases (O.2.1.2.1 i hi).1 with hp | hp
    · refine no (by rw [ep, if_pos hp]) (fun τ => ?_)
      rw [q_isMachine hi, thr_0 hp]
    · rw [if_neg (by rw [hp]; exact one_ne)] at ep
      obtain ⟨σ1, W1, P1, ek, H1, K, hR1⟩ := g_keep H O
      have e1 := pZT_mac_1 (σ := σ1) (n := NA z0 0) (w := W1 0) hi 0 (Or.inl rfl)
      rw [H1.neq (by decide)] at e1
      have e2 := gT_mac_2 (σ := σ1) (n := NA z0 0) (w := up3 (W1 0) 2 i 0 0) hi
      rw [show up3 (W1 0) 2 i 0 0 2 i 1 = W1 0 2 i 1 from if_neg (by omega), hR1.1.c2 i (Or.inl (by decide))] at e2
      refine fin_act H1 O K (rel_gone hR1 i (Or.inr (Or.inl rfl))) (inv_gone O.2.1 i (Or.inr (Or.inl rfl))) (v := g 2 i 1) ?_ (fun τ => ?_)
      · unfold m_X8_remove
        simp only [H.g0, H.g4, H.oN (show 0 < 7 by decide), H.oH, Option.bind_some, et', bnd_some, ep, ek, e1, e2]
        rw [if_neg (fun e => nomatch e), if_neg (fun e => nomatch e)]
      · unfold m_X9_remove m_X9_remove_b42 m_X9_remove_b80
        rw [in_nI (c := 2) (n := 2) rfl (by decide) (by decide)]
        simp only [bnd_some, one_ne, if_false, ob_s, Option.bind_some, q_isMachine hi, thr_1 hp, q_hold, q_m, gR_s_0, xM_p1, sld_M hi (show 1 < 5 by decide), sst_M hi (show 0 < 5 by decide), q_recorded O.2.2.1.2.1 O.r12]
        rw [if_neg (show ¬ nI 1 = 0 by decide), if_pos (show nI 1 = 1 from rfl)]
        rw [if_neg (show ¬ nI 1 = 0 by decide), if_pos (show nI 1 = 1 from rfl)]
  · have et : ∀ τ, m_X3_thingsOf (some (NA z0 0)) (nI 2) (ovr τ (NA z0 0) (W 0)) = some (some (NA z0 0 + 3), ovr τ (NA z0 0) (W 0)) := fun τ => by
      unfold m_X3_thingsOf
      simp only [swK]
      rw [if_neg (show ¬ nI 2 = 0 by decide), if_neg (show ¬ nI 2 = 1 by decide), if_pos (show nI 2 = 2 from rfl)]
      simp only [gR_net_2, Option.bind_some]
    have et' := et σ
    rw [H.neq (by decide)] at et'
    have no : m_X8_presentAt (some (NA z0 0 + 3)) b σ = some (none, σ) → (∀ τ, m_X9_isLamp (some (z0 + 257)) b (ovs τ (z0 + 257) r g) = some (0, ovs τ (z0 + 257) r g)) → Pair z0 σ (m_X8_remove (some z0) (nI 2) b) (m_X9_remove (some (z0 + 257)) (nI 2) b) := fun e1 e2 => by
      refine Pair.same H0 (v := -1) ?_ ?_
      · unfold m_X8_remove
        simp only [H.g0, H.oN (show 0 < 7 by decide), Option.bind_some, et', bnd_some, e1]
        rw [if_neg (fun e => nomatch e), if_pos trivial]
      · have e : m_X9_remove (some (z0 + 257)) (nI 2) b (ovs σ (z0 + 257) r g) = some (-1, ovs σ (z0 + 257) r g) := by
          unfold m_X9_remove m_X9_remove_b42
          rw [in_nI (c := 2) (n := 2) rfl (by decide) (by decide)]
          simp only [bnd_some, one_ne, if_false, ob_s, Option.bind_some, e2, if_true]
          rw [if_neg (show ¬ nI 2 = 0 by decide), if_neg (show ¬ nI 2 = 1 by decide)]
        rwa [H.meq] at e
    have outn : (b < 0 ∨ nI 8 ≤ b) → Pair z0 σ (m_X8_remove (some z0) (nI 2) b) (m_X9_remove (some (z0 + 257)) (nI 2) b) := fun ho => by
      refine no ?_ (fun τ => q_isLamp_out ho)
      have e := c_presL_out (σ := σ) (n := NA z0 0) (w := W 0) ho
      rwa [H.neq (by decide)] at e
    rcases pk_ix b (n := 8) (by decide) with h0 | h0 | ⟨i, hi, rfl⟩
    · exact outn (Or.inl h0)
    · exact outn (Or.inr h0)
    have ep := c_presL (σ := σ) (n := NA z0 0) (w := W 0) hi
    rw [H.neq (by decide), O.1.1.c3 i 0] at ep
    rcases (O.2.1.2.2.1 i hi).1 with hp | hp
    · refine no (by rw [ep, if_pos hp]) (fun τ => ?_)
      rw [q_isLamp hi, thr_0 hp]
    · rw [if_neg (by rw [hp]; exact one_ne)] at ep
      obtain ⟨σ1, W1, P1, ek, H1, K, hR1⟩ := g_keep H O
      have e1 := pZT_lam_1 (σ := σ1) (n := NA z0 0) (w := W1 0) hi 0 (Or.inl rfl)
      rw [H1.neq (by decide)] at e1
      have e2 := gT_lam_2 (σ := σ1) (n := NA z0 0) (w := up3 (W1 0) 3 i 0 0) hi
      rw [show up3 (W1 0) 3 i 0 0 3 i 1 = W1 0 3 i 1 from if_neg (by omega), hR1.1.c3 i 1] at e2
      refine fin_act H1 O K (rel_gone hR1 i (Or.inr (Or.inr rfl))) (inv_gone O.2.1 i (Or.inr (Or.inr rfl))) (v := g 3 i 1) ?_ (fun τ => ?_)
      · unfold m_X8_remove
        simp only [H.g0, H.g4, H.oN (show 0 < 7 by decide), H.oH, Option.bind_some, et', bnd_some, ep, ek, e1, e2]
        rw [if_neg (fun e => nomatch e), if_neg (fun e => nomatch e)]
      · unfold m_X9_remove m_X9_remove_b42 m_X9_remove_b80
        rw [in_nI (c := 2) (n := 2) rfl (by decide) (by decide)]
        simp only [bnd_some, one_ne, if_false, ob_s, Option.bind_some, q_isLamp hi, thr_1 hp, q_hold, q_l, gR_s_0, xL_p1, sld_L hi (show 1 < 6 by decide), sst_L hi (show 0 < 6 by decide), q_recorded O.2.2.1.2.1 O.r12]
        rw [if_neg (show ¬ nI 2 = 0 by decide), if_neg (show ¬ nI 2 = 1 by decide)]
        rw [if_neg (show ¬ nI 2 = 0 by decide), if_neg (show ¬ nI 2 = 1 by decide)]
/-! a word for a sender -/
theorem c_word_out {b : Int32} (h : b < 0 ∨ nI 32 ≤ b) (σ : SG) : m_X8_isWord b σ = some (0, σ) := by
  unfold m_X8_isWord
  by_cases h0 : b < 0
  · rw [if_pos h0]; rfl
  · rw [if_neg h0, if_pos (show 32 ≤ b from h.resolve_left h0)]; rfl
theorem c_word {x : Nat} (h : x < 32) (σ : SG) : m_X8_isWord (nI x) σ = some (1, σ) := by
  unfold m_X8_isWord
  rw [if_neg (nI_pos (by omega)), if_neg (show ¬ (32 : Int32) ≤ nI x from nI_ge (b := 32) h (by decide))]
  rfl
def sayG (g : NW) (i q : Nat) (b : Int32) : NW := up3 (up3 g 1 i (8 + q) b) 1 i 3 (nI (q + 1))
theorem sayG_o (g : NW) (i q : Nat) (b : Int32) {c i' j : Nat} (h : ¬ (c = 1 ∧ i' = i)) : sayG g i q b c i' j = g c i' j := by
  unfold sayG
  rw [up3_slot _ _ h, up3_slot _ _ h]
theorem sayG_j (g : NW) (i q : Nat) (b : Int32) {j : Nat} (h3 : j ≠ 3) (h8 : j ≠ 8 + q) : sayG g i q b 1 i j = g 1 i j := (if_neg (fun e => h3 e.2.2)).trans (if_neg (fun e => h8 e.2.2))
theorem sayG_3 (g : NW) (i q : Nat) (b : Int32) : sayG g i q b 1 i 3 = nI (q + 1) := up3_eq _ _ _ _ _
theorem sayG_q (g : NW) (i q : Nat) (b : Int32) : sayG g i q b 1 i (8 + q) = b := (if_neg (by omega)).trans (up3_eq _ _ _ _ _)
theorem rel_say {w : NW} (hR : Rel g w) {i q : Nat} (hq : g 1 i 3 = nI q) (h6 : q < 6) (b : Int32) : Rel (sayG g i q b) (sayG w i q b) := by
  refine hR.slot (c0 := 1) (i0 := i) (Or.inl rfl) (fun c' i' j hn => sayG_o _ _ _ _ hn) (fun c' i' j hn => sayG_o _ _ _ _ hn) (fun j h1 _ => ?_) (fun _ j hj hl => ?_)
  · have hj8 := h1 rfl
    by_cases h3 : j = 3
    · subst h3; rw [sayG_3, sayG_3]
    · rw [sayG_j _ _ _ _ h3 (by omega), sayG_j _ _ _ _ h3 (by omega)]
      exact hR.1.c1 i hj8
  · rw [sayG_3, nI_ltI (by omega) (by omega)] at hl
    by_cases hjq : j = q
    · subst hjq; rw [sayG_q, sayG_q]
    · rw [sayG_j _ _ _ _ (by omega) (by omega), sayG_j _ _ _ _ (by omega) (by omega)]
      exact hR.1.cq i hj (by rw [hq]; exact nI_lt (by omega) (by omega))
theorem inv_say (hI : Inv g) {i q x : Nat} (hq : g 1 i 3 = nI q) (h6 : q < 6) (hp : g 1 i 0 = 1) (hx : x < 32) : Inv (sayG g i q (nI x)) := by
  refine hI.slot (c0 := 1) (i0 := i) (fun c' i' j hn => sayG_o _ _ _ _ hn) (fun _ hi => ?_) (fun e => absurd e (by decide)) (fun e => absurd e (by decide)) (by decide)
  obtain ⟨h0, h4, hP⟩ := hI.1 i hi
  obtain ⟨hw, ⟨q', hq6, hq', hs, hx'⟩, hpl, hpa⟩ := hP hp
  obtain rfl : q' = q := (nI_eq (by omega) (by omega)).mp (hq'.symm.trans hq)
  unfold InvS
  rw [sayG_j (j := 0) _ _ _ _ (by decide) (by omega), sayG_j (j := 1) _ _ _ _ (by decide) (by omega), sayG_j (j := 4) _ _ _ _ (by decide) (by omega), sayG_j (j := 6) _ _ _ _ (by decide) (by omega), sayG_j (j := 7) _ _ _ _ (by decide) (by omega), sayG_3]
  refine ⟨h0, h4, fun _ => ⟨hw, ⟨q' + 1, by omega, rfl, fun _ => by omega, fun j hj => ?_⟩, hpl, hpa⟩⟩
  by_cases hjq : j = q'
  · subst hjq; exact ⟨x, hx, sayG_q _ _ _ _⟩
  · rw [sayG_j _ _ _ _ (by omega) (by omega)]
    exact hx' j (by omega)
/-- a word for a sender: refused on both sides with the same number, or given on both sides -/
theorem say_both {w : NW} (hR : Rel g w) (hI : Inv g) (a b : Int32) :
    (∃ v, ¬ 0 ≤ v ∧ (∀ σ n, m_X3_refusalOfWord (some n) a b (ovr σ n w) = some (v, ovr σ n w)) ∧ ∀ σ M r, m_X9_says (some M) a b (ovs σ M r g) = some (v, ovs σ M r g)) ∨
    ∃ w' g' t, 0 ≤ t ∧ (∀ σ n, m_X3_refusalOfWord (some n) a b (ovr σ n w) = some (0, ovr σ n w)) ∧ (∀ σ n, m_X3_giveWord (some n) a b (ovr σ n w) = some (t, ovr σ n w')) ∧ (∀ σ M r, m_X9_says (some M) a b (ovs σ M r g) = some (t, ovs σ M r g')) ∧ Rel g' w' ∧ Inv g' := by
  have no : (∀ σ n, m_X3_senderAt (some n) a (ovr σ n w) = some (none, ovr σ n w)) → (∀ σ M r, m_X9_isSender (some M) a (ovs σ M r g) = some (0, ovs σ M r g)) → ∃ v, ¬ 0 ≤ v ∧ (∀ σ n, m_X3_refusalOfWord (some n) a b (ovr σ n w) = some (v, ovr σ n w)) ∧ ∀ σ M r, m_X9_says (some M) a b (ovs σ M r g) = some (v, ovs σ M r g) := fun e1 e2 => by
    refine ⟨-1, by decide, fun σ n => ?_, fun σ M r => ?_⟩
    · unfold m_X3_refusalOfWord
      simp only [ob_net, e1, Option.bind_some, bnd_some, if_true]
    · unfold m_X9_says
      simp only [ob_s, e2, Option.bind_some, bnd_some, if_true]
  rcases pk_ix a (n := 5) (by decide) with h0 | h0 | ⟨i, hi, rfl⟩
  · exact Or.inl (no (fun σ n => c_senderAt_out (Or.inl h0)) (fun σ M r => q_isSender_out (Or.inl h0)))
  · exact Or.inl (no (fun σ n => c_senderAt_out (Or.inr h0)) (fun σ M r => q_isSender_out (Or.inr h0)))
  have eS : ∀ σ n, m_X3_senderAt (some n) (nI i) (ovr σ n w) = some (if g 1 i 0 = 0 then none else some (sndA n i), ovr σ n w) := fun σ n => by
    rw [c_senderAt hi, hR.1.c1 i (by decide)]
  have hInv := hI.1 i hi
  rcases hInv.1 with hp | hp
  · exact Or.inl (no (fun σ n => by rw [eS, if_pos hp]) (fun σ M r => by rw [q_isSender hi, thr_0 hp]))
  have eS1 : ∀ σ n, m_X3_senderAt (some n) (nI i) (ovr σ n w) = some (some (sndA n i), ovr σ n w) := fun σ n => by
    rw [eS, if_neg (by rw [hp]; exact one_ne)]
  have hns : ∀ k : Nat, ¬ (some k = none) := fun k e => nomatch e
  have bad : (b < 0 ∨ nI 32 ≤ b) → ∃ v, ¬ 0 ≤ v ∧ (∀ σ n, m_X3_refusalOfWord (some n) (nI i) b (ovr σ n w) = some (v, ovr σ n w)) ∧ ∀ σ M r, m_X9_says (some M) (nI i) b (ovs σ M r g) = some (v, ovs σ M r g) := fun hb => by
    refine ⟨-2, by decide, fun σ n => ?_, fun σ M r => ?_⟩
    · unfold m_X3_refusalOfWord
      simp only [ob_net, eS1, Option.bind_some, bnd_some, c_word_out hb, if_true, if_neg (hns _)]
    · unfold m_X9_says
      simp only [ob_s, q_isSender hi, thr_1 hp, Option.bind_some, bnd_some, one_ne, if_false, in_out (show b < 0 ∨ (31 : Int32) < b from hb.imp_right (fun h => le_lt (n := 31) h (by decide))), if_true]
  rcases pk_ix b (n := 32) (by decide) with h0 | h0 | ⟨x, hx, rfl⟩
  · exact Or.inl (bad (Or.inl h0))
  · exact Or.inl (bad (Or.inr h0))
  obtain ⟨-, ⟨q, hq6, hq, -⟩, -⟩ := hInv.2.2 hp
  have hqw : w 1 i 3 = nI q := (hR.1.c1 i (by decide)).trans hq
  have hin : ∀ σ, m_X9_in (nI x) 0 31 σ = some (1, σ) := fun σ => in_nI (c := 31) (n := 31) rfl (by decide) (by omega) σ
  by_cases h6 : q = 6
  · subst h6
    refine Or.inl ⟨-3, by decide, fun σ n => ?_, fun σ M r => ?_⟩
    · unfold m_X3_refusalOfWord m_X6_isQueueFull
      simp only [ob_net, ob_snd hi, eS1, Option.bind_some, bnd_some, c_word hx, if_neg (hns _), one_ne, if_false, gI_snd_4 hi, gR_snd_3 hi, len_que hi, hqw]
      rw [if_neg (show ¬ nI 6 < 6 by decide), show ∀ τ, chkZ 1 τ = some (1, τ) from fun τ => rfl]
      simp only [bnd_some, one_ne, if_false]
    · unfold m_X9_says
      simp only [ob_s, q_isSender hi, thr_1 hp, Option.bind_some, bnd_some, one_ne, if_false, hin, q_n, gR_s_0, xS_p3, sld_S hi (show 3 < 14 by decide), hq]
      rw [if_pos (show nI 6 = 6 from rfl)]
  · have hq5 : q < 6 := by omega
    refine Or.inr ⟨sayG w i q (nI x), sayG g i q (nI x), nI (q + 1), nI_pos' (by omega), fun σ n => ?_, fun σ n => ?_, fun σ M r => ?_, rel_say hR hq hq5 _, inv_say hI hq hq5 hp hx⟩
    · unfold m_X3_refusalOfWord m_X6_isQueueFull
      simp only [ob_net, ob_snd hi, eS1, Option.bind_some, bnd_some, c_word hx, if_neg (hns _), one_ne, if_false, gI_snd_4 hi, gR_snd_3 hi, len_que hi, hqw]
      rw [if_pos (show nI q < 6 from nI_lt (b := 6) hq5 (by decide)), show ∀ τ, chkZ 0 τ = some (0, τ) from fun τ => rfl]
      simp only [bnd_some, if_true]
    · unfold m_X3_giveWord m_X6_addWord
      simp only [ob_net, ob_snd hi, eS1, Option.bind_some, bnd_some, if_neg (hns _), gI_snd_4 hi, gR_snd_3 hi, len_que hi, hqw]
      rw [if_neg (nI_pos (by omega)), if_neg (show ¬ (6 : Int32) ≤ nI q from nI_ge (b := 6) hq5 (by decide))]
      simp only [ast_que hi hq5, gI_snd_4 hi, pI_snd_4 hi, Option.bind_some, bnd_some, show up3 w 1 i (8 + q) (nI x) 1 i 3 = nI q from (if_neg (by omega)).trans hqw, ← nI_succ, up3_eq]
      rfl
    · unfold m_X9_says
      simp only [ob_s, q_isSender hi, thr_1 hp, Option.bind_some, bnd_some, one_ne, if_false, hin, q_n, gR_s_0, xS_p3, xS_p8, sld_S hi (show 3 < 14 by decide), hq, xS_q, sst_S hi (show 8 + q < 14 by omega), sst_S hi (show 3 < 14 by decide), show up3 g 1 i (8 + q) (nI x) 1 i 3 = nI q from (if_neg (by omega)).trans hq, ← nI_succ, up3_eq]
      rw [if_neg (show ¬ nI q = 6 from fun e => h6 ((nI_eq (a := q) (b := 6) (by omega) (by decide)).mp e))]
      rfl
theorem P_say (H : GR z0 σ) (a b : Int32) : Pair z0 σ (m_X8_say (some z0) a b) (m_X9_say (some (z0 + 257)) a b) := by
  obtain ⟨W, P, kp, h, tl, tx, r, g, H, O⟩ := H
  rcases say_both O.1 O.2.1 a b with ⟨v, hv, e1, e2⟩ | ⟨w0, g0, t0, ht0, f1, -, f3, -, -⟩
  · have e1 := e1 σ (NA z0 0)
    rw [H.neq (by decide)] at e1
    have em : m_X9_say (some (z0 + 257)) a b (ovs σ (z0 + 257) r g) = some (v, ovs σ (z0 + 257) (rcp r 2 0 (flat g)) g) := by
      unfold m_X9_say
      simp only [ob_s, q_hold, e2, Option.bind_some, bnd_some]
      rw [if_neg hv]
    rw [H.meq] at em
    refine ⟨v, σ, _, ?_, em, H.oM, W, P, kp, h, tl, tx, _, g, H.upM _ _, O.rk (rcp_rk _ _ (Or.inl rfl))⟩
    unfold m_X8_say
    simp only [H.g0, H.oN (show 0 < 7 by decide), e1, Option.bind_some, bnd_some]
    rw [if_neg hv]
  · obtain ⟨σ1, W1, P1, ek, H1, K, hR1⟩ := g_keep H O
    rcases say_both hR1 O.2.1 a b with ⟨v, hv, -, e2⟩ | ⟨w', g', t, ht, -, e2, e3, hR2, hI2⟩
    · have y := (e2 σ (z0 + 257) r).symm.trans (f3 σ (z0 + 257) r)
      have y1 : v = t0 := congrArg Prod.fst (Option.some.inj y)
      exact absurd ht0 (y1 ▸ hv)
    · have e5 := f1 σ (NA z0 0)
      rw [H.neq (by decide)] at e5
      have e6 := e2 σ1 (NA z0 0)
      rw [H1.neq (by decide)] at e6
      refine fin_act H1 O K hR2 hI2 (v := t) ?_ (fun τ => ?_)
      · unfold m_X8_say
        simp only [H.g0, H.g4, H.oN (show 0 < 7 by decide), H.oH, e5, ek, H1.g0, H1.oN (show 0 < 7 by decide), e6, Option.bind_some, bnd_some]
        rw [if_pos (by decide)]
      · unfold m_X9_say
        simp only [ob_s, q_hold, e3, Option.bind_some, bnd_some, q_recorded O.2.2.1.2.1 O.r12]
        rw [if_pos ht]
end ACT3
