/-! p30: the law's areThings answers true -/
section LTHG
variable {z0 T : Nat} {σ : SG} {g : NW} {s u : Option (Nat × NW)}
theorem H_pause (C : CG z0 σ g) (J : JT T g) {k : Nat} (hk : k < 5) (hp : g 1 k 0 = 1) (rec67 : Option Nat → Int32 → Int32 → Int32 → Int32 → Int32 → Int32 → Int32 → Int32 → SG → Option (Int32 × SG)) (v1 v2 v3 v4 v5 v6 : Int32) : m_L_areThings_b279 rec67 (some z0) v1 v2 v3 v4 v5 v6 (nI k) σ = rec67 (some z0) v1 v2 v3 v4 v5 v6 1 (nI (k + 1)) σ := by
  obtain ⟨⟨p, hp2, ep⟩, -⟩ := J.2.2.1 k hk hp
  unfold m_L_areThings_b279 m_L_areThings_b300 m_L_areThings_b302
  simp only [C.oX, C_sender_5 C hk hp, ep, Option.bind_some, bnd_some]
  rw [show (2 : Int32) * nI k = nI (2 * k) from nI_mul 2 k, show (3 : Int32) = nI 3 from rfl, nI_add, if_neg (nI_nlt (by omega) (by omega)), ← nI_succ]
theorem H_speak (C : CG z0 σ g) (J : JT T g) {k q : Nat} (hk : k < 5) (hp : g 1 k 0 = 1) (hq : g 1 k 3 = nI q) (hq6 : q ≤ 6) (rec67 : Option Nat → Int32 → Int32 → Int32 → Int32 → Int32 → Int32 → Int32 → Int32 → SG → Option (Int32 × SG)) (v1 v2 v3 v4 v5 v6 : Int32) :
    m_L_areThings_b184 rec67 (some z0) v1 v2 v3 v4 v5 v6 (nI k) (nI q) (if g 1 k 4 = 0 then -5 else g 1 k 6) (if g 1 k 4 = 0 then -5 else g 1 k 5) (if g 1 k 4 = 0 then -5 else bitG g k) σ = rec67 (some z0) v1 v2 v3 v4 v5 v6 1 (nI (k + 1)) σ := by
  have last := H_pause C J hk hp rec67 v1 v2 v3 v4 v5 v6
  obtain ⟨-, h4, hP⟩ := C.inv.1 k hk
  obtain ⟨-, ⟨q', hq'6, hq', hs, hx⟩, ⟨p, hp16, ep⟩, -⟩ := hP hp
  obtain rfl : q' = q := (nI_eq (by omega) (by omega)).mp (hq'.symm.trans hq)
  obtain ⟨-, js⟩ := J.2.2.1 k hk hp
  unfold m_L_areThings_b184 m_L_areThings_b194 m_L_areThings_b204
  rcases h4 with h4 | h4
  · simp only [if_pos h4]
    rw [if_pos (by decide), if_pos (by decide), if_pos trivial, if_neg (by decide), if_neg (by decide), if_neg (by decide), if_pos trivial]
    exact last
  · have hn : ¬ g 1 k 4 = 0 := by rw [h4]; exact one_ne
    obtain ⟨e7, c, hc, ec⟩ := js h4
    have h1 := hs h4
    have hq0 : ¬ nI q' ≤ 0 := nI_nle (by omega) (by omega)
    simp only [if_neg hn]
    rw [ep, ec, if_neg (nI_pos (by omega)), if_neg (nI_pos (by omega)), if_pos trivial, if_neg (show ¬ (16 : Int32) < nI p from nI_nlt (a := 16) hp16 (by decide)), if_neg (show ¬ (2 : Int32) < nI c from nI_nlt (a := 2) hc (by decide)), if_pos (nI_pos' (by omega)), if_neg hq0]
    simp only [C.oX, C_sender_5 C hk hp, e7, Option.bind_some, bnd_some, if_true]
    by_cases h13 : p < 14
    · rw [if_pos (show nI p ≤ 13 from nI_le (b := 13) (by omega) (by decide))]
      obtain ⟨x, hx32, ex⟩ := hx 0 (by omega)
      have eq0 : m_X8_queued (some z0) (nI k) 0 σ = some (nI x, σ) := by
        have := C_queued_in C (j := 0) hk hp hq hq6 (by omega)
        rw [← nI0, ex] at this
        exact this
      have ebit : bitG g k = frm (nI x) (nI p) := by
        unfold bitG
        rw [ep, if_neg (show ¬ (14 : Int32) ≤ nI p from nI_ge (b := 14) h13 (by decide)), show g 1 k 8 = nI x from ex]
      simp only [C.oX, eq0, C_frame hx32 h13, Option.bind_some, bnd_some]
      unfold m_L_areThings_b276
      rw [if_pos ebit]
      exact last
    · rw [if_neg (show ¬ nI p ≤ 13 from nI_ge (a := 13) (by omega) (by omega))]
      have ebit : bitG g k = 0 := by
        unfold bitG
        rw [ep, if_pos (show (14 : Int32) ≤ nI p from nI_le (a := 14) (by omega) (by omega))]
      unfold m_L_areThings_b276
      rw [if_pos ebit]
      exact last
theorem H_queue (C : CG z0 σ g) (J : JT T g) {k q : Nat} (hk : k < 5) (hp : g 1 k 0 = 1) (hq : g 1 k 3 = nI q) (hq6 : q ≤ 6) (rec67 : Option Nat → Int32 → Int32 → Int32 → Int32 → Int32 → Int32 → Int32 → Int32 → SG → Option (Int32 × SG)) (v1 v3 v4 v5 v6 s0 s1 : Int32) :
    m_L_areThings_b139 rec67 (some z0) v1 v3 v4 v5 v6 (nI k) (nI q) (if g 1 k 4 = 0 then -5 else g 1 k 6) (if g 1 k 4 = 0 then -5 else g 1 k 5) (if g 1 k 4 = 0 then -5 else bitG g k) s0 s1 σ = rec67 (some z0) v1 (s0 + s1) (v3 + nI q) v4 v5 v6 1 (nI (k + 1)) σ := by
  have last := H_speak C J hk hp hq hq6 rec67 v1 (s0 + s1) (v3 + nI q) v4 v5 v6
  obtain ⟨-, h4, hP⟩ := C.inv.1 k hk
  obtain ⟨-, ⟨q', hq'6, hq', hs, hx⟩, -, -⟩ := hP hp
  obtain rfl : q' = q := (nI_eq (by omega) (by omega)).mp (hq'.symm.trans hq)
  unfold m_L_areThings_b139
  rw [if_neg (show ¬ (6 : Int32) < nI q' from nI_nlt (a := 6) hq6 (by decide))]
  simp only [C.oX, C_queued_out C hk hp hq hq6 (Nat.le_refl q') (by omega), Option.bind_some, bnd_some, if_true]
  rcases Nat.eq_zero_or_pos q' with h0 | h0
  · subst h0
    rw [if_pos (show nI 0 = 0 from rfl)]
    exact last
  · obtain ⟨r, rfl⟩ : ∃ r, q' = r + 1 := ⟨q' - 1, by omega⟩
    obtain ⟨x, hx32, ex⟩ := hx r (by omega)
    rw [if_neg (nI_ne0 (by omega) (by omega))]
    simp only [nI_pr, C_queued_in C hk hp hq hq6 (show r < r + 1 by omega), ex, Option.bind_some, bnd_some]
    rw [if_neg (nI_pos (by omega))]
    exact last
theorem H_sender (C : CG z0 σ g) (J : JT T g) {k : Nat} (hk : k < 5) (rec67 : Option Nat → Int32 → Int32 → Int32 → Int32 → Int32 → Int32 → Int32 → Int32 → SG → Option (Int32 × SG)) (v1 v2 v3 v4 v5 v6 : Int32) :
    m_L_areThings_B67 rec67 (some z0) v1 v2 v3 v4 v5 v6 1 (nI k) σ = rec67 (some z0) (v1 + g 1 k 0) (v2 + (if g 1 k 0 = 1 then g 1 k 4 else 0)) (v3 + fS g 5 k) v4 v5 v6 1 (nI (k + 1)) σ := by
  obtain ⟨h0, h4, hP⟩ := C.inv.1 k hk
  unfold m_L_areThings_B67
  rw [if_neg (show ¬ (5 : Int32) ≤ nI k from nI_ge (b := 5) hk (by decide)), if_neg one_ne, fS_5]
  rcases h0 with hp | hp
  · simp only [C.oX, C_sender_no C hk hp, Option.bind_some, bnd_some]
    rw [if_pos (by decide)]
    unfold m_L_areThings_b302
    rw [hp, if_neg (by decide), if_neg (by decide), Int32.add_zero, Int32.add_zero, Int32.add_zero, ← nI_succ]
  · obtain ⟨⟨w, hw, ew⟩, ⟨q, hq6, hq, -⟩, ⟨p, hp16, ep⟩, -⟩ := hP hp
    have hpl : (if g 1 k 4 = 0 then (-5 : Int32) else g 1 k 6) < 0 ↔ g 1 k 4 = 0 := by
      by_cases hz : g 1 k 4 = 0
      · rw [if_pos hz]; exact ⟨fun _ => hz, fun _ => by decide⟩
      · rw [if_neg hz, ep]; exact ⟨fun e => absurd e (nI_pos (by omega)), fun e => absurd e hz⟩
    simp only [C.oX, C_sender_0 C hk hp, C_sender_2 C hk hp, C_sender_3 C hk hp, C_sender_4 C hk hp, C_sender_6 C hk hp, Option.bind_some, bnd_some]
    rw [ew, if_neg (nI_pos (by omega)), hq, hp, if_pos rfl, if_pos rfl]
    rcases h4 with h4 | h4
    · rw [if_pos (hpl.mpr h4), H_queue C J hk hp hq hq6, h4]
    · have hn : ¬ g 1 k 4 = 0 := by rw [h4]; exact one_ne
      rw [if_neg (fun e => hn (hpl.mp e)), H_queue C J hk hp hq hq6, h4]
theorem H_sendL (C : CG z0 σ g) (J : JT T g) (v4 v5 v6 : Int32) : ∀ (d k : Nat), k + d = 5 → ∀ (F : Nat), d < F → ∀ v1 v2 v3 : Int32, m_L_areThings_L67 F (some z0) v1 v2 v3 v4 v5 v6 1 (nI k) σ = m_L_areThings_b308 (some z0) (sm (fun k => g 1 k 0) d k v1) (sm (fun k => if g 1 k 0 = 1 then g 1 k 4 else 0) d k v2) (sm (fS g 5) d k v3) v4 v5 v6 1 σ := by
  intro d
  induction d with
  | zero =>
    intro k hk F hF v1 v2 v3
    obtain ⟨F, rfl⟩ : ∃ m, F = m + 1 := ⟨F - 1, by omega⟩
    rw [show m_L_areThings_L67 (F + 1) = m_L_areThings_B67 (m_L_areThings_L67 F) from rfl]
    unfold m_L_areThings_B67
    obtain rfl : k = 5 := by omega
    rw [if_pos (show (5 : Int32) ≤ nI 5 by decide)]
    rfl
  | succ d ih =>
    intro k hk F hF v1 v2 v3
    obtain ⟨F, rfl⟩ : ∃ m, F = m + 1 := ⟨F - 1, by omega⟩
    rw [show m_L_areThings_L67 (F + 1) = m_L_areThings_B67 (m_L_areThings_L67 F) from rfl, H_sender C J (by omega), ih (k + 1) (by omega) F (by omega)]
    rfl
theorem H_macL (C : CG z0 σ g) (v1 v2 v3 v5 v6 v7 : Int32) : ∀ (d k : Nat), k + d = 4 → ∀ (F : Nat), d < F → ∀ v4 : Int32, m_L_areThings_L311 F (some z0) v1 v2 v3 v4 v5 v6 v7 (nI k) σ = m_L_areThings_L346 1000 (some z0) v1 v2 v3 (sm (fun k => g 2 k 0) d k v4) v5 v6 v7 0 σ := by
  intro d
  induction d with
  | zero =>
    intro k hk F hF v4
    obtain ⟨F, rfl⟩ : ∃ m, F = m + 1 := ⟨F - 1, by omega⟩
    rw [show m_L_areThings_L311 (F + 1) = m_L_areThings_B311 (m_L_areThings_L311 F) from rfl]
    unfold m_L_areThings_B311
    obtain rfl : k = 4 := by omega
    rw [if_pos (show (4 : Int32) ≤ nI 4 by decide)]
    rfl
  | succ d ih =>
    intro k hk F hF v4
    obtain ⟨F, rfl⟩ : ∃ m, F = m + 1 := ⟨F - 1, by omega⟩
    rw [show m_L_areThings_L311 (F + 1) = m_L_areThings_B311 (m_L_areThings_L311 F) from rfl]
    have hk4 : k < 4 := by omega
    unfold m_L_areThings_B311 m_L_areThings_b334
    rw [if_neg (show ¬ (4 : Int32) ≤ nI k from nI_ge (b := 4) hk4 (by decide))]
    obtain ⟨h0, -, hP⟩ := C.inv.2.1 k hk4
    rcases h0 with hp | hp
    · simp only [C.oX, C_machine_no C hk4 hp, Option.bind_some, bnd_some, ← nI_succ]
      rw [if_pos (by decide), ih (k + 1) (by omega) F (by omega)]
      show _ = m_L_areThings_L346 1000 (some z0) v1 v2 v3 (sm (fun k => g 2 k 0) d (k + 1) (v4 + g 2 k 0)) v5 v6 v7 0 σ
      rw [hp]
    · obtain ⟨⟨w, hw, ew⟩, -⟩ := hP hp
      simp only [C.oX, C_machine_0 C hk4 hp, ew, Option.bind_some, bnd_some, ← nI_succ]
      rw [if_neg (nI_pos (by omega)), ih (k + 1) (by omega) F (by omega)]
      show _ = m_L_areThings_L346 1000 (some z0) v1 v2 v3 (sm (fun k => g 2 k 0) d (k + 1) (v4 + g 2 k 0)) v5 v6 v7 0 σ
      rw [hp]
theorem H_lamp (S : ST z0 σ T g s u) {k : Nat} (hk : k < 8) (rec346 : Option Nat → Int32 → Int32 → Int32 → Int32 → Int32 → Int32 → Int32 → Int32 → SG → Option (Int32 × SG)) (v1 v2 v3 v4 v5 v6 : Int32) :
    ∃ σ', m_L_areThings_B346 rec346 (some z0) v1 v2 v3 v4 v5 v6 1 (nI k) σ = rec346 (some z0) v1 v2 v3 v4 (v5 + g 3 k 0) (v6 + (if g 3 k 0 = 0 then 0 else if g 3 k 4 ≤ 0 then 0 else 1)) 1 (nI (k + 1)) σ' ∧ ST z0 σ' T g s u := by
  have C := S.cg
  obtain ⟨h0, h5⟩ := C.inv.2.2.1 k hk
  rcases h0 with hp | hp
  · refine ⟨σ, ?_, S⟩
    unfold m_L_areThings_B346 m_L_areThings_b447
    rw [if_neg (show ¬ (8 : Int32) ≤ nI k from nI_ge (b := 8) hk (by decide)), if_neg one_ne]
    simp only [C.oX, C_lamp_no C hk hp, Option.bind_some, bnd_some, ← nI_succ]
    rw [if_pos (by decide), hp, if_pos rfl, Int32.add_zero, Int32.add_zero]
  · obtain ⟨⟨v, hv, ev⟩, ⟨w, hw, ew⟩⟩ := S.jt.2.2.2.1 k hk hp
    obtain ⟨σ', el, S'⟩ := A_levelIn S (N := 0) hk hp (by omega)
    have el : m_X8_levelIn (some z0) (nI k) 0 σ = some (g 3 k 4, σ') := el
    refine ⟨σ', ?_, S'⟩
    have hn : ¬ g 3 k 0 = 0 := by rw [hp]; exact one_ne
    have last : ∀ s1 : Int32, m_L_areThings_b392 rec346 (some z0) v1 v2 v3 v4 (v5 + 1) (nI k) (g 3 k 4) v6 s1 σ = rec346 (some z0) v1 v2 v3 v4 (v5 + 1) (v6 + s1) 1 (nI (k + 1)) σ' := by
      intro s1
      unfold m_L_areThings_b392 m_L_areThings_b445 m_L_areThings_b447
      rw [show ∀ (a b : Option (Int32 × SG)), (if g 3 k 4 < 0 then a else b) = b from fun a b => if_neg (by rw [ev]; exact nI_pos (by omega)), show ∀ (a b : Option (Int32 × SG)), (if 9 < g 3 k 4 then a else b) = b from fun a b => if_neg (by rw [ev]; exact nI_nlt (a := 9) hv (by decide))]
      simp only [C.oX, C_lamp_4 C hk hp, el, Option.bind_some, bnd_some, if_true, ← nI_succ]
      rcases h5 with h5 | h5
      · rw [h5, if_neg (by decide), if_neg (by decide)]
      · rw [h5, if_neg (by decide), if_neg (by decide)]
    unfold m_L_areThings_B346
    rw [if_neg (show ¬ (8 : Int32) ≤ nI k from nI_ge (b := 8) hk (by decide)), if_neg one_ne]
    simp only [C.oX, C_lamp_0 C hk hp, C_lamp_3 C hk hp, Option.bind_some, bnd_some]
    rw [ew, if_neg (nI_pos (by omega)), hp, if_neg one_ne]
    split
    · exact last 0
    · exact last 1
theorem H_lampL (v1 v2 v3 v4 : Int32) : ∀ (d k : Nat), k + d = 8 → ∀ (F : Nat), d < F → ∀ (σ : SG) (v5 v6 : Int32), ST z0 σ T g s u → ∃ σ', m_L_areThings_L346 F (some z0) v1 v2 v3 v4 v5 v6 1 (nI k) σ = m_L_areThings_b453 (some z0) v1 v2 v3 v4 (sm (fun k => g 3 k 0) d k v5) (sm (fun k => if g 3 k 0 = 0 then 0 else if g 3 k 4 ≤ 0 then 0 else 1) d k v6) 1 σ' ∧ ST z0 σ' T g s u := by
  intro d
  induction d with
  | zero =>
    intro k hk F hF σ v5 v6 S
    obtain ⟨F, rfl⟩ : ∃ m, F = m + 1 := ⟨F - 1, by omega⟩
    refine ⟨σ, ?_, S⟩
    rw [show m_L_areThings_L346 (F + 1) = m_L_areThings_B346 (m_L_areThings_L346 F) from rfl]
    unfold m_L_areThings_B346
    obtain rfl : k = 8 := by omega
    rw [if_pos (show (8 : Int32) ≤ nI 8 by decide)]
    rfl
  | succ d ih =>
    intro k hk F hF σ v5 v6 S
    obtain ⟨F, rfl⟩ : ∃ m, F = m + 1 := ⟨F - 1, by omega⟩
    obtain ⟨σ1, e1, S1⟩ := H_lamp S (show k < 8 by omega) (m_L_areThings_L346 F) v1 v2 v3 v4 v5 v6
    obtain ⟨σ2, e2, S2⟩ := ih (k + 1) (by omega) F (by omega) σ1 _ _ S1
    refine ⟨σ2, ?_, S2⟩
    rw [show m_L_areThings_L346 (F + 1) = m_L_areThings_B346 (m_L_areThings_L346 F) from rfl, e1, e2]
    rfl
theorem L_things (S : ST z0 σ T g s u) : ∃ σ', m_L_areThings (some z0) σ = some (1, σ') ∧ ST z0 σ' T g s u := by
  have C := S.cg
  obtain ⟨σ1, e1, S1⟩ := H_lampL (z0 := z0) (T := T) (g := g) (s := s) (u := u) (sm (fun k => g 1 k 0) 5 0 0) (sm (fun k => if g 1 k 0 = 1 then g 1 k 4 else 0) 5 0 0) (sm (fS g 5) 5 0 0) (sm (fun k => g 2 k 0) 4 0 0) 8 0 rfl 1000 (by decide) σ 0 0 S
  refine ⟨σ1, ?_, S1⟩
  have e2 := H_macL C (sm (fun k => g 1 k 0) 5 0 0) (sm (fun k => if g 1 k 0 = 1 then g 1 k 4 else 0) 5 0 0) (sm (fS g 5) 5 0 0) 0 0 1 4 0 rfl 1000 (by decide) 0
  have e3 := H_sendL C S.jt 0 0 0 5 0 rfl 1000 (by decide) 0 0 0
  rw [← nI0] at e1 e2 e3
  have C1 := S1.cg
  unfold m_L_areThings
  simp only [C.oX, C_sender_out C, C_machine_out C, C_lamp_out C, C_rcv_out C, Option.bind_some, bnd_some, if_true]
  unfold m_L_areThings_b62
  rw [e3]
  unfold m_L_areThings_b308
  rw [e2, e1]
  unfold m_L_areThings_b453
  rw [if_neg one_ne]
  simp only [C1.oX, C_count_1 C1, C_count_2 C1, C_count_3 C1, C_count_4 C1, C_count_5 C1, C_count_6 C1, Option.bind_some, bnd_some, if_true, show sm (fS g 5) 5 0 0 = qs g from rfl]
  rfl
end LTHG
