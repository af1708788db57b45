/-! p30: the law's body, walked -/
section LWALK
variable {D : DG} {z0 : Nat} {l : Launch} {cells slots : Nat}
abbrev VL (D : DG) (z0 : Nat) (l : Launch) (pc : Nat) (ls : List (Option Value)) (st : List Value) (σ : SG) (cells slots : Nat) (σ2 : SG) : Prop := V D z0 l RL cL_law 5 wsL_law (some .boolean) room_1 false tvI pc ls st σ cells slots (some ((1 : Int32), σ2))
theorem gt_end {a b : Nat} (h : b ≤ a) (ha : a < 2 ^ 31) : ¬ nI a < nI b := nI_nlt h ha
theorem W_end (hL : D.2.2.2.1 ≤ 260) (hc : cells ≤ 666774) (hs : slots ≤ 7101925) {σ : SG} {T : Nat} {g : NW} {s u : Option (Nat × NW)} (hT : T < 1000000) (S : ST z0 σ T g s u) : ∃ τ2, VL D z0 l 263 [some (.ref D.2.2.1), some (.ref z0), some (.int 1), some (.int (nI 40)), none] [] σ cells slots τ2 := by
  obtain ⟨σ1, ev, S1⟩ := A_save S
  obtain ⟨σ2, eA, S2⟩ := L_things S1
  have eR := L_receivers S2.cg S2.jt (by omega)
  obtain ⟨C, hC, eCl⟩ := cellF_nn D 41
  obtain ⟨σ3, N, g3, q, eB, hN, S3⟩ := L_beats S2 hC (by omega)
  rw [← eCl] at eB
  obtain ⟨σ4, eC, S4⟩ := L_things S3
  obtain ⟨σ5, g5, eD, -, S5⟩ := A_restore S4
  have eD : m_X8_restore (some z0) σ4 = some (nI T, σ5) := eD
  obtain ⟨v, σ6, g6, hv, eE, J6, G6⟩ := A_undo S5
  have eF : m_X8_count (some z0) 0 σ6 = some (nI (T + N), σ6) := by
    have := C_count_0 G6
    rwa [J6.1] at this
  refine ⟨σ6, ?_⟩
  refine V_aload_n (x := some z0) dL_law_263 rfl ?_
  refine V_callP (As := []) (st0 := []) (stI := [.ref z0]) (t_X8_save _  σ) (ev) (S.cg.oX) (q := (RX8, TX8, 6)) rfl rfl rfl (Nat.le_of_ble_eq_true rfl) rfl (fun s args hts => cwV 0 hts gL_law_X8_save rfl rfl rfl (by decide +kernel) ⟨Nat.le_of_ble_eq_true rfl, Nat.le_of_ble_eq_true rfl⟩) rfl rfl hc hs dL_law_264 ?_
  refine V_istore_n (x := (nI T)) (ls' := [some (.ref D.2.2.1), some (.ref z0), some (.int (1 : Int32)), some (.int (nI T)), none]) dL_law_267 (by decide) rfl ?_
  refine V_iload_n (x := (1 : Int32)) dL_law_268 rfl ?_
  refine V_ite (V_if_eq (tgt := 310) (x := (1 : Int32)) dL_law_269 (by decide) (fun hq => ?_) (fun hq => ?_))
  · exact absurd hq (one_ne)
  refine V_aload_n (x := some z0) dL_law_272 rfl ?_
  refine V_callSP (As := [.ref z0]) (st0 := []) (stI := [.ref z0]) (t_L_areThings (some z0) σ1) (eA) rfl (Nat.le_of_ble_eq_true rfl) rfl (fun s args hts => va_cwS 1 hts gL_law_L_areThings rfl rfl rfl (by decide +kernel) ⟨Nat.le_of_ble_eq_true rfl, Nat.le_of_ble_eq_true rfl⟩) rfl rfl hc hs dL_law_273 ?_
  refine V_ite (V_if_eq (tgt := 310) (x := (1 : Int32)) dL_law_276 (by decide) (fun hq => ?_) (fun hq => ?_))
  · exact absurd hq (one_ne)
  refine V_aload_n (x := some z0) dL_law_279 rfl ?_
  refine V_callSP (As := [.ref z0]) (st0 := []) (stI := [.ref z0]) (t_L_areReceivers (some z0) σ2) (eR) rfl (Nat.le_of_ble_eq_true rfl) rfl (fun s args hts => va_cwS 1 hts gL_law_L_areReceivers rfl rfl rfl (by decide +kernel) ⟨Nat.le_of_ble_eq_true rfl, Nat.le_of_ble_eq_true rfl⟩) rfl rfl hc hs dL_law_280 ?_
  refine V_ite (V_if_eq (tgt := 310) (x := (1 : Int32)) dL_law_283 (by decide) (fun hq => ?_) (fun hq => ?_))
  · exact absurd hq (one_ne)
  refine V_aload_n (x := some z0) dL_law_286 rfl ?_
  refine V_aload_n (x := some D.2.2.1) dL_law_287 rfl ?_
  refine V_bipush (v := (41 : Int32)) dL_law_288 rfl ?_
  refine V_callSP (As := [.ref D.2.2.1, .int (41 : Int32)]) (st0 := [.ref z0]) (stI := [.int (41 : Int32), .ref D.2.2.1, .ref z0]) (t_cell hL (show 41 < 100 by decide)) (rfl) rfl (Nat.le_of_ble_eq_true rfl) rfl (fun s args hts => va_cwS 2 hts gL_law_L_cell rfl rfl rfl (by decide +kernel) ⟨Nat.le_of_ble_eq_true rfl, Nat.le_of_ble_eq_true rfl⟩) rfl rfl hc hs dL_law_290 ?_
  refine V_callSP (As := [.ref z0, .int (cellF D 41)]) (st0 := []) (stI := [.int (cellF D 41), .ref z0]) (t_L_areBeats (some z0) (cellF D 41) σ2) (eB) rfl (Nat.le_of_ble_eq_true rfl) rfl (fun s args hts => va_cwS 2 hts gL_law_L_areBeats rfl rfl rfl (by decide +kernel) ⟨Nat.le_of_ble_eq_true rfl, Nat.le_of_ble_eq_true rfl⟩) rfl rfl hc hs dL_law_293 ?_
  refine V_ite (V_if_eq (tgt := 310) (x := (1 : Int32)) dL_law_296 (by decide) (fun hq => ?_) (fun hq => ?_))
  · exact absurd hq (one_ne)
  refine V_aload_n (x := some z0) dL_law_299 rfl ?_
  refine V_callSP (As := [.ref z0]) (st0 := []) (stI := [.ref z0]) (t_L_areThings (some z0) σ3) (eC) rfl (Nat.le_of_ble_eq_true rfl) rfl (fun s args hts => va_cwS 1 hts gL_law_L_areThings rfl rfl rfl (by decide +kernel) ⟨Nat.le_of_ble_eq_true rfl, Nat.le_of_ble_eq_true rfl⟩) rfl rfl hc hs dL_law_300 ?_
  refine V_ite (V_if_eq (tgt := 310) (x := (1 : Int32)) dL_law_303 (by decide) (fun hq => ?_) (fun hq => ?_))
  · exact absurd hq (one_ne)
  refine V_iconst (v := (1 : Int32)) dL_law_306 rfl ?_
  refine V_goto (tgt := 311) dL_law_307 (by decide) ?_
  refine V_istore_n (x := (1 : Int32)) (ls' := [some (.ref D.2.2.1), some (.ref z0), some (.int (1 : Int32)), some (.int (nI T)), none]) dL_law_311 (by decide) rfl ?_
  refine V_iload_n (x := (1 : Int32)) dL_law_312 rfl ?_
  refine V_ite (V_if_eq (tgt := 344) (x := (1 : Int32)) dL_law_313 (by decide) (fun hq => ?_) (fun hq => ?_))
  · exact absurd hq (one_ne)
  refine V_aload_n (x := some z0) dL_law_316 rfl ?_
  refine V_callP (As := []) (st0 := []) (stI := [.ref z0]) (t_X8_restore _  σ4) (eD) (S4.cg.oX) (q := (RX8, TX8, 6)) rfl rfl rfl (Nat.le_of_ble_eq_true rfl) rfl (fun s args hts => cwV 0 hts gL_law_X8_restore rfl rfl rfl (by decide +kernel) ⟨Nat.le_of_ble_eq_true rfl, Nat.le_of_ble_eq_true rfl⟩) rfl rfl hc hs dL_law_317 ?_
  refine V_iload_n (x := (nI T)) dL_law_320 rfl ?_
  refine V_ite (V_icmp_lt (tgt := 344) (x := (nI T)) (y := (nI T)) dL_law_321 (by decide) (fun hq => ?_) (fun hq => ?_))
  · exact absurd hq (nI_nlt (Nat.le_refl T) (by omega))
  refine V_aload_n (x := some z0) dL_law_324 rfl ?_
  refine V_callP (As := []) (st0 := []) (stI := [.ref z0]) (t_X8_undo _  σ5) (eE) (S5.cg.oX) (q := (RX8, TX8, 6)) rfl rfl rfl (Nat.le_of_ble_eq_true rfl) rfl (fun s args hts => cwV 0 hts gL_law_X8_undo rfl rfl rfl (by decide +kernel) ⟨Nat.le_of_ble_eq_true rfl, Nat.le_of_ble_eq_true rfl⟩) rfl rfl hc hs dL_law_325 ?_
  refine V_ite (V_if_lt (tgt := 344) (x := (nI v)) dL_law_328 (by decide) (fun hq => ?_) (fun hq => ?_))
  · exact absurd hq (nI_pos (by omega))
  refine V_aload_n (x := some z0) dL_law_331 rfl ?_
  refine V_iconst (v := (0 : Int32)) dL_law_332 rfl ?_
  refine V_callP (As := [.int (0 : Int32)]) (st0 := []) (stI := [.int (0 : Int32), .ref z0]) (t_X8_count _ (0 : Int32) σ6) (eF) (G6.oX) (q := (RX8, TX8, 6)) rfl rfl rfl (Nat.le_of_ble_eq_true rfl) rfl (fun s args hts => cwV 1 hts gL_law_X8_count rfl rfl rfl (by decide +kernel) ⟨Nat.le_of_ble_eq_true rfl, Nat.le_of_ble_eq_true rfl⟩) rfl rfl hc hs dL_law_333 ?_
  refine V_iload_n (x := (nI T)) dL_law_336 rfl ?_
  refine V_ite (V_icmp_lt (tgt := 344) (x := (nI (T + N))) (y := (nI T)) dL_law_337 (by decide) (fun hq => ?_) (fun hq => ?_))
  · exact absurd hq (nI_nlt (Nat.le_add_right T N) (by omega))
  refine V_iconst (v := (1 : Int32)) dL_law_340 rfl ?_
  refine V_goto (tgt := 345) dL_law_341 (by decide) ?_
  exact V_zret (v := 1) (fun _ => rfl) rfl hc hs dL_law_345
theorem W_next {τ : SG} {k : Nat} {τ2 : SG} (w : VL D z0 l 208 [some (.ref D.2.2.1), some (.ref z0), some (.int 1), some (.int (nI (k + 1))), none] [] τ cells slots τ2) : VL D z0 l 251 [some (.ref D.2.2.1), some (.ref z0), some (.int 1), some (.int (nI k)), none] [] τ cells slots τ2 := by
  refine V_iconst (v := (1 : Int32)) dL_law_251 rfl ?_
  refine V_goto (tgt := 256) dL_law_252 (by decide) ?_
  refine V_istore_n (x := (1 : Int32)) (ls' := [some (.ref D.2.2.1), some (.ref z0), some (.int (1 : Int32)), some (.int (nI k)), none]) dL_law_256 (by decide) rfl ?_
  refine V_iinc (i := 3) (x := (nI k)) (v := (nI (k + 1))) (ls' := [some (.ref D.2.2.1), some (.ref z0), some (.int (1 : Int32)), some (.int (nI (k + 1))), none]) dL_law_257 rfl ((nI_succ k).symm) (by decide) rfl ?_
  exact V_goto (tgt := 208) dL_law_260 (by decide) w
theorem W_acts (hL : D.2.2.2.1 ≤ 260) (hc : cells ≤ 666774) (hs : slots ≤ 7101925) : ∀ (d k : Nat), k + d = 40 → ∀ (σ : SG) (T : Nat) (g : NW) (u : Option (Nat × NW)), T ≤ 60 * k → ST z0 σ T g none u → ∃ τ2, VL D z0 l 208 [some (.ref D.2.2.1), some (.ref z0), some (.int 1), some (.int (nI k)), none] [] σ cells slots τ2 := by
  intro d
  induction d with
  | zero =>
    intro k hk σ T g u hT S
    obtain rfl : k = 40 := by omega
    obtain ⟨τ2, w⟩ := W_end (l := l) hL hc hs (by omega) S
    refine ⟨τ2, ?_⟩
    refine V_iload_n (x := (nI 40)) dL_law_208 rfl ?_
    refine V_bipush (v := (40 : Int32)) dL_law_209 rfl ?_
    refine V_ite (V_icmp_ge (tgt := 263) (x := (nI 40)) (y := (40 : Int32)) dL_law_211 (by decide) (fun hq => ?_) (fun hq => ?_))
    rotate_left
    · exact absurd (nI_le (a := 40) (by omega) (by decide)) hq
    exact w
  | succ d ih =>
    intro k hk σ T g u hT S
    have hk : k < 40 := by omega
    obtain ⟨C, hC, eCl⟩ := cellF_nn D k
    obtain ⟨σ1, T1, g1, u1, eA, hT1, hT2, S1⟩ := L_acts S hC
    rw [← eCl] at eA
    have er : nI k - nI k / (10 : Int32) * (10 : Int32) = nI (k % 10) := pk_rem (d := 10) (show k < 2 ^ 31 by omega) (by decide) (by decide)
    have go : ∃ τ2, VL D z0 l 230 [some (.ref D.2.2.1), some (.ref z0), some (.int 1), some (.int (nI k)), none] [] σ1 cells slots τ2 := by
      by_cases h0 : 0 < nI (k % 10)
      · obtain ⟨τ2, w⟩ := ih (k + 1) (by omega) σ1 T1 g1 u1 (by omega) S1
        refine ⟨τ2, ?_⟩
        refine V_iload_n (x := (nI k)) dL_law_230 rfl ?_
        refine V_bipush (v := (10 : Int32)) dL_law_231 rfl ?_
        refine V_rem0 (x := (nI k)) (y := (10 : Int32)) (by decide) dL_law_233 ?_
        rw [er]
        refine V_ite (V_if_gt (tgt := 251) (x := (nI (k % 10))) dL_law_234 (by decide) (fun hq => ?_) (fun hq => ?_))
        rotate_left
        · exact absurd (h0) hq
        exact W_next w
      · obtain ⟨σ2, eT, S2⟩ := L_things S1
        have eR := L_receivers S2.cg S2.jt (by omega)
        obtain ⟨τ2, w⟩ := ih (k + 1) (by omega) σ2 T1 g1 u1 (by omega) S2
        refine ⟨τ2, ?_⟩
        refine V_iload_n (x := (nI k)) dL_law_230 rfl ?_
        refine V_bipush (v := (10 : Int32)) dL_law_231 rfl ?_
        refine V_rem0 (x := (nI k)) (y := (10 : Int32)) (by decide) dL_law_233 ?_
        rw [er]
        refine V_ite (V_if_gt (tgt := 251) (x := (nI (k % 10))) dL_law_234 (by decide) (fun hq => ?_) (fun hq => ?_))
        · exact absurd hq (h0)
        refine V_aload_n (x := some z0) dL_law_237 rfl ?_
        refine V_callSP (As := [.ref z0]) (st0 := []) (stI := [.ref z0]) (t_L_areThings (some z0) σ1) (eT) rfl (Nat.le_of_ble_eq_true rfl) rfl (fun s args hts => va_cwS 1 hts gL_law_L_areThings rfl rfl rfl (by decide +kernel) ⟨Nat.le_of_ble_eq_true rfl, Nat.le_of_ble_eq_true rfl⟩) rfl rfl hc hs dL_law_238 ?_
        refine V_ite (V_if_eq (tgt := 255) (x := (1 : Int32)) dL_law_241 (by decide) (fun hq => ?_) (fun hq => ?_))
        · exact absurd hq (one_ne)
        refine V_aload_n (x := some z0) dL_law_244 rfl ?_
        refine V_callSP (As := [.ref z0]) (st0 := []) (stI := [.ref z0]) (t_L_areReceivers (some z0) σ2) (eR) rfl (Nat.le_of_ble_eq_true rfl) rfl (fun s args hts => va_cwS 1 hts gL_law_L_areReceivers rfl rfl rfl (by decide +kernel) ⟨Nat.le_of_ble_eq_true rfl, Nat.le_of_ble_eq_true rfl⟩) rfl rfl hc hs dL_law_245 ?_
        refine V_ite (V_if_eq (tgt := 255) (x := (1 : Int32)) dL_law_248 (by decide) (fun hq => ?_) (fun hq => ?_))
        · exact absurd hq (one_ne)
        exact W_next w
    obtain ⟨τ2, w⟩ := go
    refine ⟨τ2, ?_⟩
    refine V_iload_n (x := (nI k)) dL_law_208 rfl ?_
    refine V_bipush (v := (40 : Int32)) dL_law_209 rfl ?_
    refine V_ite (V_icmp_ge (tgt := 263) (x := (nI k)) (y := (40 : Int32)) dL_law_211 (by decide) (fun hq => ?_) (fun hq => ?_))
    · exact absurd hq (nI_ge (b := 40) hk (by decide))
    refine V_iload_n (x := (1 : Int32)) dL_law_214 rfl ?_
    refine V_ite (V_if_eq (tgt := 263) (x := (1 : Int32)) dL_law_215 (by decide) (fun hq => ?_) (fun hq => ?_))
    · exact absurd hq (one_ne)
    refine V_aload_n (x := some z0) dL_law_218 rfl ?_
    refine V_aload_n (x := some D.2.2.1) dL_law_219 rfl ?_
    refine V_iload_n (x := (nI k)) dL_law_220 rfl ?_
    refine V_callSP (As := [.ref D.2.2.1, .int (nI k)]) (st0 := [.ref z0]) (stI := [.int (nI k), .ref D.2.2.1, .ref z0]) (t_cell hL (show k < 100 by omega)) (rfl) rfl (Nat.le_of_ble_eq_true rfl) rfl (fun s args hts => va_cwS 2 hts gL_law_L_cell rfl rfl rfl (by decide +kernel) ⟨Nat.le_of_ble_eq_true rfl, Nat.le_of_ble_eq_true rfl⟩) rfl rfl hc hs dL_law_221 ?_
    refine V_callSP (As := [.ref z0, .int (cellF D k)]) (st0 := []) (stI := [.int (cellF D k), .ref z0]) (t_L_acts (some z0) (cellF D k) σ) (eA) rfl (Nat.le_of_ble_eq_true rfl) rfl (fun s args hts => va_cwS 2 hts gL_law_L_acts rfl rfl rfl (by decide +kernel) ⟨Nat.le_of_ble_eq_true rfl, Nat.le_of_ble_eq_true rfl⟩) rfl rfl hc hs dL_law_224 ?_
    refine V_ite (V_if_eq (tgt := 255) (x := (1 : Int32)) dL_law_227 (by decide) (fun hq => ?_) (fun hq => ?_))
    · exact absurd hq (one_ne)
    exact w
theorem frm_even (x : Int32) {k : Nat} (hk : k < 5) : frm x (nI (4 + 2 * k)) = (x >>> (((4 : Int32) - nI k) &&& 31)) &&& 1 := by
  have h : k = 0 ∨ k = 1 ∨ k = 2 ∨ k = 3 ∨ k = 4 := by omega
  unfold frm
  rcases h with rfl | rfl | rfl | rfl | rfl <;> rw [if_pos (by decide), if_pos (by decide)] <;> congr 2
theorem frm_odd (x : Int32) {k : Nat} (hk : k < 5) : frm x (nI (5 + 2 * k)) = (1 : Int32) - frm x (nI (4 + 2 * k)) := by
  have h : k = 0 ∨ k = 1 ∨ k = 2 ∨ k = 3 ∨ k = 4 := by omega
  unfold frm
  rcases h with rfl | rfl | rfl | rfl | rfl <;> rw [if_pos (by decide), if_neg (by decide), if_pos (by decide), if_pos (by decide)] <;> congr 3
theorem frm_1 (x : Int32) {p : Nat} (hp : p < 3) : frm x (nI p) = 1 := by
  have h : p = 0 ∨ p = 1 ∨ p = 2 := by omega
  unfold frm
  rcases h with rfl | rfl | rfl <;> rw [if_neg (by decide), if_neg (by decide)]
theorem frm_3 (x : Int32) : frm x (nI 3) = 0 := by
  unfold frm
  rw [if_neg (by decide), if_pos (by decide)]
theorem W_bits (hL : D.2.2.2.1 ≤ 260) (hc : cells ≤ 666774) (hs : slots ≤ 7101925) {σ : SG} {T : Nat} {g : NW} {s u : Option (Nat × NW)} (S : ST z0 σ T g s u) {x : Nat} (hx : x < 32) {τ2 : SG} (hw : VL D z0 l 200 [some (.ref D.2.2.1), some (.ref z0), some (.int 1), some (.int (nI x)), some (.int (nI 5))] [] σ cells slots τ2) : ∀ (d k : Nat), k + d = 5 → VL D z0 l 129 [some (.ref D.2.2.1), some (.ref z0), some (.int 1), some (.int (nI x)), some (.int (nI k))] [] σ cells slots τ2 := by
  intro d
  induction d with
  | zero =>
    intro k hk
    obtain rfl : k = 5 := by omega
    refine V_iload (x := (nI 5)) dL_law_129 rfl ?_
    refine V_iconst (v := (5 : Int32)) dL_law_131 rfl ?_
    refine V_ite (V_icmp_ge (tgt := 200) (x := (nI 5)) (y := (5 : Int32)) dL_law_132 (by decide) (fun hq => ?_) (fun hq => ?_))
    rotate_left
    · exact absurd (nI_le (a := 5) (Nat.le_refl 5) (by decide)) hq
    exact hw
  | succ d ih =>
    intro k hk
    have hk : k < 5 := by omega
    refine V_iload (x := (nI k)) dL_law_129 rfl ?_
    refine V_iconst (v := (5 : Int32)) dL_law_131 rfl ?_
    refine V_ite (V_icmp_ge (tgt := 200) (x := (nI k)) (y := (5 : Int32)) dL_law_132 (by decide) (fun hq => ?_) (fun hq => ?_))
    · exact absurd hq (nI_ge (b := 5) hk (by decide))
    refine V_iload_n (x := (1 : Int32)) dL_law_135 rfl ?_
    refine V_ite (V_if_eq (tgt := 200) (x := (1 : Int32)) dL_law_136 (by decide) (fun hq => ?_) (fun hq => ?_))
    · exact absurd hq (one_ne)
    refine V_aload_n (x := some z0) dL_law_139 rfl ?_
    refine V_iload_n (x := (nI x)) dL_law_140 rfl ?_
    refine V_iconst (v := (4 : Int32)) dL_law_141 rfl ?_
    refine V_iconst (v := (2 : Int32)) dL_law_142 rfl ?_
    refine V_iload (x := (nI k)) dL_law_143 rfl ?_
    refine V_imul (x := (2 : Int32)) (y := (nI k)) dL_law_145 ?_
    rw [show (2 : Int32) * nI k = nI (2 * k) from nI_mul 2 k]
    refine V_iadd (x := (4 : Int32)) (y := (nI (2 * k))) dL_law_146 ?_
    rw [show (4 : Int32) + nI (2 * k) = nI (4 + 2 * k) from nI_add 4 (2 * k)]
    refine V_callP (As := [.int (nI x), .int (nI (4 + 2 * k))]) (st0 := []) (stI := [.int (nI (4 + 2 * k)), .int (nI x), .ref z0]) (t_X8_frame _ (nI x) (nI (4 + 2 * k)) σ) (C_frame hx (show 4 + 2 * k < 14 by omega) _ σ) (S.cg.oX) (q := (RX8, TX8, 6)) rfl rfl rfl (Nat.le_of_ble_eq_true rfl) rfl (fun s args hts => cwV 2 hts gL_law_X8_frame rfl rfl rfl (by decide +kernel) ⟨Nat.le_of_ble_eq_true rfl, Nat.le_of_ble_eq_true rfl⟩) rfl rfl hc hs dL_law_147 ?_
    refine V_iload_n (x := (nI x)) dL_law_150 rfl ?_
    refine V_iconst (v := (4 : Int32)) dL_law_151 rfl ?_
    refine V_iload (x := (nI k)) dL_law_152 rfl ?_
    refine V_isub (x := (4 : Int32)) (y := (nI k)) dL_law_154 ?_
    refine V_ishr (x := (nI x)) (y := ((4 : Int32) - (nI k))) dL_law_155 ?_
    refine V_iconst (v := (1 : Int32)) dL_law_156 rfl ?_
    refine V_iand (x := ((nI x) >>> (((4 : Int32) - (nI k)) &&& 31))) (y := (1 : Int32)) dL_law_157 ?_
    refine V_ite (V_icmp_ne (tgt := 192) (x := (frm (nI x) (nI (4 + 2 * k)))) (y := (((nI x) >>> (((4 : Int32) - (nI k)) &&& 31)) &&& (1 : Int32))) dL_law_158 (by decide) (fun hq => ?_) (fun hq => ?_))
    rotate_left
    · exact absurd (frm_even (nI x) hk) hq
    refine V_aload_n (x := some z0) dL_law_161 rfl ?_
    refine V_iload_n (x := (nI x)) dL_law_162 rfl ?_
    refine V_iconst (v := (5 : Int32)) dL_law_163 rfl ?_
    refine V_iconst (v := (2 : Int32)) dL_law_164 rfl ?_
    refine V_iload (x := (nI k)) dL_law_165 rfl ?_
    refine V_imul (x := (2 : Int32)) (y := (nI k)) dL_law_167 ?_
    rw [show (2 : Int32) * nI k = nI (2 * k) from nI_mul 2 k]
    refine V_iadd (x := (5 : Int32)) (y := (nI (2 * k))) dL_law_168 ?_
    rw [show (5 : Int32) + nI (2 * k) = nI (5 + 2 * k) from nI_add 5 (2 * k)]
    refine V_callP (As := [.int (nI x), .int (nI (5 + 2 * k))]) (st0 := []) (stI := [.int (nI (5 + 2 * k)), .int (nI x), .ref z0]) (t_X8_frame _ (nI x) (nI (5 + 2 * k)) σ) (C_frame hx (show 5 + 2 * k < 14 by omega) _ σ) (S.cg.oX) (q := (RX8, TX8, 6)) rfl rfl rfl (Nat.le_of_ble_eq_true rfl) rfl (fun s args hts => cwV 2 hts gL_law_X8_frame rfl rfl rfl (by decide +kernel) ⟨Nat.le_of_ble_eq_true rfl, Nat.le_of_ble_eq_true rfl⟩) rfl rfl hc hs dL_law_169 ?_
    refine V_iconst (v := (1 : Int32)) dL_law_172 rfl ?_
    refine V_aload_n (x := some z0) dL_law_173 rfl ?_
    refine V_iload_n (x := (nI x)) dL_law_174 rfl ?_
    refine V_iconst (v := (4 : Int32)) dL_law_175 rfl ?_
    refine V_iconst (v := (2 : Int32)) dL_law_176 rfl ?_
    refine V_iload (x := (nI k)) dL_law_177 rfl ?_
    refine V_imul (x := (2 : Int32)) (y := (nI k)) dL_law_179 ?_
    rw [show (2 : Int32) * nI k = nI (2 * k) from nI_mul 2 k]
    refine V_iadd (x := (4 : Int32)) (y := (nI (2 * k))) dL_law_180 ?_
    rw [show (4 : Int32) + nI (2 * k) = nI (4 + 2 * k) from nI_add 4 (2 * k)]
    refine V_callP (As := [.int (nI x), .int (nI (4 + 2 * k))]) (st0 := [.int (1 : Int32), .int (frm (nI x) (nI (5 + 2 * k)))]) (stI := [.int (nI (4 + 2 * k)), .int (nI x), .ref z0, .int (1 : Int32), .int (frm (nI x) (nI (5 + 2 * k)))]) (t_X8_frame _ (nI x) (nI (4 + 2 * k)) σ) (C_frame hx (show 4 + 2 * k < 14 by omega) _ σ) (S.cg.oX) (q := (RX8, TX8, 6)) rfl rfl rfl (Nat.le_of_ble_eq_true rfl) rfl (fun s args hts => cwV 2 hts gL_law_X8_frame rfl rfl rfl (by decide +kernel) ⟨Nat.le_of_ble_eq_true rfl, Nat.le_of_ble_eq_true rfl⟩) rfl rfl hc hs dL_law_181 ?_
    refine V_isub (x := (1 : Int32)) (y := (frm (nI x) (nI (4 + 2 * k)))) dL_law_184 ?_
    refine V_ite (V_icmp_ne (tgt := 192) (x := (frm (nI x) (nI (5 + 2 * k)))) (y := ((1 : Int32) - (frm (nI x) (nI (4 + 2 * k))))) dL_law_185 (by decide) (fun hq => ?_) (fun hq => ?_))
    rotate_left
    · exact absurd (frm_odd (nI x) hk) hq
    refine V_iconst (v := (1 : Int32)) dL_law_188 rfl ?_
    refine V_goto (tgt := 193) dL_law_189 (by decide) ?_
    refine V_istore_n (x := (1 : Int32)) (ls' := [some (.ref D.2.2.1), some (.ref z0), some (.int (1 : Int32)), some (.int (nI x)), some (.int (nI k))]) dL_law_193 (by decide) rfl ?_
    refine V_iinc (i := 4) (x := (nI k)) (v := (nI (k + 1))) (ls' := [some (.ref D.2.2.1), some (.ref z0), some (.int (1 : Int32)), some (.int (nI x)), some (.int (nI (k + 1)))]) dL_law_194 rfl ((nI_succ k).symm) (by decide) rfl ?_
    exact V_goto (tgt := 129) dL_law_197 (by decide) (ih (k + 1) (by omega))
theorem W_words (hL : D.2.2.2.1 ≤ 260) (hc : cells ≤ 666774) (hs : slots ≤ 7101925) {σ : SG} {T : Nat} {g : NW} {s u : Option (Nat × NW)} (S : ST z0 σ T g s u) {τ2 : SG} (hw : VL D z0 l 208 [some (.ref D.2.2.1), some (.ref z0), some (.int 1), some (.int (nI 0)), none] [] σ cells slots τ2) : ∀ (d x : Nat), x + d = 32 → ∀ (v : Option Value), VL D z0 l 71 [some (.ref D.2.2.1), some (.ref z0), some (.int 1), some (.int (nI x)), none] [] σ cells slots τ2 := by
  intro d
  induction d with
  | zero =>
    intro x hx v
    obtain rfl : x = 32 := by omega
    refine V_iload_n (x := (nI 32)) dL_law_71 rfl ?_
    refine V_bipush (v := (32 : Int32)) dL_law_72 rfl ?_
    refine V_ite (V_icmp_ge (tgt := 206) (x := (nI 32)) (y := (32 : Int32)) dL_law_74 (by decide) (fun hq => ?_) (fun hq => ?_))
    rotate_left
    · exact absurd (nI_le (a := 32) (Nat.le_refl 32) (by decide)) hq
    refine V_iconst (v := (0 : Int32)) dL_law_206 rfl ?_
    refine V_istore_n (x := (0 : Int32)) (ls' := [some (.ref D.2.2.1), some (.ref z0), some (.int (1 : Int32)), some (.int (0 : Int32)), none]) dL_law_207 (by decide) rfl ?_
    exact hw
  | succ d ih =>
    intro x hx v
    have hx : x < 32 := by omega
    have back : VL D z0 l 200 [some (.ref D.2.2.1), some (.ref z0), some (.int 1), some (.int (nI x)), some (.int (nI 5))] [] σ cells slots τ2 := by
      refine V_iinc (i := 3) (x := (nI x)) (v := (nI (x + 1))) (ls' := [some (.ref D.2.2.1), some (.ref z0), some (.int (1 : Int32)), some (.int (nI (x + 1))), some (.int (nI 5))]) dL_law_200 rfl ((nI_succ x).symm) (by decide) rfl ?_
      refine V_goto (tgt := 71) dL_law_203 (by decide) ?_
      exact V_sub (LE.s (LE.s (LE.s (LE.s (LE.n LE.e))))) (ih (x + 1) (by omega) v)
    have w := W_bits (l := l) hL hc hs S hx back 5 0 rfl
    refine V_iload_n (x := (nI x)) dL_law_71 rfl ?_
    refine V_bipush (v := (32 : Int32)) dL_law_72 rfl ?_
    refine V_ite (V_icmp_ge (tgt := 206) (x := (nI x)) (y := (32 : Int32)) dL_law_74 (by decide) (fun hq => ?_) (fun hq => ?_))
    · exact absurd hq (nI_ge (b := 32) hx (by decide))
    refine V_iload_n (x := (1 : Int32)) dL_law_77 rfl ?_
    refine V_ite (V_if_eq (tgt := 206) (x := (1 : Int32)) dL_law_78 (by decide) (fun hq => ?_) (fun hq => ?_))
    · exact absurd hq (one_ne)
    refine V_aload_n (x := some z0) dL_law_81 rfl ?_
    refine V_iload_n (x := (nI x)) dL_law_82 rfl ?_
    refine V_iconst (v := (0 : Int32)) dL_law_83 rfl ?_
    refine V_callP (As := [.int (nI x), .int (0 : Int32)]) (st0 := []) (stI := [.int (0 : Int32), .int (nI x), .ref z0]) (t_X8_frame _ (nI x) (0 : Int32) σ) (by have := C_frame hx (p := 0) (by decide) (some z0) σ; rwa [frm_1 _ (by decide)] at this) (S.cg.oX) (q := (RX8, TX8, 6)) rfl rfl rfl (Nat.le_of_ble_eq_true rfl) rfl (fun s args hts => cwV 2 hts gL_law_X8_frame rfl rfl rfl (by decide +kernel) ⟨Nat.le_of_ble_eq_true rfl, Nat.le_of_ble_eq_true rfl⟩) rfl rfl hc hs dL_law_84 ?_
    refine V_iconst (v := (1 : Int32)) dL_law_87 rfl ?_
    refine V_ite (V_icmp_ne (tgt := 124) (x := (1 : Int32)) (y := (1 : Int32)) dL_law_88 (by decide) (fun hq => ?_) (fun hq => ?_))
    rotate_left
    · exact absurd (rfl) hq
    refine V_aload_n (x := some z0) dL_law_91 rfl ?_
    refine V_iload_n (x := (nI x)) dL_law_92 rfl ?_
    refine V_iconst (v := (1 : Int32)) dL_law_93 rfl ?_
    refine V_callP (As := [.int (nI x), .int (1 : Int32)]) (st0 := []) (stI := [.int (1 : Int32), .int (nI x), .ref z0]) (t_X8_frame _ (nI x) (1 : Int32) σ) (by have := C_frame hx (p := 1) (by decide) (some z0) σ; rwa [frm_1 _ (by decide)] at this) (S.cg.oX) (q := (RX8, TX8, 6)) rfl rfl rfl (Nat.le_of_ble_eq_true rfl) rfl (fun s args hts => cwV 2 hts gL_law_X8_frame rfl rfl rfl (by decide +kernel) ⟨Nat.le_of_ble_eq_true rfl, Nat.le_of_ble_eq_true rfl⟩) rfl rfl hc hs dL_law_94 ?_
    refine V_iconst (v := (1 : Int32)) dL_law_97 rfl ?_
    refine V_ite (V_icmp_ne (tgt := 124) (x := (1 : Int32)) (y := (1 : Int32)) dL_law_98 (by decide) (fun hq => ?_) (fun hq => ?_))
    rotate_left
    · exact absurd (rfl) hq
    refine V_aload_n (x := some z0) dL_law_101 rfl ?_
    refine V_iload_n (x := (nI x)) dL_law_102 rfl ?_
    refine V_iconst (v := (2 : Int32)) dL_law_103 rfl ?_
    refine V_callP (As := [.int (nI x), .int (2 : Int32)]) (st0 := []) (stI := [.int (2 : Int32), .int (nI x), .ref z0]) (t_X8_frame _ (nI x) (2 : Int32) σ) (by have := C_frame hx (p := 2) (by decide) (some z0) σ; rwa [frm_1 _ (by decide)] at this) (S.cg.oX) (q := (RX8, TX8, 6)) rfl rfl rfl (Nat.le_of_ble_eq_true rfl) rfl (fun s args hts => cwV 2 hts gL_law_X8_frame rfl rfl rfl (by decide +kernel) ⟨Nat.le_of_ble_eq_true rfl, Nat.le_of_ble_eq_true rfl⟩) rfl rfl hc hs dL_law_104 ?_
    refine V_iconst (v := (1 : Int32)) dL_law_107 rfl ?_
    refine V_ite (V_icmp_ne (tgt := 124) (x := (1 : Int32)) (y := (1 : Int32)) dL_law_108 (by decide) (fun hq => ?_) (fun hq => ?_))
    rotate_left
    · exact absurd (rfl) hq
    refine V_aload_n (x := some z0) dL_law_111 rfl ?_
    refine V_iload_n (x := (nI x)) dL_law_112 rfl ?_
    refine V_iconst (v := (3 : Int32)) dL_law_113 rfl ?_
    refine V_callP (As := [.int (nI x), .int (3 : Int32)]) (st0 := []) (stI := [.int (3 : Int32), .int (nI x), .ref z0]) (t_X8_frame _ (nI x) (3 : Int32) σ) (by have := C_frame hx (p := 3) (by decide) (some z0) σ; rwa [frm_3] at this) (S.cg.oX) (q := (RX8, TX8, 6)) rfl rfl rfl (Nat.le_of_ble_eq_true rfl) rfl (fun s args hts => cwV 2 hts gL_law_X8_frame rfl rfl rfl (by decide +kernel) ⟨Nat.le_of_ble_eq_true rfl, Nat.le_of_ble_eq_true rfl⟩) rfl rfl hc hs dL_law_114 ?_
    refine V_ite (V_if_ne (tgt := 124) (x := (0 : Int32)) dL_law_117 (by decide) (fun hq => ?_) (fun hq => ?_))
    rotate_left
    · exact absurd (rfl) hq
    refine V_iconst (v := (1 : Int32)) dL_law_120 rfl ?_
    refine V_goto (tgt := 125) dL_law_121 (by decide) ?_
    refine V_istore_n (x := (1 : Int32)) (ls' := [some (.ref D.2.2.1), some (.ref z0), some (.int (1 : Int32)), some (.int (nI x)), none]) dL_law_125 (by decide) rfl ?_
    refine V_iconst (v := (0 : Int32)) dL_law_126 rfl ?_
    refine V_istore (x := (0 : Int32)) (ls' := [some (.ref D.2.2.1), some (.ref z0), some (.int (1 : Int32)), some (.int (nI x)), some (.int (0 : Int32))]) dL_law_127 (by decide) rfl ?_
    exact w
theorem W_first (hL : D.2.2.2.1 ≤ 260) (hc : cells ≤ 666774) (hs : slots ≤ 7101925) {σ : SG} (S : ST z0 σ 0 g0 none none) : ∃ τ2, VL D z0 l 8 [some (.ref D.2.2.1), some (.ref z0), none, none, none] [] σ cells slots τ2 := by
  have e1 := A_undo_no S
  have e2 := A_restore_no S
  obtain ⟨σ1, e3, S1⟩ := A_silentIn S
  have e3 : m_X8_silentIn (some z0) σ = some (0, σ1) := e3
  have f1 : frN (fun i => g0 1 i 0) 5 0 = 0 := rfl
  obtain ⟨σ2, e4, S2⟩ := (A_sender S1 (i := 0) (b := 9) (by decide) (by decide) (by decide)).2 (by rw [f1]; decide)
  rw [f1] at e4 S2
  have e4 : m_X8_sender (some z0) 0 9 σ1 = some (0, σ2) := e4
  have f2 : frN (fun i => putSG g0 0 (nI 0) (nI 9) 0 3 i 0) 8 0 = 0 := rfl
  obtain ⟨σ3, e5, S3⟩ := (A_lamp S2 (i := 0) (b := 0) (c := 1) (by decide) (by decide) (by decide)).2 (by rw [f2]; decide)
  rw [f2] at e5 S3
  have e5 : m_X8_lamp (some z0) 0 0 1 σ2 = some (0, σ3) := e5
  obtain ⟨σ4, e6, S4⟩ := A_say S3 (i := 0) (x := 1) (q := 0) (by decide) rfl rfl (by decide) (by decide)
  have e6 : m_X8_say (some z0) 0 1 σ3 = some (1, σ4) := e6
  obtain ⟨τ2, w⟩ := W_acts (l := l) hL hc hs 40 0 rfl σ4 0 _ _ (by omega) S4
  have w := W_words (l := l) hL hc hs S4 w 32 0 rfl none
  refine ⟨τ2, ?_⟩
  refine V_aload_n (x := some z0) dL_law_8 rfl ?_
  refine V_callP (As := []) (st0 := []) (stI := [.ref z0]) (t_X8_undo _  σ) (e1) (S.cg.oX) (q := (RX8, TX8, 6)) rfl rfl rfl (Nat.le_of_ble_eq_true rfl) rfl (fun s args hts => cwV 0 hts gL_law_X8_undo rfl rfl rfl (by decide +kernel) ⟨Nat.le_of_ble_eq_true rfl, Nat.le_of_ble_eq_true rfl⟩) rfl rfl hc hs dL_law_9 ?_
  refine V_bipush (v := (-5 : Int32)) dL_law_12 rfl ?_
  refine V_ite (V_icmp_ne (tgt := 67) (x := (-5 : Int32)) (y := (-5 : Int32)) dL_law_14 (by decide) (fun hq => ?_) (fun hq => ?_))
  rotate_left
  · exact absurd (rfl) hq
  refine V_aload_n (x := some z0) dL_law_17 rfl ?_
  refine V_callP (As := []) (st0 := []) (stI := [.ref z0]) (t_X8_restore _  σ) (e2) (S.cg.oX) (q := (RX8, TX8, 6)) rfl rfl rfl (Nat.le_of_ble_eq_true rfl) rfl (fun s args hts => cwV 0 hts gL_law_X8_restore rfl rfl rfl (by decide +kernel) ⟨Nat.le_of_ble_eq_true rfl, Nat.le_of_ble_eq_true rfl⟩) rfl rfl hc hs dL_law_18 ?_
  refine V_bipush (v := (-4 : Int32)) dL_law_21 rfl ?_
  refine V_ite (V_icmp_ne (tgt := 67) (x := (-4 : Int32)) (y := (-4 : Int32)) dL_law_23 (by decide) (fun hq => ?_) (fun hq => ?_))
  rotate_left
  · exact absurd (rfl) hq
  refine V_aload_n (x := some z0) dL_law_26 rfl ?_
  refine V_callP (As := []) (st0 := []) (stI := [.ref z0]) (t_X8_silentIn _  σ) (e3) (S.cg.oX) (q := (RX8, TX8, 6)) rfl rfl rfl (Nat.le_of_ble_eq_true rfl) rfl (fun s args hts => cwV 0 hts gL_law_X8_silentIn rfl rfl rfl (by decide +kernel) ⟨Nat.le_of_ble_eq_true rfl, Nat.le_of_ble_eq_true rfl⟩) rfl rfl hc hs dL_law_27 ?_
  refine V_ite (V_if_ne (tgt := 67) (x := (0 : Int32)) dL_law_30 (by decide) (fun hq => ?_) (fun hq => ?_))
  rotate_left
  · exact absurd (rfl) hq
  refine V_aload_n (x := some z0) dL_law_33 rfl ?_
  refine V_iconst (v := (0 : Int32)) dL_law_34 rfl ?_
  refine V_bipush (v := (9 : Int32)) dL_law_35 rfl ?_
  refine V_callP (As := [.int (0 : Int32), .int (9 : Int32)]) (st0 := []) (stI := [.int (9 : Int32), .int (0 : Int32), .ref z0]) (t_X8_sender _ (0 : Int32) (9 : Int32) σ1) (e4) (S1.cg.oX) (q := (RX8, TX8, 6)) rfl rfl rfl (Nat.le_of_ble_eq_true rfl) rfl (fun s args hts => cwV 2 hts gL_law_X8_sender rfl rfl rfl (by decide +kernel) ⟨Nat.le_of_ble_eq_true rfl, Nat.le_of_ble_eq_true rfl⟩) rfl rfl hc hs dL_law_37 ?_
  refine V_ite (V_if_ne (tgt := 67) (x := (0 : Int32)) dL_law_40 (by decide) (fun hq => ?_) (fun hq => ?_))
  rotate_left
  · exact absurd (rfl) hq
  refine V_aload_n (x := some z0) dL_law_43 rfl ?_
  refine V_iconst (v := (0 : Int32)) dL_law_44 rfl ?_
  refine V_iconst (v := (0 : Int32)) dL_law_45 rfl ?_
  refine V_iconst (v := (1 : Int32)) dL_law_46 rfl ?_
  refine V_callP (As := [.int (0 : Int32), .int (0 : Int32), .int (1 : Int32)]) (st0 := []) (stI := [.int (1 : Int32), .int (0 : Int32), .int (0 : Int32), .ref z0]) (t_X8_lamp _ (0 : Int32) (0 : Int32) (1 : Int32) σ2) (e5) (S2.cg.oX) (q := (RX8, TX8, 6)) rfl rfl rfl (Nat.le_of_ble_eq_true rfl) rfl (fun s args hts => cwV 3 hts gL_law_X8_lamp rfl rfl rfl (by decide +kernel) ⟨Nat.le_of_ble_eq_true rfl, Nat.le_of_ble_eq_true rfl⟩) rfl rfl hc hs dL_law_47 ?_
  refine V_ite (V_if_ne (tgt := 67) (x := (0 : Int32)) dL_law_50 (by decide) (fun hq => ?_) (fun hq => ?_))
  rotate_left
  · exact absurd (rfl) hq
  refine V_aload_n (x := some z0) dL_law_53 rfl ?_
  refine V_iconst (v := (0 : Int32)) dL_law_54 rfl ?_
  refine V_iconst (v := (1 : Int32)) dL_law_55 rfl ?_
  refine V_callP (As := [.int (0 : Int32), .int (1 : Int32)]) (st0 := []) (stI := [.int (1 : Int32), .int (0 : Int32), .ref z0]) (t_X8_say _ (0 : Int32) (1 : Int32) σ3) (e6) (S3.cg.oX) (q := (RX8, TX8, 6)) rfl rfl rfl (Nat.le_of_ble_eq_true rfl) rfl (fun s args hts => cwV 2 hts gL_law_X8_say rfl rfl rfl (by decide +kernel) ⟨Nat.le_of_ble_eq_true rfl, Nat.le_of_ble_eq_true rfl⟩) rfl rfl hc hs dL_law_56 ?_
  refine V_iconst (v := (1 : Int32)) dL_law_59 rfl ?_
  refine V_ite (V_icmp_ne (tgt := 67) (x := (1 : Int32)) (y := (1 : Int32)) dL_law_60 (by decide) (fun hq => ?_) (fun hq => ?_))
  rotate_left
  · exact absurd (rfl) hq
  refine V_iconst (v := (1 : Int32)) dL_law_63 rfl ?_
  refine V_goto (tgt := 68) dL_law_64 (by decide) ?_
  refine V_istore_n (x := (1 : Int32)) (ls' := [some (.ref D.2.2.1), some (.ref z0), some (.int (1 : Int32)), none, none]) dL_law_68 (by decide) rfl ?_
  refine V_iconst (v := (0 : Int32)) dL_law_69 rfl ?_
  refine V_istore_n (x := (0 : Int32)) (ls' := [some (.ref D.2.2.1), some (.ref z0), some (.int (1 : Int32)), some (.int (0 : Int32)), none]) dL_law_70 (by decide) rfl ?_
  exact w
end LWALK
