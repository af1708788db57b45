/-! LEVEL 3: the law's loop and its start -/
section LLOOP
variable {D : DG} {z0 : Nat} {l : Launch} {σ : SG} {cells slots : Nat}
def law_tb : List (Int32 × Nat) := [(nI 0, 156), (nI 1, 189), (nI 2, 232), (nI 3, 275), (nI 4, 308), (nI 5, 341), (nI 6, 390), (nI 7, 423), (nI 8, 446), (nI 9, 469), (nI 10, 482), (nI 11, 495), (nI 12, 508), (nI 13, 521), (nI 14, 534), (nI 15, 547), (nI 16, 580), (nI 17, 613), (nI 18, 646), (nI 19, 679), (nI 20, 712), (nI 21, 745), (nI 22, 778), (nI 23, 801), (nI 24, 824), (nI 25, 837), (nI 26, 870)]
theorem law_tbok : tbOk 32 0 26 #[124, 157, 200, 243, 276, 309, 358, 391, 414, 437, 450, 463, 476, 489, 502, 515, 548, 581, 614, 647, 680, 713, 746, 769, 792, 805, 838] law_tb = true := by decide +kernel
/-- behind a call: the next turn -/
theorem law_next {i : Nat} (ih : ∀ τ, GR z0 τ → ∃ τ2, VL D z0 l 18 (LSl D z0 (i + 4)) [] τ cells slots τ2) : ∀ τ, GR z0 τ → ∃ τ2, VL D z0 l 913 (LSl D z0 i) [] τ cells slots τ2 := by
  intro τ h
  obtain ⟨τ2, w⟩ := ih τ h
  refine ⟨τ2, ?_⟩
  refine V_iinc (i := 3) (x := nI i) (v := nI (i + 4)) (ls' := LSl D z0 (i + 4)) dL_law_913 rfl ?_ (by decide) rfl ?_
  · rw [← nI_add]; rfl
  · exact V_goto dL_law_916 (tgt := 18) rfl w
theorem law_sw {i : Nat} {x : Int32} (hi : i + 4 ≤ D.2.2.2.1) (hL : D.2.2.2.1 ≤ 2048) (hc : cells ≤ 600000) (hs : slots ≤ 7302250) (H : GR z0 σ) (hx : ∃ j, j < 32 ∧ x = nI j) (ih : ∀ τ, GR z0 τ → ∃ τ2, VL D z0 l 913 (LSl D z0 i) [] τ cells slots τ2) : ∃ τ2, VL D z0 l 32 (LSl D z0 i) [.int x] σ cells slots τ2 := by
  obtain ⟨j, hj, rfl⟩ := hx
  by_cases h : 27 ≤ j
  · obtain ⟨τ2, w⟩ := ih σ H
    refine ⟨τ2, ?_⟩
    refine V_tabOut dL_law_32 (Or.inr ?_) (tgt := 913) rfl w
    rw [nI_toInt (by omega)]
    omega
  · match j, h with
    | 0, _ =>
      obtain ⟨τ2, w⟩ := L_sender hi hL hc hs H ih
      exact ⟨τ2, V_tabAt (t := (nI 0, 156)) (i := 0) dL_law_32 law_tbok rfl w⟩
    | 1, _ =>
      obtain ⟨τ2, w⟩ := L_machine hi hL hc hs H ih
      exact ⟨τ2, V_tabAt (t := (nI 1, 189)) (i := 1) dL_law_32 law_tbok rfl w⟩
    | 2, _ =>
      obtain ⟨τ2, w⟩ := L_lamp hi hL hc hs H ih
      exact ⟨τ2, V_tabAt (t := (nI 2, 232)) (i := 2) dL_law_32 law_tbok rfl w⟩
    | 3, _ =>
      obtain ⟨τ2, w⟩ := L_remove hi hL hc hs H ih
      exact ⟨τ2, V_tabAt (t := (nI 3, 275)) (i := 3) dL_law_32 law_tbok rfl w⟩
    | 4, _ =>
      obtain ⟨τ2, w⟩ := L_say hi hL hc hs H ih
      exact ⟨τ2, V_tabAt (t := (nI 4, 308)) (i := 4) dL_law_32 law_tbok rfl w⟩
    | 5, _ =>
      obtain ⟨τ2, w⟩ := L_run hi hL hc hs H ih
      exact ⟨τ2, V_tabAt (t := (nI 5, 341)) (i := 5) dL_law_32 law_tbok rfl w⟩
    | 6, _ =>
      obtain ⟨τ2, w⟩ := L_set hi hL hc hs H ih
      exact ⟨τ2, V_tabAt (t := (nI 6, 390)) (i := 6) dL_law_32 law_tbok rfl w⟩
    | 7, _ =>
      obtain ⟨τ2, w⟩ := L_pass hi hL hc hs H ih
      exact ⟨τ2, V_tabAt (t := (nI 7, 423)) (i := 7) dL_law_32 law_tbok rfl w⟩
    | 8, _ =>
      obtain ⟨τ2, w⟩ := L_append hi hL hc hs H ih
      exact ⟨τ2, V_tabAt (t := (nI 8, 446)) (i := 8) dL_law_32 law_tbok rfl w⟩
    | 9, _ =>
      obtain ⟨τ2, w⟩ := L_clearText hi hL hc hs H ih
      exact ⟨τ2, V_tabAt (t := (nI 9, 469)) (i := 9) dL_law_32 law_tbok rfl w⟩
    | 10, _ =>
      obtain ⟨τ2, w⟩ := L_fault hi hL hc hs H ih
      exact ⟨τ2, V_tabAt (t := (nI 10, 482)) (i := 10) dL_law_32 law_tbok rfl w⟩
    | 11, _ =>
      obtain ⟨τ2, w⟩ := L_perform hi hL hc hs H ih
      exact ⟨τ2, V_tabAt (t := (nI 11, 495)) (i := 11) dL_law_32 law_tbok rfl w⟩
    | 12, _ =>
      obtain ⟨τ2, w⟩ := L_undo hi hL hc hs H ih
      exact ⟨τ2, V_tabAt (t := (nI 12, 508)) (i := 12) dL_law_32 law_tbok rfl w⟩
    | 13, _ =>
      obtain ⟨τ2, w⟩ := L_save hi hL hc hs H ih
      exact ⟨τ2, V_tabAt (t := (nI 13, 521)) (i := 13) dL_law_32 law_tbok rfl w⟩
    | 14, _ =>
      obtain ⟨τ2, w⟩ := L_restore hi hL hc hs H ih
      exact ⟨τ2, V_tabAt (t := (nI 14, 534)) (i := 14) dL_law_32 law_tbok rfl w⟩
    | 15, _ =>
      obtain ⟨τ2, w⟩ := L_senderOf hi hL hc hs H ih
      exact ⟨τ2, V_tabAt (t := (nI 15, 547)) (i := 15) dL_law_32 law_tbok rfl w⟩
    | 16, _ =>
      obtain ⟨τ2, w⟩ := L_queued hi hL hc hs H ih
      exact ⟨τ2, V_tabAt (t := (nI 16, 580)) (i := 16) dL_law_32 law_tbok rfl w⟩
    | 17, _ =>
      obtain ⟨τ2, w⟩ := L_machineOf hi hL hc hs H ih
      exact ⟨τ2, V_tabAt (t := (nI 17, 613)) (i := 17) dL_law_32 law_tbok rfl w⟩
    | 18, _ =>
      obtain ⟨τ2, w⟩ := L_lampOf hi hL hc hs H ih
      exact ⟨τ2, V_tabAt (t := (nI 18, 646)) (i := 18) dL_law_32 law_tbok rfl w⟩
    | 19, _ =>
      obtain ⟨τ2, w⟩ := L_receiver hi hL hc hs H ih
      exact ⟨τ2, V_tabAt (t := (nI 19, 679)) (i := 19) dL_law_32 law_tbok rfl w⟩
    | 20, _ =>
      obtain ⟨τ2, w⟩ := L_frame hi hL hc hs H ih
      exact ⟨τ2, V_tabAt (t := (nI 20, 712)) (i := 20) dL_law_32 law_tbok rfl w⟩
    | 21, _ =>
      obtain ⟨τ2, w⟩ := L_loss hi hL hc hs H ih
      exact ⟨τ2, V_tabAt (t := (nI 21, 745)) (i := 21) dL_law_32 law_tbok rfl w⟩
    | 22, _ =>
      obtain ⟨τ2, w⟩ := L_count hi hL hc hs H ih
      exact ⟨τ2, V_tabAt (t := (nI 22, 778)) (i := 22) dL_law_32 law_tbok rfl w⟩
    | 23, _ =>
      obtain ⟨τ2, w⟩ := L_total hi hL hc hs H ih
      exact ⟨τ2, V_tabAt (t := (nI 23, 801)) (i := 23) dL_law_32 law_tbok rfl w⟩
    | 24, _ =>
      obtain ⟨τ2, w⟩ := L_silentIn hi hL hc hs H ih
      exact ⟨τ2, V_tabAt (t := (nI 24, 824)) (i := 24) dL_law_32 law_tbok rfl w⟩
    | 25, _ =>
      obtain ⟨τ2, w⟩ := L_levelIn hi hL hc hs H ih
      exact ⟨τ2, V_tabAt (t := (nI 25, 837)) (i := 25) dL_law_32 law_tbok rfl w⟩
    | 26, _ =>
      obtain ⟨τ2, w⟩ := L_freshness hi hL hc hs H ih
      exact ⟨τ2, V_tabAt (t := (nI 26, 870)) (i := 26) dL_law_32 law_tbok rfl w⟩
    | j + 27, h => exact absurd (Nat.le_add_left 27 j) h
theorem law_exit {i : Nat} (hL : D.2.2.2.1 ≤ 2048) (hc : cells ≤ 600000) (hs : slots ≤ 7302250) (hi : i ≤ D.2.2.2.1 + 4) (hgo : ¬ i + 4 ≤ D.2.2.2.1) : VL D z0 l 18 (LSl D z0 i) [] σ cells slots σ := by
  refine V_iload_n (x := nI i) dL_law_18 rfl ?_
  refine V_aload_n (x := some D.2.2.1) dL_law_19 rfl ?_
  refine V_scrlen (K := fun _ => some ((1 : Int32), σ)) dL_law_20 ?_
  refine V_iconst (v := nI 4) dL_law_21 rfl ?_
  refine V_isub dL_law_22 ?_
  refine V_icmp_gtT dL_law_23 (tgt := 919) rfl ?_ ?_
  · show nI D.2.2.2.1 - nI 4 < nI i
    rw [Int32.lt_iff_toInt_lt, pk_sub_toInt (by omega) (by omega), nI_toInt (by omega)]
    omega
  · refine V_iconst (v := 1) dL_law_919 rfl ?_
    exact V_zret (v := 1) (fun _ => rfl) rfl hc hs dL_law_920
theorem law_loop (hL : D.2.2.2.1 ≤ 2048) (hc : cells ≤ 600000) (hs : slots ≤ 7302250) : ∀ (d i : Nat) (σ : SG), D.2.2.2.1 + 4 ≤ i + d → i ≤ D.2.2.2.1 + 4 → GR z0 σ → ∃ τ2, VL D z0 l 18 (LSl D z0 i) [] σ cells slots τ2 := by
  intro d
  induction d with
  | zero =>
    intro i σ h1 h2 H
    exact ⟨σ, law_exit hL hc hs h2 (by omega)⟩
  | succ d ih =>
    intro i σ h1 h2 H
    by_cases hgo : i + 4 ≤ D.2.2.2.1
    · have hx : ∃ j, j < 32 ∧ D.2.2.2.2 i &&& 31 = nI j := pk_andE (D.2.2.2.2 i) (m := 31) 5 (by decide)
      obtain ⟨τ2, w⟩ := law_sw hgo hL hc hs H hx (law_next (fun τ h => ih (i + 4) τ (by omega) (by omega) h))
      refine ⟨τ2, ?_⟩
      refine V_iload_n (x := nI i) dL_law_18 rfl ?_
      refine V_aload_n (x := some D.2.2.1) dL_law_19 rfl ?_
      refine V_scrlen (K := fun _ => some ((1 : Int32), τ2)) dL_law_20 ?_
      refine V_iconst (v := nI 4) dL_law_21 rfl ?_
      refine V_isub dL_law_22 ?_
      refine V_icmp_gtF dL_law_23 (tgt := 919) rfl ?_ ?_
      · show ¬ nI D.2.2.2.1 - nI 4 < nI i
        rw [Int32.lt_iff_toInt_lt, pk_sub_toInt (by omega) (by omega), nI_toInt (by omega)]
        omega
      · refine V_aload_n (x := some D.2.2.1) dL_law_26 rfl ?_
        refine V_iload_n (x := nI i) dL_law_27 rfl ?_
        refine V_scrP (i := i) (by omega) hL dL_law_28 ?_
        refine V_bipush (v := 31) dL_law_29 (by decide) ?_
        exact V_iand dL_law_31 w
    · exact ⟨σ, law_exit hL hc hs h2 hgo⟩
theorem OL_hupz {τ : SG} {e : CE} : (hup τ.1 τ.2 e, τ.2 + 1) = OL τ τ.2 1 (fun _ => e) := by
  have h := OL_zero (τ := τ) (e := e) (lim := τ.2 + 1) (Nat.le_refl _)
  unfold sNew at h
  rw [if_pos (Nat.le_refl _)] at h
  exact congrArg Prod.snd (Option.some.inj h)
theorem law_start (hL : D.2.2.2.1 ≤ 2048) (hσ : σ.2 = z0) : ∃ τ2, VL D z0 l 0 [some (.ref D.2.2.1), none, none, none, none, none, none, none] [] σ 0 0 τ2 := by
  subst hσ
  obtain ⟨τ2, w⟩ := law_loop (D := D) (l := l) (cells := 0 + 1 + rmX8_init.cells + 1 + rmX9_init.cells) (slots := 0 + 6 + rmX8_init.slots + 15 + rmX9_init.slots) hL (show 0 + 1 + 256 + 1 + 10 ≤ 600000 by omega) (show 0 + 6 + 204800 + 15 + 8000 ≤ 7302250 by omega) (D.2.2.2.1 + 4) 0 _ (by omega) (by omega) (GR_start (σ := σ) (n := σ.2))
  refine ⟨τ2, ?_⟩
  refine V_newL (ci := 7) (C := RX8) (T := TX8) (N := 6) (ty0 := tyX8) (fs := [.null, .null, .null, .int 0, .null, .null]) rfl inlX8 tyX8_ok (by decide +kernel) (by decide +kernel) (by decide +kernel) (fun j hj => ?_) (show 0 + 1 ≤ 600000 by omega) (show 0 + 6 ≤ 7302250 by omega) dL_law_0 ?_
  · rcases (show j = 0 ∨ j = 1 ∨ j = 2 ∨ j = 3 ∨ j = 4 ∨ j = 5 by omega) with rfl | rfl | rfl | rfl | rfl | rfl <;> rfl
  rw [OL_hupz]
  refine V_dup dL_law_3 rfl ?_
  refine V_callIP (ci := 7) (As := []) (st0 := [.ref σ.2]) (stI := [.ref σ.2, .ref σ.2]) (t_X8_init σ.2 (OL σ σ.2 1 (fun _ => e7))) (i_8 (σ := σ) (n := σ.2)) (OL_obj (k := 0) (by omega) rfl) rfl (Nat.le_of_ble_eq_true rfl) rfl (fun s args hts => cwI 0 hts gL_law_X8_init rfl rfl rfl (hts _ (by decide +kernel)) (hts _ (by decide +kernel)) (hts _ (by decide +kernel)) rfl (by decide +kernel) ⟨Nat.le_of_ble_eq_true rfl, Nat.le_of_ble_eq_true rfl⟩) ⟨show 0 + 1 + 256 ≤ 600000 by omega, show 0 + 6 + 204800 ≤ 7302250 by omega⟩ dL_law_4 ?_
  refine V_astore_n (x := some σ.2) (ls' := [some (.ref D.2.2.1), some (.ref σ.2), none, none, none, none, none, none]) dL_law_7 (by decide) rfl ?_
  refine V_newL (ci := 8) (C := RX9) (T := TX9) (N := 15) (ty0 := tyX9) (fs := [.null, .null, .null, .null, .null, .null, .null, .null, .null, .null, .int 0, .int 0, .int 0, .int 0, .int 0]) rfl inlX9 tyX9_ok (by decide +kernel) (by decide +kernel) (by decide +kernel) (fun j hj => ?_) (show 0 + 1 + 256 + 1 ≤ 600000 by omega) (show 0 + 6 + 204800 + 15 ≤ 7302250 by omega) dL_law_8 ?_
  · rcases (show j = 0 ∨ j = 1 ∨ j = 2 ∨ j = 3 ∨ j = 4 ∨ j = 5 ∨ j = 6 ∨ j = 7 ∨ j = 8 ∨ j = 9 ∨ j = 10 ∨ j = 11 ∨ j = 12 ∨ j = 13 ∨ j = 14 by omega) with rfl | rfl | rfl | rfl | rfl | rfl | rfl | rfl | rfl | rfl | rfl | rfl | rfl | rfl | rfl <;> rfl
  rw [OL_hupz]
  refine V_dup dL_law_11 rfl ?_
  refine V_callIP (ci := 8) (As := []) (st0 := [.ref (σ.2 + 257)]) (stI := [.ref (σ.2 + 257), .ref (σ.2 + 257)]) (t_X9_init (σ.2 + 257) (OL (OL σ σ.2 257 (cMn σ.2)) (σ.2 + 257) 1 (fun _ => e8))) (i_9 (σ := OL σ σ.2 257 (cMn σ.2)) (n := σ.2 + 257)) (OL_obj (k := 0) (by omega) rfl) rfl (Nat.le_of_ble_eq_true rfl) rfl (fun s args hts => cwI 0 hts gL_law_X9_init rfl rfl rfl (hts _ (by decide +kernel)) (hts _ (by decide +kernel)) (hts _ (by decide +kernel)) rfl (by decide +kernel) ⟨Nat.le_of_ble_eq_true rfl, Nat.le_of_ble_eq_true rfl⟩) ⟨show 0 + 1 + 256 + 1 + 10 ≤ 600000 by omega, show 0 + 6 + 204800 + 15 + 8000 ≤ 7302250 by omega⟩ dL_law_12 ?_
  refine V_astore_n (x := some (σ.2 + 257)) (ls' := [some (.ref D.2.2.1), some (.ref σ.2), some (.ref (σ.2 + 257)), none, none, none, none, none]) dL_law_15 (by decide) rfl ?_
  refine V_iconst (v := nI 0) dL_law_16 rfl ?_
  exact V_istore_n (x := nI 0) (ls' := LSl D σ.2 0) dL_law_17 (by decide) rfl w
end LLOOP
