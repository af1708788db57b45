theorem in_X9_beat_X9 : ∀ w ∈ u_ws RX9 TX9 15, w ∈ wsX9_beat := by decide +kernel
theorem wd_X9_beat_1 : Cond.fieldLink RX9 7 "MainsWordsModel" "s" "[I" ∈ wsX9_beat := by decide +kernel
theorem fd_X9_beat_7_X9 : FD RX9 7 wsX9_beat 8 0 := ⟨RX9, "MainsWordsModel", TX9, 15, rfl, in_X9_beat_X9, by decide, wd_X9_beat_1, Or.inl rfl⟩
set_option maxRecDepth 100000 in
set_option maxHeartbeats 4000000 in
theorem v_X9_beat_B51 {D : DG} {z0 : Nat} {l : Launch} {rec51 : Option Nat → Int32 → SG → Option (Unit × SG)} (hrec51 : ∀ (v0 : Option Nat) (v1 : Int32) (σ : SG), V D z0 l RX9 cX9_beat 2 wsX9_beat none rmX9_beat false tvU 51 [some (va_rf v0), some (.int v1)] [] σ 0 0 (rec51 v0 v1 σ)) : ∀ (v0 : Option Nat) (v1 : Int32) (σ : SG), V D z0 l RX9 cX9_beat 2 wsX9_beat none rmX9_beat false tvU 51 [some (va_rf v0), some (.int v1)] [] σ 0 0 (m_X9_beat_B51 rec51 v0 v1 σ) := by
  intro v0 v1 σ
  unfold m_X9_beat_B51
  refine V_iload_n (x := v1) dX9_beat_51 rfl ?_
  refine V_bipush (v := (6 : Int32)) dX9_beat_52 rfl ?_
  refine V_icmp_ge (tgt := 68) (x := v1) (y := (6 : Int32)) dX9_beat_54 (by decide) (fun hc1 => ?_) (fun hc1 => ?_)
  · refine V_aload_n (x := v0) dX9_beat_68 rfl ?_
    refine V_getR fd_X9_beat_7_X9 dX9_beat_69 (fun x2 => ?_)
    refine V_iconst (v := (4 : Int32)) dX9_beat_72 rfl ?_
    refine V_dup2 dX9_beat_73 rfl (va_rf_cat _) ?_
    refine V_iaload dX9_beat_74 (fun x3 => ?_)
    refine V_iconst (v := (1 : Int32)) dX9_beat_75 rfl ?_
    refine V_iadd (x := x3) (y := (1 : Int32)) dX9_beat_76 ?_
    refine V_iastore dX9_beat_77 (fun σ4 hσ4 => ?_)
    exact V_vret (fun _ => rfl) rfl (Nat.zero_le _) (Nat.zero_le _) dX9_beat_78
  · refine V_aload_n (x := v0) dX9_beat_57 rfl ?_
    refine V_iload_n (x := v1) dX9_beat_58 rfl ?_
    refine V_callV0 (As := [.int v1]) (st0 := []) (stI := [.int v1, va_rf v0]) (fun _ h => by cases h; exact t_X9_take _ v1 σ) (q := (RX9, TX9, 15)) rfl rfl rfl (Nat.le_of_ble_eq_true rfl) rfl (fun s args hts => cwV 1 hts gX9_beat_X9_take rfl rfl rfl (by decide +kernel) ⟨Nat.le_of_ble_eq_true rfl, Nat.le_of_ble_eq_true rfl⟩) rfl rfl dX9_beat_59 (fun _ σ5 _ => ?_)
    refine V_iinc (x := v1) (v := (v1 + 1)) (ls' := [some (va_rf v0), some (.int (v1 + 1))]) dX9_beat_62 rfl rfl (by decide) rfl ?_
    refine V_goto (tgt := 51) dX9_beat_65 (by decide) ?_
    exact hrec51 v0 ((v1 + 1)) σ5
theorem v_X9_beat_L51 {D : DG} {z0 : Nat} {l : Launch} : ∀ (n : Nat) (v0 : Option Nat) (v1 : Int32) (σ : SG), V D z0 l RX9 cX9_beat 2 wsX9_beat none rmX9_beat false tvU 51 [some (va_rf v0), some (.int v1)] [] σ 0 0 (m_X9_beat_L51 n v0 v1 σ) := by
  intro n
  induction n with
  | zero => intros; exact V_none
  | succ n ih => exact v_X9_beat_B51  ih
set_option maxRecDepth 100000 in
set_option maxHeartbeats 4000000 in
theorem v_X9_beat_b43 {D : DG} {z0 : Nat} {l : Launch} {rec10 : Option Nat → Int32 → SG → Option (Unit × SG)} (hrec10 : ∀ (v0 : Option Nat) (v1 : Int32) (σ : SG), V D z0 l RX9 cX9_beat 2 wsX9_beat none rmX9_beat false tvU 10 [some (va_rf v0), some (.int v1)] [] σ 0 0 (rec10 v0 v1 σ)) : ∀ (v0 : Option Nat) (v1 : Int32) (σ : SG), V D z0 l RX9 cX9_beat 2 wsX9_beat none rmX9_beat false tvU 43 [some (va_rf v0), some (.int v1)] [] σ 0 0 (m_X9_beat_b43 rec10 v0 v1 σ) := by
  intro v0 v1 σ
  unfold m_X9_beat_b43
  refine V_iinc (x := v1) (v := (v1 + 1)) (ls' := [some (va_rf v0), some (.int (v1 + 1))]) dX9_beat_43 rfl rfl (by decide) rfl ?_
  refine V_goto (tgt := 10) dX9_beat_46 (by decide) ?_
  exact hrec10 v0 ((v1 + 1)) σ
set_option maxRecDepth 100000 in
set_option maxHeartbeats 4000000 in
theorem v_X9_beat_B10 {D : DG} {z0 : Nat} {l : Launch} {rec10 : Option Nat → Int32 → SG → Option (Unit × SG)} (hrec10 : ∀ (v0 : Option Nat) (v1 : Int32) (σ : SG), V D z0 l RX9 cX9_beat 2 wsX9_beat none rmX9_beat false tvU 10 [some (va_rf v0), some (.int v1)] [] σ 0 0 (rec10 v0 v1 σ)) : ∀ (v0 : Option Nat) (v1 : Int32) (σ : SG), V D z0 l RX9 cX9_beat 2 wsX9_beat none rmX9_beat false tvU 10 [some (va_rf v0), some (.int v1)] [] σ 0 0 (m_X9_beat_B10 rec10 v0 v1 σ) := by
  intro v0 v1 σ
  unfold m_X9_beat_B10
  refine V_iload_n (x := v1) dX9_beat_10 rfl ?_
  refine V_iconst (v := (5 : Int32)) dX9_beat_11 rfl ?_
  refine V_icmp_ge (tgt := 49) (x := v1) (y := (5 : Int32)) dX9_beat_12 (by decide) (fun hc6 => ?_) (fun hc6 => ?_)
  · refine V_iconst (v := (0 : Int32)) dX9_beat_49 rfl ?_
    refine V_istore_n (x := (0 : Int32)) (ls' := [some (va_rf v0), some (.int (0 : Int32))]) dX9_beat_50 (by decide) rfl ?_
    exact v_X9_beat_L51  1000 v0 ((0 : Int32)) σ
  · refine V_aload_n (x := v0) dX9_beat_15 rfl ?_
    refine V_iload_n (x := v1) dX9_beat_16 rfl ?_
    refine V_callV0 (As := [.int v1]) (st0 := []) (stI := [.int v1, va_rf v0]) (fun _ h => by cases h; exact t_X9_isSender _ v1 σ) (q := (RX9, TX9, 15)) rfl rfl rfl (Nat.le_of_ble_eq_true rfl) rfl (fun s args hts => cwV 1 hts gX9_beat_X9_isSender rfl rfl rfl (by decide +kernel) ⟨Nat.le_of_ble_eq_true rfl, Nat.le_of_ble_eq_true rfl⟩) rfl rfl dX9_beat_17 (fun r7 σ8 _ => ?_)
    refine V_if_eq (tgt := 43) (x := r7) dX9_beat_20 (by decide) (fun hc9 => ?_) (fun hc9 => ?_)
    · exact v_X9_beat_b43 hrec10 v0 v1 σ8
    · refine V_aload_n (x := v0) dX9_beat_23 rfl ?_
      refine V_getR fd_X9_beat_7_X9 dX9_beat_24 (fun x10 => ?_)
      refine V_iload_n (x := v1) dX9_beat_27 rfl ?_
      refine V_callS0 (As := [.int v1]) (st0 := [va_rf x10]) (stI := [.int v1, va_rf x10]) (t_X9_n v1 σ8) rfl (by simp only [List.map_cons, List.map_nil, List.sum_cons, List.sum_nil, va_rf_cat, catI, catF]; decide) rfl (fun s args hts => va_cwS 1 hts gX9_beat_X9_n rfl rfl rfl (by decide +kernel) ⟨Nat.le_of_ble_eq_true rfl, Nat.le_of_ble_eq_true rfl⟩) rfl rfl dX9_beat_28 (fun r11 σ12 _ => ?_)
      refine V_iconst (v := (4 : Int32)) dX9_beat_31 rfl ?_
      refine V_iadd (x := r11) (y := (4 : Int32)) dX9_beat_32 ?_
      refine V_iaload dX9_beat_33 (fun x13 => ?_)
      refine V_iconst (v := (1 : Int32)) dX9_beat_34 rfl ?_
      refine V_icmp_ne (tgt := 43) (x := x13) (y := (1 : Int32)) dX9_beat_35 (by decide) (fun hc14 => ?_) (fun hc14 => ?_)
      · refine V_aload_n (x := v0) dX9_beat_38 rfl ?_
        refine V_iload_n (x := v1) dX9_beat_39 rfl ?_
        refine V_callV0 (As := [.int v1]) (st0 := []) (stI := [.int v1, va_rf v0]) (fun _ h => by cases h; exact t_X9_goOn _ v1 σ12) (q := (RX9, TX9, 15)) rfl rfl rfl (Nat.le_of_ble_eq_true rfl) rfl (fun s args hts => cwV 1 hts gX9_beat_X9_goOn rfl rfl rfl (by decide +kernel) ⟨Nat.le_of_ble_eq_true rfl, Nat.le_of_ble_eq_true rfl⟩) rfl rfl dX9_beat_40 (fun _ σ15 _ => ?_)
        exact v_X9_beat_b43 hrec10 v0 v1 σ15
      · exact v_X9_beat_b43 hrec10 v0 v1 σ12
theorem v_X9_beat_L10 {D : DG} {z0 : Nat} {l : Launch} : ∀ (n : Nat) (v0 : Option Nat) (v1 : Int32) (σ : SG), V D z0 l RX9 cX9_beat 2 wsX9_beat none rmX9_beat false tvU 10 [some (va_rf v0), some (.int v1)] [] σ 0 0 (m_X9_beat_L10 n v0 v1 σ) := by
  intro n
  induction n with
  | zero => intros; exact V_none
  | succ n ih => exact v_X9_beat_B10  ih
set_option maxRecDepth 100000 in
set_option maxHeartbeats 4000000 in
theorem v_X9_beat {D : DG} {z0 : Nat} {l : Launch} : ∀ (a0 : Option Nat) (σ : SG), V D z0 l RX9 cX9_beat 2 wsX9_beat none rmX9_beat false tvU 0 [some (va_rf a0), none] [] σ 0 0 (m_X9_beat a0 σ) := by
  intro a0 σ
  unfold m_X9_beat
  refine V_aload_n (x := a0) dX9_beat_0 rfl ?_
  refine V_callV0 (As := []) (st0 := []) (stI := [va_rf a0]) (fun _ h => by cases h; exact t_X9_begin _ σ) (q := (RX9, TX9, 15)) rfl rfl rfl (Nat.le_of_ble_eq_true rfl) rfl (fun s args hts => cwV 0 hts gX9_beat_X9_begin rfl rfl rfl (by decide +kernel) ⟨Nat.le_of_ble_eq_true rfl, Nat.le_of_ble_eq_true rfl⟩) rfl rfl dX9_beat_1 (fun _ σ16 _ => ?_)
  refine V_aload_n (x := a0) dX9_beat_4 rfl ?_
  refine V_callV0 (As := []) (st0 := []) (stI := [va_rf a0]) (fun _ h => by cases h; exact t_X9_send _ σ16) (q := (RX9, TX9, 15)) rfl rfl rfl (Nat.le_of_ble_eq_true rfl) rfl (fun s args hts => cwV 0 hts gX9_beat_X9_send rfl rfl rfl (by decide +kernel) ⟨Nat.le_of_ble_eq_true rfl, Nat.le_of_ble_eq_true rfl⟩) rfl rfl dX9_beat_5 (fun _ σ17 _ => ?_)
  refine V_iconst (v := (0 : Int32)) dX9_beat_8 rfl ?_
  refine V_istore_n (x := (0 : Int32)) (ls' := [some (va_rf a0), some (.int (0 : Int32))]) dX9_beat_9 (by decide) rfl ?_
  exact v_X9_beat_L10  1000 a0 ((0 : Int32)) σ17
theorem t_X9_beat {D : DG} {z0 : Nat} {l : Launch} (a : Nat)  (σ : SG) : MT D z0 l yX9_beat wsX9_beat rmX9_beat tvU [.ref a] σ (m_X9_beat (some a) σ) :=
  MT.of (own := RX9) (cc := cX9_beat) (nL := 2) (ret := none) (ct := false) (by decide) rfl rfl (fun h => by cases h) (Nat.le_of_ble_eq_true rfl) (by intro v hv; simp only [List.mem_cons, List.not_mem_nil, or_false] at hv; first | (rcases hv with rfl <;> first | rfl | exact va_rf_cat _) | exact absurd hv (fun h => h)) (v_X9_beat (some a) σ)
theorem in_X9_says_X9 : ∀ w ∈ u_ws RX9 TX9 15, w ∈ wsX9_says := by decide +kernel
theorem wd_X9_says_1 : Cond.fieldLink RX9 7 "MainsWordsModel" "s" "[I" ∈ wsX9_says := by decide +kernel
theorem fd_X9_says_7_X9 : FD RX9 7 wsX9_says 8 0 := ⟨RX9, "MainsWordsModel", TX9, 15, rfl, in_X9_says_X9, by decide, wd_X9_says_1, Or.inl rfl⟩
set_option maxRecDepth 100000 in
set_option maxHeartbeats 4000000 in
theorem v_X9_says {D : DG} {z0 : Nat} {l : Launch} : ∀ (a0 : Option Nat) (a1 : Int32) (a2 : Int32) (σ : SG), V D z0 l RX9 cX9_says 4 wsX9_says (some .int) rmX9_says false tvI 0 [some (va_rf a0), some (.int a1), some (.int a2), none] [] σ 0 0 (m_X9_says a0 a1 a2 σ) := by
  intro a0 a1 a2 σ
  unfold m_X9_says
  refine V_aload_n (x := a0) dX9_says_0 rfl ?_
  refine V_iload_n (x := a1) dX9_says_1 rfl ?_
  refine V_callV0 (As := [.int a1]) (st0 := []) (stI := [.int a1, va_rf a0]) (fun _ h => by cases h; exact t_X9_isSender _ a1 σ) (q := (RX9, TX9, 15)) rfl rfl rfl (Nat.le_of_ble_eq_true rfl) rfl (fun s args hts => cwV 1 hts gX9_says_X9_isSender rfl rfl rfl (by decide +kernel) ⟨Nat.le_of_ble_eq_true rfl, Nat.le_of_ble_eq_true rfl⟩) rfl rfl dX9_says_2 (fun r1 σ2 _ => ?_)
  refine V_if_ne (tgt := 10) (x := r1) dX9_says_5 (by decide) (fun hc3 => ?_) (fun hc3 => ?_)
  · refine V_iconst (v := (-1 : Int32)) dX9_says_8 rfl ?_
    exact V_iret (fun _ => rfl) rfl (Nat.zero_le _) (Nat.zero_le _) dX9_says_9
  · refine V_iload_n (x := a2) dX9_says_10 rfl ?_
    refine V_iconst (v := (0 : Int32)) dX9_says_11 rfl ?_
    refine V_bipush (v := (31 : Int32)) dX9_says_12 rfl ?_
    refine V_callS0 (As := [.int a2, .int (0 : Int32), .int (31 : Int32)]) (st0 := []) (stI := [.int (31 : Int32), .int (0 : Int32), .int a2]) (t_X9_in a2 (0 : Int32) (31 : Int32) σ2) rfl (Nat.le_of_ble_eq_true rfl) rfl (fun s args hts => va_cwS 3 hts gX9_says_X9_in rfl rfl rfl (by decide +kernel) ⟨Nat.le_of_ble_eq_true rfl, Nat.le_of_ble_eq_true rfl⟩) rfl rfl dX9_says_14 (fun r4 σ5 _ => ?_)
    refine V_if_ne (tgt := 23) (x := r4) dX9_says_17 (by decide) (fun hc6 => ?_) (fun hc6 => ?_)
    · refine V_bipush (v := (-2 : Int32)) dX9_says_20 rfl ?_
      exact V_iret (fun _ => rfl) rfl (Nat.zero_le _) (Nat.zero_le _) dX9_says_22
    · refine V_iload_n (x := a1) dX9_says_23 rfl ?_
      refine V_callS0 (As := [.int a1]) (st0 := []) (stI := [.int a1]) (t_X9_n a1 σ5) rfl (Nat.le_of_ble_eq_true rfl) rfl (fun s args hts => va_cwS 1 hts gX9_says_X9_n rfl rfl rfl (by decide +kernel) ⟨Nat.le_of_ble_eq_true rfl, Nat.le_of_ble_eq_true rfl⟩) rfl rfl dX9_says_24 (fun r7 σ8 _ => ?_)
      refine V_istore_n (x := r7) (ls' := [some (va_rf a0), some (.int a1), some (.int a2), some (.int r7)]) dX9_says_27 (by decide) rfl ?_
      refine V_aload_n (x := a0) dX9_says_28 rfl ?_
      refine V_getR fd_X9_says_7_X9 dX9_says_29 (fun x9 => ?_)
      refine V_iload_n (x := r7) dX9_says_32 rfl ?_
      refine V_iconst (v := (3 : Int32)) dX9_says_33 rfl ?_
      refine V_iadd (x := r7) (y := (3 : Int32)) dX9_says_34 ?_
      refine V_iaload dX9_says_35 (fun x10 => ?_)
      refine V_bipush (v := (6 : Int32)) dX9_says_36 rfl ?_
      refine V_icmp_ne (tgt := 44) (x := x10) (y := (6 : Int32)) dX9_says_38 (by decide) (fun hc11 => ?_) (fun hc11 => ?_)
      · refine V_bipush (v := (-3 : Int32)) dX9_says_41 rfl ?_
        exact V_iret (fun _ => rfl) rfl (Nat.zero_le _) (Nat.zero_le _) dX9_says_43
      · refine V_aload_n (x := a0) dX9_says_44 rfl ?_
        refine V_getR fd_X9_says_7_X9 dX9_says_45 (fun x12 => ?_)
        refine V_iload_n (x := r7) dX9_says_48 rfl ?_
        refine V_bipush (v := (8 : Int32)) dX9_says_49 rfl ?_
        refine V_iadd (x := r7) (y := (8 : Int32)) dX9_says_51 ?_
        refine V_aload_n (x := a0) dX9_says_52 rfl ?_
        refine V_getR fd_X9_says_7_X9 dX9_says_53 (fun x13 => ?_)
        refine V_iload_n (x := r7) dX9_says_56 rfl ?_
        refine V_iconst (v := (3 : Int32)) dX9_says_57 rfl ?_
        refine V_iadd (x := r7) (y := (3 : Int32)) dX9_says_58 ?_
        refine V_iaload dX9_says_59 (fun x14 => ?_)
        refine V_iadd (x := (r7 + (8 : Int32))) (y := x14) dX9_says_60 ?_
        refine V_iload_n (x := a2) dX9_says_61 rfl ?_
        refine V_iastore dX9_says_62 (fun σ15 hσ15 => ?_)
        refine V_aload_n (x := a0) dX9_says_63 rfl ?_
        refine V_getR fd_X9_says_7_X9 dX9_says_64 (fun x16 => ?_)
        refine V_iload_n (x := r7) dX9_says_67 rfl ?_
        refine V_iconst (v := (3 : Int32)) dX9_says_68 rfl ?_
        refine V_iadd (x := r7) (y := (3 : Int32)) dX9_says_69 ?_
        refine V_dup2 dX9_says_70 rfl (va_rf_cat _) ?_
        refine V_iaload dX9_says_71 (fun x17 => ?_)
        refine V_iconst (v := (1 : Int32)) dX9_says_72 rfl ?_
        refine V_iadd (x := x17) (y := (1 : Int32)) dX9_says_73 ?_
        refine V_iastore dX9_says_74 (fun σ18 hσ18 => ?_)
        refine V_aload_n (x := a0) dX9_says_75 rfl ?_
        refine V_getR fd_X9_says_7_X9 dX9_says_76 (fun x19 => ?_)
        refine V_iload_n (x := r7) dX9_says_79 rfl ?_
        refine V_iconst (v := (3 : Int32)) dX9_says_80 rfl ?_
        refine V_iadd (x := r7) (y := (3 : Int32)) dX9_says_81 ?_
        refine V_iaload dX9_says_82 (fun x20 => ?_)
        exact V_iret (fun _ => rfl) rfl (Nat.zero_le _) (Nat.zero_le _) dX9_says_83
theorem t_X9_says {D : DG} {z0 : Nat} {l : Launch} (a : Nat) (a1 : Int32) (a2 : Int32) (σ : SG) : MT D z0 l yX9_says wsX9_says rmX9_says tvI [.ref a, .int a1, .int a2] σ (m_X9_says (some a) a1 a2 σ) :=
  MT.of (own := RX9) (cc := cX9_says) (nL := 4) (ret := (some .int)) (ct := false) (by decide) rfl rfl (fun h => by cases h) (Nat.le_of_ble_eq_true rfl) (by intro v hv; simp only [List.mem_cons, List.not_mem_nil, or_false] at hv; first | (rcases hv with rfl | rfl | rfl <;> first | rfl | exact va_rf_cat _) | exact absurd hv (fun h => h)) (v_X9_says (some a) a1 a2 σ)
theorem in_X9_passes_X9 : ∀ w ∈ u_ws RX9 TX9 15, w ∈ wsX9_passes := by decide +kernel
theorem wd_X9_passes_1 : Cond.fieldLink RX9 7 "MainsWordsModel" "s" "[I" ∈ wsX9_passes := by decide +kernel
theorem fd_X9_passes_7_X9 : FD RX9 7 wsX9_passes 8 0 := ⟨RX9, "MainsWordsModel", TX9, 15, rfl, in_X9_passes_X9, by decide, wd_X9_passes_1, Or.inl rfl⟩
set_option maxRecDepth 100000 in
set_option maxHeartbeats 4000000 in
theorem v_X9_passes_B23 {D : DG} {z0 : Nat} {l : Launch} {rec23 : Option Nat → Int32 → Int32 → Int32 → SG → Option (Int32 × SG)} (hrec23 : ∀ (v0 : Option Nat) (v1 : Int32) (v2 : Int32) (v3 : Int32) (σ : SG), V D z0 l RX9 cX9_passes 4 wsX9_passes (some .int) rmX9_passes false tvI 23 [some (va_rf v0), some (.int v1), some (.int v2), some (.int v3)] [] σ 0 0 (rec23 v0 v1 v2 v3 σ)) : ∀ (v0 : Option Nat) (v1 : Int32) (v2 : Int32) (v3 : Int32) (σ : SG), V D z0 l RX9 cX9_passes 4 wsX9_passes (some .int) rmX9_passes false tvI 23 [some (va_rf v0), some (.int v1), some (.int v2), some (.int v3)] [] σ 0 0 (m_X9_passes_B23 rec23 v0 v1 v2 v3 σ) := by
  intro v0 v1 v2 v3 σ
  unfold m_X9_passes_B23
  refine V_iload_n (x := v3) dX9_passes_23 rfl ?_
  refine V_iload_n (x := v1) dX9_passes_24 rfl ?_
  refine V_icmp_ge (tgt := 38) (x := v3) (y := v1) dX9_passes_25 (by decide) (fun hc1 => ?_) (fun hc1 => ?_)
  · refine V_aload_n (x := v0) dX9_passes_38 rfl ?_
    refine V_getR fd_X9_passes_7_X9 dX9_passes_39 (fun x2 => ?_)
    refine V_bipush (v := (7 : Int32)) dX9_passes_42 rfl ?_
    refine V_iaload dX9_passes_44 (fun x3 => ?_)
    refine V_iload_n (x := v2) dX9_passes_45 rfl ?_
    refine V_isub (x := x3) (y := v2) dX9_passes_46 ?_
    exact V_iret (fun _ => rfl) rfl (Nat.zero_le _) (Nat.zero_le _) dX9_passes_47
  · refine V_aload_n (x := v0) dX9_passes_28 rfl ?_
    refine V_callV0 (As := []) (st0 := []) (stI := [va_rf v0]) (fun _ h => by cases h; exact t_X9_beat _ σ) (q := (RX9, TX9, 15)) rfl rfl rfl (Nat.le_of_ble_eq_true rfl) rfl (fun s args hts => cwV 0 hts gX9_passes_X9_beat rfl rfl rfl (by decide +kernel) ⟨Nat.le_of_ble_eq_true rfl, Nat.le_of_ble_eq_true rfl⟩) rfl rfl dX9_passes_29 (fun _ σ4 _ => ?_)
    refine V_iinc (x := v3) (v := (v3 + 1)) (ls' := [some (va_rf v0), some (.int v1), some (.int v2), some (.int (v3 + 1))]) dX9_passes_32 rfl rfl (by decide) rfl ?_
    refine V_goto (tgt := 23) dX9_passes_35 (by decide) ?_
    exact hrec23 v0 v1 v2 ((v3 + 1)) σ4
theorem v_X9_passes_L23 {D : DG} {z0 : Nat} {l : Launch} : ∀ (n : Nat) (v0 : Option Nat) (v1 : Int32) (v2 : Int32) (v3 : Int32) (σ : SG), V D z0 l RX9 cX9_passes 4 wsX9_passes (some .int) rmX9_passes false tvI 23 [some (va_rf v0), some (.int v1), some (.int v2), some (.int v3)] [] σ 0 0 (m_X9_passes_L23 n v0 v1 v2 v3 σ) := by
  intro n
  induction n with
  | zero => intros; exact V_none
  | succ n ih => exact v_X9_passes_B23  ih
set_option maxRecDepth 100000 in
set_option maxHeartbeats 4000000 in
theorem v_X9_passes {D : DG} {z0 : Nat} {l : Launch} : ∀ (a0 : Option Nat) (a1 : Int32) (σ : SG), V D z0 l RX9 cX9_passes 4 wsX9_passes (some .int) rmX9_passes false tvI 0 [some (va_rf a0), some (.int a1), none, none] [] σ 0 0 (m_X9_passes a0 a1 σ) := by
  intro a0 a1 σ
  unfold m_X9_passes
  refine V_iload_n (x := a1) dX9_passes_0 rfl ?_
  refine V_iconst (v := (1 : Int32)) dX9_passes_1 rfl ?_
  refine V_bipush (v := (99 : Int32)) dX9_passes_2 rfl ?_
  refine V_callS0 (As := [.int a1, .int (1 : Int32), .int (99 : Int32)]) (st0 := []) (stI := [.int (99 : Int32), .int (1 : Int32), .int a1]) (t_X9_in a1 (1 : Int32) (99 : Int32) σ) rfl (Nat.le_of_ble_eq_true rfl) rfl (fun s args hts => va_cwS 3 hts gX9_passes_X9_in rfl rfl rfl (by decide +kernel) ⟨Nat.le_of_ble_eq_true rfl, Nat.le_of_ble_eq_true rfl⟩) rfl rfl dX9_passes_4 (fun r5 σ6 _ => ?_)
  refine V_if_ne (tgt := 13) (x := r5) dX9_passes_7 (by decide) (fun hc7 => ?_) (fun hc7 => ?_)
  · refine V_bipush (v := (-2 : Int32)) dX9_passes_10 rfl ?_
    exact V_iret (fun _ => rfl) rfl (Nat.zero_le _) (Nat.zero_le _) dX9_passes_12
  · refine V_aload_n (x := a0) dX9_passes_13 rfl ?_
    refine V_getR fd_X9_passes_7_X9 dX9_passes_14 (fun x8 => ?_)
    refine V_bipush (v := (7 : Int32)) dX9_passes_17 rfl ?_
    refine V_iaload dX9_passes_19 (fun x9 => ?_)
    refine V_istore_n (x := x9) (ls' := [some (va_rf a0), some (.int a1), some (.int x9), none]) dX9_passes_20 (by decide) rfl ?_
    refine V_iconst (v := (0 : Int32)) dX9_passes_21 rfl ?_
    refine V_istore_n (x := (0 : Int32)) (ls' := [some (va_rf a0), some (.int a1), some (.int x9), some (.int (0 : Int32))]) dX9_passes_22 (by decide) rfl ?_
    exact v_X9_passes_L23  1000 a0 a1 x9 ((0 : Int32)) σ6
theorem t_X9_passes {D : DG} {z0 : Nat} {l : Launch} (a : Nat) (a1 : Int32) (σ : SG) : MT D z0 l yX9_passes wsX9_passes rmX9_passes tvI [.ref a, .int a1] σ (m_X9_passes (some a) a1 σ) :=
  MT.of (own := RX9) (cc := cX9_passes) (nL := 4) (ret := (some .int)) (ct := false) (by decide) rfl rfl (fun h => by cases h) (Nat.le_of_ble_eq_true rfl) (by intro v hv; simp only [List.mem_cons, List.not_mem_nil, or_false] at hv; first | (rcases hv with rfl | rfl <;> first | rfl | exact va_rf_cat _) | exact absurd hv (fun h => h)) (v_X9_passes (some a) a1 σ)
theorem in_X9_free_X9 : ∀ w ∈ u_ws RX9 TX9 15, w ∈ wsX9_free := by decide +kernel
theorem wd_X9_free_1 : Cond.fieldLink RX9 7 "MainsWordsModel" "s" "[I" ∈ wsX9_free := by decide +kernel
theorem fd_X9_free_7_X9 : FD RX9 7 wsX9_free 8 0 := ⟨RX9, "MainsWordsModel", TX9, 15, rfl, in_X9_free_X9, by decide, wd_X9_free_1, Or.inl rfl⟩
set_option maxRecDepth 100000 in
set_option maxHeartbeats 4000000 in
theorem v_X9_free_B3 {D : DG} {z0 : Nat} {l : Launch} {rec3 : Option Nat → Int32 → Int32 → Int32 → Int32 → SG → Option (Int32 × SG)} (hrec3 : ∀ (v0 : Option Nat) (v1 : Int32) (v2 : Int32) (v3 : Int32) (v4 : Int32) (σ : SG), V D z0 l RX9 cX9_free 5 wsX9_free (some .int) rmX9_free false tvI 3 [some (va_rf v0), some (.int v1), some (.int v2), some (.int v3), some (.int v4)] [] σ 0 0 (rec3 v0 v1 v2 v3 v4 σ)) : ∀ (v0 : Option Nat) (v1 : Int32) (v2 : Int32) (v3 : Int32) (v4 : Int32) (σ : SG), V D z0 l RX9 cX9_free 5 wsX9_free (some .int) rmX9_free false tvI 3 [some (va_rf v0), some (.int v1), some (.int v2), some (.int v3), some (.int v4)] [] σ 0 0 (m_X9_free_B3 rec3 v0 v1 v2 v3 v4 σ) := by
  intro v0 v1 v2 v3 v4 σ
  unfold m_X9_free_B3
  refine V_iload (x := v4) dX9_free_3 rfl ?_
  refine V_iload_n (x := v3) dX9_free_5 rfl ?_
  refine V_icmp_ge (tgt := 30) (x := v4) (y := v3) dX9_free_6 (by decide) (fun hc1 => ?_) (fun hc1 => ?_)
  · refine V_iload (x := v4) dX9_free_30 rfl ?_
    exact V_iret (fun _ => rfl) rfl (Nat.zero_le _) (Nat.zero_le _) dX9_free_32
  · refine V_aload_n (x := v0) dX9_free_9 rfl ?_
    refine V_getR fd_X9_free_7_X9 dX9_free_10 (fun x2 => ?_)
    refine V_iload_n (x := v1) dX9_free_13 rfl ?_
    refine V_iload_n (x := v2) dX9_free_14 rfl ?_
    refine V_iload (x := v4) dX9_free_15 rfl ?_
    refine V_imul (x := v2) (y := v4) dX9_free_17 ?_
    refine V_iadd (x := v1) (y := (v2 * v4)) dX9_free_18 ?_
    refine V_iaload dX9_free_19 (fun x3 => ?_)
    refine V_iconst (v := (1 : Int32)) dX9_free_20 rfl ?_
    refine V_icmp_ne (tgt := 30) (x := x3) (y := (1 : Int32)) dX9_free_21 (by decide) (fun hc4 => ?_) (fun hc4 => ?_)
    · refine V_iinc (x := v4) (v := (v4 + 1)) (ls' := [some (va_rf v0), some (.int v1), some (.int v2), some (.int v3), some (.int (v4 + 1))]) dX9_free_24 rfl rfl (by decide) rfl ?_
      refine V_goto (tgt := 3) dX9_free_27 (by decide) ?_
      exact hrec3 v0 v1 v2 v3 ((v4 + 1)) σ
    · refine V_iload (x := v4) dX9_free_30 rfl ?_
      exact V_iret (fun _ => rfl) rfl (Nat.zero_le _) (Nat.zero_le _) dX9_free_32
theorem v_X9_free_L3 {D : DG} {z0 : Nat} {l : Launch} : ∀ (n : Nat) (v0 : Option Nat) (v1 : Int32) (v2 : Int32) (v3 : Int32) (v4 : Int32) (σ : SG), V D z0 l RX9 cX9_free 5 wsX9_free (some .int) rmX9_free false tvI 3 [some (va_rf v0), some (.int v1), some (.int v2), some (.int v3), some (.int v4)] [] σ 0 0 (m_X9_free_L3 n v0 v1 v2 v3 v4 σ) := by
  intro n
  induction n with
  | zero => intros; exact V_none
  | succ n ih => exact v_X9_free_B3  ih
set_option maxRecDepth 100000 in
set_option maxHeartbeats 4000000 in
theorem v_X9_free {D : DG} {z0 : Nat} {l : Launch} : ∀ (a0 : Option Nat) (a1 : Int32) (a2 : Int32) (a3 : Int32) (σ : SG), V D z0 l RX9 cX9_free 5 wsX9_free (some .int) rmX9_free false tvI 0 [some (va_rf a0), some (.int a1), some (.int a2), some (.int a3), none] [] σ 0 0 (m_X9_free a0 a1 a2 a3 σ) := by
  intro a0 a1 a2 a3 σ
  unfold m_X9_free
  refine V_iconst (v := (0 : Int32)) dX9_free_0 rfl ?_
  refine V_istore (x := (0 : Int32)) (ls' := [some (va_rf a0), some (.int a1), some (.int a2), some (.int a3), some (.int (0 : Int32))]) dX9_free_1 (by decide) rfl ?_
  exact v_X9_free_L3  1000 a0 a1 a2 a3 ((0 : Int32)) σ
theorem t_X9_free {D : DG} {z0 : Nat} {l : Launch} (a : Nat) (a1 : Int32) (a2 : Int32) (a3 : Int32) (σ : SG) : MT D z0 l yX9_free wsX9_free rmX9_free tvI [.ref a, .int a1, .int a2, .int a3] σ (m_X9_free (some a) a1 a2 a3 σ) :=
  MT.of (own := RX9) (cc := cX9_free) (nL := 5) (ret := (some .int)) (ct := false) (by decide) rfl rfl (fun h => by cases h) (Nat.le_of_ble_eq_true rfl) (by intro v hv; simp only [List.mem_cons, List.not_mem_nil, or_false] at hv; first | (rcases hv with rfl | rfl | rfl | rfl <;> first | rfl | exact va_rf_cat _) | exact absurd hv (fun h => h)) (v_X9_free (some a) a1 a2 a3 σ)
theorem in_X9_put_X9 : ∀ w ∈ u_ws RX9 TX9 15, w ∈ wsX9_put := by decide +kernel
theorem wd_X9_put_1 : Cond.fieldLink RX9 7 "MainsWordsModel" "s" "[I" ∈ wsX9_put := by decide +kernel
theorem fd_X9_put_7_X9 : FD RX9 7 wsX9_put 8 0 := ⟨RX9, "MainsWordsModel", TX9, 15, rfl, in_X9_put_X9, by decide, wd_X9_put_1, Or.inl rfl⟩
set_option maxRecDepth 100000 in
set_option maxHeartbeats 4000000 in
theorem v_X9_put_B3 {D : DG} {z0 : Nat} {l : Launch} {rec3 : Option Nat → Int32 → Int32 → Int32 → Int32 → Int32 → Int32 → SG → Option (Unit × SG)} (hrec3 : ∀ (v0 : Option Nat) (v1 : Int32) (v2 : Int32) (v3 : Int32) (v4 : Int32) (v5 : Int32) (v6 : Int32) (σ : SG), V D z0 l RX9 cX9_put 7 wsX9_put none rmX9_put false tvU 3 [some (va_rf v0), some (.int v1), some (.int v2), some (.int v3), some (.int v4), some (.int v5), some (.int v6)] [] σ 0 0 (rec3 v0 v1 v2 v3 v4 v5 v6 σ)) : ∀ (v0 : Option Nat) (v1 : Int32) (v2 : Int32) (v3 : Int32) (v4 : Int32) (v5 : Int32) (v6 : Int32) (σ : SG), V D z0 l RX9 cX9_put 7 wsX9_put none rmX9_put false tvU 3 [some (va_rf v0), some (.int v1), some (.int v2), some (.int v3), some (.int v4), some (.int v5), some (.int v6)] [] σ 0 0 (m_X9_put_B3 rec3 v0 v1 v2 v3 v4 v5 v6 σ) := by
  intro v0 v1 v2 v3 v4 v5 v6 σ
  unfold m_X9_put_B3
  refine V_iload (x := v6) dX9_put_3 rfl ?_
  refine V_iload_n (x := v2) dX9_put_5 rfl ?_
  refine V_icmp_ge (tgt := 25) (x := v6) (y := v2) dX9_put_6 (by decide) (fun hc1 => ?_) (fun hc1 => ?_)
  · refine V_aload_n (x := v0) dX9_put_25 rfl ?_
    refine V_getR fd_X9_put_7_X9 dX9_put_26 (fun x2 => ?_)
    refine V_iload_n (x := v1) dX9_put_29 rfl ?_
    refine V_iconst (v := (1 : Int32)) dX9_put_30 rfl ?_
    refine V_iastore dX9_put_31 (fun σ3 hσ3 => ?_)
    refine V_aload_n (x := v0) dX9_put_32 rfl ?_
    refine V_getR fd_X9_put_7_X9 dX9_put_33 (fun x4 => ?_)
    refine V_iload_n (x := v1) dX9_put_36 rfl ?_
    refine V_iconst (v := (1 : Int32)) dX9_put_37 rfl ?_
    refine V_iadd (x := v1) (y := (1 : Int32)) dX9_put_38 ?_
    refine V_iload_n (x := v3) dX9_put_39 rfl ?_
    refine V_iastore dX9_put_40 (fun σ5 hσ5 => ?_)
    refine V_aload_n (x := v0) dX9_put_41 rfl ?_
    refine V_getR fd_X9_put_7_X9 dX9_put_42 (fun x6 => ?_)
    refine V_iload_n (x := v1) dX9_put_45 rfl ?_
    refine V_iconst (v := (2 : Int32)) dX9_put_46 rfl ?_
    refine V_iadd (x := v1) (y := (2 : Int32)) dX9_put_47 ?_
    refine V_iload (x := v4) dX9_put_48 rfl ?_
    refine V_iastore dX9_put_50 (fun σ7 hσ7 => ?_)
    refine V_aload_n (x := v0) dX9_put_51 rfl ?_
    refine V_getR fd_X9_put_7_X9 dX9_put_52 (fun x8 => ?_)
    refine V_iload_n (x := v1) dX9_put_55 rfl ?_
    refine V_iconst (v := (3 : Int32)) dX9_put_56 rfl ?_
    refine V_iadd (x := v1) (y := (3 : Int32)) dX9_put_57 ?_
    refine V_iload (x := v5) dX9_put_58 rfl ?_
    refine V_iastore dX9_put_60 (fun σ9 hσ9 => ?_)
    exact V_vret (fun _ => rfl) rfl (Nat.zero_le _) (Nat.zero_le _) dX9_put_61
  · refine V_aload_n (x := v0) dX9_put_9 rfl ?_
    refine V_getR fd_X9_put_7_X9 dX9_put_10 (fun x10 => ?_)
    refine V_iload_n (x := v1) dX9_put_13 rfl ?_
    refine V_iload (x := v6) dX9_put_14 rfl ?_
    refine V_iadd (x := v1) (y := v6) dX9_put_16 ?_
    refine V_iconst (v := (0 : Int32)) dX9_put_17 rfl ?_
    refine V_iastore dX9_put_18 (fun σ11 hσ11 => ?_)
    refine V_iinc (x := v6) (v := (v6 + 1)) (ls' := [some (va_rf v0), some (.int v1), some (.int v2), some (.int v3), some (.int v4), some (.int v5), some (.int (v6 + 1))]) dX9_put_19 rfl rfl (by decide) rfl ?_
    refine V_goto (tgt := 3) dX9_put_22 (by decide) ?_
    exact hrec3 v0 v1 v2 v3 v4 v5 ((v6 + 1)) σ11
theorem v_X9_put_L3 {D : DG} {z0 : Nat} {l : Launch} : ∀ (n : Nat) (v0 : Option Nat) (v1 : Int32) (v2 : Int32) (v3 : Int32) (v4 : Int32) (v5 : Int32) (v6 : Int32) (σ : SG), V D z0 l RX9 cX9_put 7 wsX9_put none rmX9_put false tvU 3 [some (va_rf v0), some (.int v1), some (.int v2), some (.int v3), some (.int v4), some (.int v5), some (.int v6)] [] σ 0 0 (m_X9_put_L3 n v0 v1 v2 v3 v4 v5 v6 σ) := by
  intro n
  induction n with
  | zero => intros; exact V_none
  | succ n ih => exact v_X9_put_B3  ih
set_option maxRecDepth 100000 in
set_option maxHeartbeats 4000000 in
theorem v_X9_put {D : DG} {z0 : Nat} {l : Launch} : ∀ (a0 : Option Nat) (a1 : Int32) (a2 : Int32) (a3 : Int32) (a4 : Int32) (a5 : Int32) (σ : SG), V D z0 l RX9 cX9_put 7 wsX9_put none rmX9_put false tvU 0 [some (va_rf a0), some (.int a1), some (.int a2), some (.int a3), some (.int a4), some (.int a5), none] [] σ 0 0 (m_X9_put a0 a1 a2 a3 a4 a5 σ) := by
  intro a0 a1 a2 a3 a4 a5 σ
  unfold m_X9_put
  refine V_iconst (v := (0 : Int32)) dX9_put_0 rfl ?_
  refine V_istore (x := (0 : Int32)) (ls' := [some (va_rf a0), some (.int a1), some (.int a2), some (.int a3), some (.int a4), some (.int a5), some (.int (0 : Int32))]) dX9_put_1 (by decide) rfl ?_
  exact v_X9_put_L3  1000 a0 a1 a2 a3 a4 a5 ((0 : Int32)) σ
theorem t_X9_put {D : DG} {z0 : Nat} {l : Launch} (a : Nat) (a1 : Int32) (a2 : Int32) (a3 : Int32) (a4 : Int32) (a5 : Int32) (σ : SG) : MT D z0 l yX9_put wsX9_put rmX9_put tvU [.ref a, .int a1, .int a2, .int a3, .int a4, .int a5] σ (m_X9_put (some a) a1 a2 a3 a4 a5 σ) :=
  MT.of (own := RX9) (cc := cX9_put) (nL := 7) (ret := none) (ct := false) (by decide) rfl rfl (fun h => by cases h) (Nat.le_of_ble_eq_true rfl) (by intro v hv; simp only [List.mem_cons, List.not_mem_nil, or_false] at hv; first | (rcases hv with rfl | rfl | rfl | rfl | rfl | rfl <;> first | rfl | exact va_rf_cat _) | exact absurd hv (fun h => h)) (v_X9_put (some a) a1 a2 a3 a4 a5 σ)
set_option maxRecDepth 100000 in
set_option maxHeartbeats 4000000 in
theorem v_X9_sender {D : DG} {z0 : Nat} {l : Launch} : ∀ (a0 : Option Nat) (a1 : Int32) (a2 : Int32) (σ : SG), V D z0 l RX9 cX9_sender 4 wsX9_sender (some .int) rmX9_sender false tvI 0 [some (va_rf a0), some (.int a1), some (.int a2), none] [] σ 0 0 (m_X9_sender a0 a1 a2 σ) := by
  intro a0 a1 a2 σ
  unfold m_X9_sender
  refine V_iload_n (x := a1) dX9_sender_0 rfl ?_
  refine V_callS0 (As := [.int a1]) (st0 := []) (stI := [.int a1]) (t_X9_isWire a1 σ) rfl (Nat.le_of_ble_eq_true rfl) rfl (fun s args hts => va_cwS 1 hts gX9_sender_X9_isWire rfl rfl rfl (by decide +kernel) ⟨Nat.le_of_ble_eq_true rfl, Nat.le_of_ble_eq_true rfl⟩) rfl rfl dX9_sender_1 (fun r1 σ2 _ => ?_)
  refine V_if_ne (tgt := 9) (x := r1) dX9_sender_4 (by decide) (fun hc3 => ?_) (fun hc3 => ?_)
  · refine V_iconst (v := (-1 : Int32)) dX9_sender_7 rfl ?_
    exact V_iret (fun _ => rfl) rfl (Nat.zero_le _) (Nat.zero_le _) dX9_sender_8
  · refine V_iload_n (x := a2) dX9_sender_9 rfl ?_
    refine V_iconst (v := (1 : Int32)) dX9_sender_10 rfl ?_
    refine V_bipush (v := (9 : Int32)) dX9_sender_11 rfl ?_
    refine V_callS0 (As := [.int a2, .int (1 : Int32), .int (9 : Int32)]) (st0 := []) (stI := [.int (9 : Int32), .int (1 : Int32), .int a2]) (t_X9_in a2 (1 : Int32) (9 : Int32) σ2) rfl (Nat.le_of_ble_eq_true rfl) rfl (fun s args hts => va_cwS 3 hts gX9_sender_X9_in rfl rfl rfl (by decide +kernel) ⟨Nat.le_of_ble_eq_true rfl, Nat.le_of_ble_eq_true rfl⟩) rfl rfl dX9_sender_13 (fun r4 σ5 _ => ?_)
    refine V_if_ne (tgt := 22) (x := r4) dX9_sender_16 (by decide) (fun hc6 => ?_) (fun hc6 => ?_)
    · refine V_bipush (v := (-2 : Int32)) dX9_sender_19 rfl ?_
      exact V_iret (fun _ => rfl) rfl (Nat.zero_le _) (Nat.zero_le _) dX9_sender_21
    · refine V_aload_n (x := a0) dX9_sender_22 rfl ?_
      refine V_bipush (v := (10 : Int32)) dX9_sender_23 rfl ?_
      refine V_bipush (v := (14 : Int32)) dX9_sender_25 rfl ?_
      refine V_iconst (v := (5 : Int32)) dX9_sender_27 rfl ?_
      refine V_callV0 (As := [.int (10 : Int32), .int (14 : Int32), .int (5 : Int32)]) (st0 := []) (stI := [.int (5 : Int32), .int (14 : Int32), .int (10 : Int32), va_rf a0]) (fun _ h => by cases h; exact t_X9_free _ (10 : Int32) (14 : Int32) (5 : Int32) σ5) (q := (RX9, TX9, 15)) rfl rfl rfl (Nat.le_of_ble_eq_true rfl) rfl (fun s args hts => cwV 3 hts gX9_sender_X9_free rfl rfl rfl (by decide +kernel) ⟨Nat.le_of_ble_eq_true rfl, Nat.le_of_ble_eq_true rfl⟩) rfl rfl dX9_sender_28 (fun r7 σ8 _ => ?_)
      refine V_istore_n (x := r7) (ls' := [some (va_rf a0), some (.int a1), some (.int a2), some (.int r7)]) dX9_sender_31 (by decide) rfl ?_
      refine V_iload_n (x := r7) dX9_sender_32 rfl ?_
      refine V_iconst (v := (5 : Int32)) dX9_sender_33 rfl ?_
      refine V_icmp_ne (tgt := 40) (x := r7) (y := (5 : Int32)) dX9_sender_34 (by decide) (fun hc9 => ?_) (fun hc9 => ?_)
      · refine V_bipush (v := (-3 : Int32)) dX9_sender_37 rfl ?_
        exact V_iret (fun _ => rfl) rfl (Nat.zero_le _) (Nat.zero_le _) dX9_sender_39
      · refine V_aload_n (x := a0) dX9_sender_40 rfl ?_
        refine V_callV0 (As := []) (st0 := []) (stI := [va_rf a0]) (fun _ h => by cases h; exact t_X9_hold _ σ8) (q := (RX9, TX9, 15)) rfl rfl rfl (Nat.le_of_ble_eq_true rfl) rfl (fun s args hts => cwV 0 hts gX9_sender_X9_hold rfl rfl rfl (by decide +kernel) ⟨Nat.le_of_ble_eq_true rfl, Nat.le_of_ble_eq_true rfl⟩) rfl rfl dX9_sender_41 (fun _ σ10 _ => ?_)
        refine V_aload_n (x := a0) dX9_sender_44 rfl ?_
        refine V_iload_n (x := r7) dX9_sender_45 rfl ?_
        refine V_callS0 (As := [.int r7]) (st0 := [va_rf a0]) (stI := [.int r7, va_rf a0]) (t_X9_n r7 σ10) rfl (by simp only [List.map_cons, List.map_nil, List.sum_cons, List.sum_nil, va_rf_cat, catI, catF]; decide) rfl (fun s args hts => va_cwS 1 hts gX9_sender_X9_n rfl rfl rfl (by decide +kernel) ⟨Nat.le_of_ble_eq_true rfl, Nat.le_of_ble_eq_true rfl⟩) rfl rfl dX9_sender_46 (fun r11 σ12 _ => ?_)
        refine V_bipush (v := (14 : Int32)) dX9_sender_49 rfl ?_
        refine V_iload_n (x := a1) dX9_sender_51 rfl ?_
        refine V_iload_n (x := a2) dX9_sender_52 rfl ?_
        refine V_iconst (v := (0 : Int32)) dX9_sender_53 rfl ?_
        refine V_callV0 (As := [.int r11, .int (14 : Int32), .int a1, .int a2, .int (0 : Int32)]) (st0 := []) (stI := [.int (0 : Int32), .int a2, .int a1, .int (14 : Int32), .int r11, va_rf a0]) (fun _ h => by cases h; exact t_X9_put _ r11 (14 : Int32) a1 a2 (0 : Int32) σ12) (q := (RX9, TX9, 15)) rfl rfl rfl (Nat.le_of_ble_eq_true rfl) rfl (fun s args hts => cwV 5 hts gX9_sender_X9_put rfl rfl rfl (by decide +kernel) ⟨Nat.le_of_ble_eq_true rfl, Nat.le_of_ble_eq_true rfl⟩) rfl rfl dX9_sender_54 (fun _ σ13 _ => ?_)
        refine V_aload_n (x := a0) dX9_sender_57 rfl ?_
        refine V_iload_n (x := r7) dX9_sender_58 rfl ?_
        refine V_callV0 (As := [.int r7]) (st0 := []) (stI := [.int r7, va_rf a0]) (fun _ h => by cases h; exact t_X9_recorded _ r7 σ13) (q := (RX9, TX9, 15)) rfl rfl rfl (Nat.le_of_ble_eq_true rfl) rfl (fun s args hts => cwV 1 hts gX9_sender_X9_recorded rfl rfl rfl (by decide +kernel) ⟨Nat.le_of_ble_eq_true rfl, Nat.le_of_ble_eq_true rfl⟩) rfl rfl dX9_sender_59 (fun r14 σ15 _ => ?_)
        exact V_iret (fun _ => rfl) rfl (Nat.zero_le _) (Nat.zero_le _) dX9_sender_62
theorem t_X9_sender {D : DG} {z0 : Nat} {l : Launch} (a : Nat) (a1 : Int32) (a2 : Int32) (σ : SG) : MT D z0 l yX9_sender wsX9_sender rmX9_sender tvI [.ref a, .int a1, .int a2] σ (m_X9_sender (some a) a1 a2 σ) :=
  MT.of (own := RX9) (cc := cX9_sender) (nL := 4) (ret := (some .int)) (ct := false) (by decide) rfl rfl (fun h => by cases h) (Nat.le_of_ble_eq_true rfl) (by intro v hv; simp only [List.mem_cons, List.not_mem_nil, or_false] at hv; first | (rcases hv with rfl | rfl | rfl <;> first | rfl | exact va_rf_cat _) | exact absurd hv (fun h => h)) (v_X9_sender (some a) a1 a2 σ)
theorem in_X9_machine_X9 : ∀ w ∈ u_ws RX9 TX9 15, w ∈ wsX9_machine := by decide +kernel
theorem wd_X9_machine_1 : Cond.fieldLink RX9 7 "MainsWordsModel" "s" "[I" ∈ wsX9_machine := by decide +kernel
theorem fd_X9_machine_7_X9 : FD RX9 7 wsX9_machine 8 0 := ⟨RX9, "MainsWordsModel", TX9, 15, rfl, in_X9_machine_X9, by decide, wd_X9_machine_1, Or.inl rfl⟩
set_option maxRecDepth 100000 in
set_option maxHeartbeats 4000000 in
theorem v_X9_machine {D : DG} {z0 : Nat} {l : Launch} : ∀ (a0 : Option Nat) (a1 : Int32) (a2 : Int32) (a3 : Int32) (σ : SG), V D z0 l RX9 cX9_machine 5 wsX9_machine (some .int) rmX9_machine false tvI 0 [some (va_rf a0), some (.int a1), some (.int a2), some (.int a3), none] [] σ 0 0 (m_X9_machine a0 a1 a2 a3 σ) := by
  intro a0 a1 a2 a3 σ
  unfold m_X9_machine
  refine V_iload_n (x := a1) dX9_machine_0 rfl ?_
  refine V_callS0 (As := [.int a1]) (st0 := []) (stI := [.int a1]) (t_X9_isWire a1 σ) rfl (Nat.le_of_ble_eq_true rfl) rfl (fun s args hts => va_cwS 1 hts gX9_machine_X9_isWire rfl rfl rfl (by decide +kernel) ⟨Nat.le_of_ble_eq_true rfl, Nat.le_of_ble_eq_true rfl⟩) rfl rfl dX9_machine_1 (fun r1 σ2 _ => ?_)
  refine V_if_ne (tgt := 9) (x := r1) dX9_machine_4 (by decide) (fun hc3 => ?_) (fun hc3 => ?_)
  · refine V_iconst (v := (-1 : Int32)) dX9_machine_7 rfl ?_
    exact V_iret (fun _ => rfl) rfl (Nat.zero_le _) (Nat.zero_le _) dX9_machine_8
  · refine V_iload_n (x := a2) dX9_machine_9 rfl ?_
    refine V_iconst (v := (1 : Int32)) dX9_machine_10 rfl ?_
    refine V_bipush (v := (9 : Int32)) dX9_machine_11 rfl ?_
    refine V_callS0 (As := [.int a2, .int (1 : Int32), .int (9 : Int32)]) (st0 := []) (stI := [.int (9 : Int32), .int (1 : Int32), .int a2]) (t_X9_in a2 (1 : Int32) (9 : Int32) σ2) rfl (Nat.le_of_ble_eq_true rfl) rfl (fun s args hts => va_cwS 3 hts gX9_machine_X9_in rfl rfl rfl (by decide +kernel) ⟨Nat.le_of_ble_eq_true rfl, Nat.le_of_ble_eq_true rfl⟩) rfl rfl dX9_machine_13 (fun r4 σ5 _ => ?_)
    refine V_if_eq (tgt := 29) (x := r4) dX9_machine_16 (by decide) (fun hc6 => ?_) (fun hc6 => ?_)
    · refine V_bipush (v := (-2 : Int32)) dX9_machine_29 rfl ?_
      exact V_iret (fun _ => rfl) rfl (Nat.zero_le _) (Nat.zero_le _) dX9_machine_31
    · refine V_iload_n (x := a3) dX9_machine_19 rfl ?_
      refine V_iconst (v := (2 : Int32)) dX9_machine_20 rfl ?_
      refine V_bipush (v := (20 : Int32)) dX9_machine_21 rfl ?_
      refine V_callS0 (As := [.int a3, .int (2 : Int32), .int (20 : Int32)]) (st0 := []) (stI := [.int (20 : Int32), .int (2 : Int32), .int a3]) (t_X9_in a3 (2 : Int32) (20 : Int32) σ5) rfl (Nat.le_of_ble_eq_true rfl) rfl (fun s args hts => va_cwS 3 hts gX9_machine_X9_in rfl rfl rfl (by decide +kernel) ⟨Nat.le_of_ble_eq_true rfl, Nat.le_of_ble_eq_true rfl⟩) rfl rfl dX9_machine_23 (fun r7 σ8 _ => ?_)
      refine V_if_ne (tgt := 32) (x := r7) dX9_machine_26 (by decide) (fun hc9 => ?_) (fun hc9 => ?_)
      · refine V_bipush (v := (-2 : Int32)) dX9_machine_29 rfl ?_
        exact V_iret (fun _ => rfl) rfl (Nat.zero_le _) (Nat.zero_le _) dX9_machine_31
      · refine V_aload_n (x := a0) dX9_machine_32 rfl ?_
        refine V_bipush (v := (80 : Int32)) dX9_machine_33 rfl ?_
        refine V_iconst (v := (5 : Int32)) dX9_machine_35 rfl ?_
        refine V_iconst (v := (4 : Int32)) dX9_machine_36 rfl ?_
        refine V_callV0 (As := [.int (80 : Int32), .int (5 : Int32), .int (4 : Int32)]) (st0 := []) (stI := [.int (4 : Int32), .int (5 : Int32), .int (80 : Int32), va_rf a0]) (fun _ h => by cases h; exact t_X9_free _ (80 : Int32) (5 : Int32) (4 : Int32) σ8) (q := (RX9, TX9, 15)) rfl rfl rfl (Nat.le_of_ble_eq_true rfl) rfl (fun s args hts => cwV 3 hts gX9_machine_X9_free rfl rfl rfl (by decide +kernel) ⟨Nat.le_of_ble_eq_true rfl, Nat.le_of_ble_eq_true rfl⟩) rfl rfl dX9_machine_37 (fun r10 σ11 _ => ?_)
        refine V_istore (x := r10) (ls' := [some (va_rf a0), some (.int a1), some (.int a2), some (.int a3), some (.int r10)]) dX9_machine_40 (by decide) rfl ?_
        refine V_iload (x := r10) dX9_machine_42 rfl ?_
        refine V_iconst (v := (4 : Int32)) dX9_machine_44 rfl ?_
        refine V_icmp_ne (tgt := 51) (x := r10) (y := (4 : Int32)) dX9_machine_45 (by decide) (fun hc12 => ?_) (fun hc12 => ?_)
        · refine V_bipush (v := (-3 : Int32)) dX9_machine_48 rfl ?_
          exact V_iret (fun _ => rfl) rfl (Nat.zero_le _) (Nat.zero_le _) dX9_machine_50
        · refine V_aload_n (x := a0) dX9_machine_51 rfl ?_
          refine V_callV0 (As := []) (st0 := []) (stI := [va_rf a0]) (fun _ h => by cases h; exact t_X9_hold _ σ11) (q := (RX9, TX9, 15)) rfl rfl rfl (Nat.le_of_ble_eq_true rfl) rfl (fun s args hts => cwV 0 hts gX9_machine_X9_hold rfl rfl rfl (by decide +kernel) ⟨Nat.le_of_ble_eq_true rfl, Nat.le_of_ble_eq_true rfl⟩) rfl rfl dX9_machine_52 (fun _ σ13 _ => ?_)
          refine V_aload_n (x := a0) dX9_machine_55 rfl ?_
          refine V_iload (x := r10) dX9_machine_56 rfl ?_
          refine V_callS0 (As := [.int r10]) (st0 := [va_rf a0]) (stI := [.int r10, va_rf a0]) (t_X9_m r10 σ13) rfl (by simp only [List.map_cons, List.map_nil, List.sum_cons, List.sum_nil, va_rf_cat, catI, catF]; decide) rfl (fun s args hts => va_cwS 1 hts gX9_machine_X9_m rfl rfl rfl (by decide +kernel) ⟨Nat.le_of_ble_eq_true rfl, Nat.le_of_ble_eq_true rfl⟩) rfl rfl dX9_machine_58 (fun r14 σ15 _ => ?_)
          refine V_iconst (v := (5 : Int32)) dX9_machine_61 rfl ?_
          refine V_iload_n (x := a1) dX9_machine_62 rfl ?_
          refine V_iload_n (x := a2) dX9_machine_63 rfl ?_
          refine V_iload_n (x := a3) dX9_machine_64 rfl ?_
          refine V_callV0 (As := [.int r14, .int (5 : Int32), .int a1, .int a2, .int a3]) (st0 := []) (stI := [.int a3, .int a2, .int a1, .int (5 : Int32), .int r14, va_rf a0]) (fun _ h => by cases h; exact t_X9_put _ r14 (5 : Int32) a1 a2 a3 σ15) (q := (RX9, TX9, 15)) rfl rfl rfl (Nat.le_of_ble_eq_true rfl) rfl (fun s args hts => cwV 5 hts gX9_machine_X9_put rfl rfl rfl (by decide +kernel) ⟨Nat.le_of_ble_eq_true rfl, Nat.le_of_ble_eq_true rfl⟩) rfl rfl dX9_machine_65 (fun _ σ16 _ => ?_)
          refine V_aload_n (x := a0) dX9_machine_68 rfl ?_
          refine V_getR fd_X9_machine_7_X9 dX9_machine_69 (fun x17 => ?_)
          refine V_iload (x := r10) dX9_machine_72 rfl ?_
          refine V_callS0 (As := [.int r10]) (st0 := [va_rf x17]) (stI := [.int r10, va_rf x17]) (t_X9_m r10 σ16) rfl (by simp only [List.map_cons, List.map_nil, List.sum_cons, List.sum_nil, va_rf_cat, catI, catF]; decide) rfl (fun s args hts => va_cwS 1 hts gX9_machine_X9_m rfl rfl rfl (by decide +kernel) ⟨Nat.le_of_ble_eq_true rfl, Nat.le_of_ble_eq_true rfl⟩) rfl rfl dX9_machine_74 (fun r18 σ19 _ => ?_)
          refine V_iconst (v := (4 : Int32)) dX9_machine_77 rfl ?_
          refine V_iadd (x := r18) (y := (4 : Int32)) dX9_machine_78 ?_
          refine V_iconst (v := (1 : Int32)) dX9_machine_79 rfl ?_
          refine V_iastore dX9_machine_80 (fun σ20 hσ20 => ?_)
          refine V_aload_n (x := a0) dX9_machine_81 rfl ?_
          refine V_iload (x := r10) dX9_machine_82 rfl ?_
          refine V_callV0 (As := [.int r10]) (st0 := []) (stI := [.int r10, va_rf a0]) (fun _ h => by cases h; exact t_X9_recorded _ r10 σ20) (q := (RX9, TX9, 15)) rfl rfl rfl (Nat.le_of_ble_eq_true rfl) rfl (fun s args hts => cwV 1 hts gX9_machine_X9_recorded rfl rfl rfl (by decide +kernel) ⟨Nat.le_of_ble_eq_true rfl, Nat.le_of_ble_eq_true rfl⟩) rfl rfl dX9_machine_84 (fun r21 σ22 _ => ?_)
          exact V_iret (fun _ => rfl) rfl (Nat.zero_le _) (Nat.zero_le _) dX9_machine_87
theorem t_X9_machine {D : DG} {z0 : Nat} {l : Launch} (a : Nat) (a1 : Int32) (a2 : Int32) (a3 : Int32) (σ : SG) : MT D z0 l yX9_machine wsX9_machine rmX9_machine tvI [.ref a, .int a1, .int a2, .int a3] σ (m_X9_machine (some a) a1 a2 a3 σ) :=
  MT.of (own := RX9) (cc := cX9_machine) (nL := 5) (ret := (some .int)) (ct := false) (by decide) rfl rfl (fun h => by cases h) (Nat.le_of_ble_eq_true rfl) (by intro v hv; simp only [List.mem_cons, List.not_mem_nil, or_false] at hv; first | (rcases hv with rfl | rfl | rfl | rfl <;> first | rfl | exact va_rf_cat _) | exact absurd hv (fun h => h)) (v_X9_machine (some a) a1 a2 a3 σ)
set_option maxRecDepth 100000 in
set_option maxHeartbeats 4000000 in
theorem v_X9_lamp {D : DG} {z0 : Nat} {l : Launch} : ∀ (a0 : Option Nat) (a1 : Int32) (a2 : Int32) (a3 : Int32) (σ : SG), V D z0 l RX9 cX9_lamp 5 wsX9_lamp (some .int) rmX9_lamp false tvI 0 [some (va_rf a0), some (.int a1), some (.int a2), some (.int a3), none] [] σ 0 0 (m_X9_lamp a0 a1 a2 a3 σ) := by
  intro a0 a1 a2 a3 σ
  unfold m_X9_lamp
  refine V_iload_n (x := a1) dX9_lamp_0 rfl ?_
  refine V_callS0 (As := [.int a1]) (st0 := []) (stI := [.int a1]) (t_X9_isWire a1 σ) rfl (Nat.le_of_ble_eq_true rfl) rfl (fun s args hts => va_cwS 1 hts gX9_lamp_X9_isWire rfl rfl rfl (by decide +kernel) ⟨Nat.le_of_ble_eq_true rfl, Nat.le_of_ble_eq_true rfl⟩) rfl rfl dX9_lamp_1 (fun r1 σ2 _ => ?_)
  refine V_if_ne (tgt := 9) (x := r1) dX9_lamp_4 (by decide) (fun hc3 => ?_) (fun hc3 => ?_)
  · refine V_iconst (v := (-1 : Int32)) dX9_lamp_7 rfl ?_
    exact V_iret (fun _ => rfl) rfl (Nat.zero_le _) (Nat.zero_le _) dX9_lamp_8
  · refine V_iload_n (x := a2) dX9_lamp_9 rfl ?_
    refine V_iconst (v := (0 : Int32)) dX9_lamp_10 rfl ?_
    refine V_iconst (v := (3 : Int32)) dX9_lamp_11 rfl ?_
    refine V_callS0 (As := [.int a2, .int (0 : Int32), .int (3 : Int32)]) (st0 := []) (stI := [.int (3 : Int32), .int (0 : Int32), .int a2]) (t_X9_in a2 (0 : Int32) (3 : Int32) σ2) rfl (Nat.le_of_ble_eq_true rfl) rfl (fun s args hts => va_cwS 3 hts gX9_lamp_X9_in rfl rfl rfl (by decide +kernel) ⟨Nat.le_of_ble_eq_true rfl, Nat.le_of_ble_eq_true rfl⟩) rfl rfl dX9_lamp_12 (fun r4 σ5 _ => ?_)
    refine V_if_eq (tgt := 27) (x := r4) dX9_lamp_15 (by decide) (fun hc6 => ?_) (fun hc6 => ?_)
    · refine V_bipush (v := (-2 : Int32)) dX9_lamp_27 rfl ?_
      exact V_iret (fun _ => rfl) rfl (Nat.zero_le _) (Nat.zero_le _) dX9_lamp_29
    · refine V_iload_n (x := a3) dX9_lamp_18 rfl ?_
      refine V_iconst (v := (0 : Int32)) dX9_lamp_19 rfl ?_
      refine V_iconst (v := (3 : Int32)) dX9_lamp_20 rfl ?_
      refine V_callS0 (As := [.int a3, .int (0 : Int32), .int (3 : Int32)]) (st0 := []) (stI := [.int (3 : Int32), .int (0 : Int32), .int a3]) (t_X9_in a3 (0 : Int32) (3 : Int32) σ5) rfl (Nat.le_of_ble_eq_true rfl) rfl (fun s args hts => va_cwS 3 hts gX9_lamp_X9_in rfl rfl rfl (by decide +kernel) ⟨Nat.le_of_ble_eq_true rfl, Nat.le_of_ble_eq_true rfl⟩) rfl rfl dX9_lamp_21 (fun r7 σ8 _ => ?_)
      refine V_if_ne (tgt := 30) (x := r7) dX9_lamp_24 (by decide) (fun hc9 => ?_) (fun hc9 => ?_)
      · refine V_bipush (v := (-2 : Int32)) dX9_lamp_27 rfl ?_
        exact V_iret (fun _ => rfl) rfl (Nat.zero_le _) (Nat.zero_le _) dX9_lamp_29
      · refine V_aload_n (x := a0) dX9_lamp_30 rfl ?_
        refine V_bipush (v := (100 : Int32)) dX9_lamp_31 rfl ?_
        refine V_bipush (v := (6 : Int32)) dX9_lamp_33 rfl ?_
        refine V_bipush (v := (8 : Int32)) dX9_lamp_35 rfl ?_
        refine V_callV0 (As := [.int (100 : Int32), .int (6 : Int32), .int (8 : Int32)]) (st0 := []) (stI := [.int (8 : Int32), .int (6 : Int32), .int (100 : Int32), va_rf a0]) (fun _ h => by cases h; exact t_X9_free _ (100 : Int32) (6 : Int32) (8 : Int32) σ8) (q := (RX9, TX9, 15)) rfl rfl rfl (Nat.le_of_ble_eq_true rfl) rfl (fun s args hts => cwV 3 hts gX9_lamp_X9_free rfl rfl rfl (by decide +kernel) ⟨Nat.le_of_ble_eq_true rfl, Nat.le_of_ble_eq_true rfl⟩) rfl rfl dX9_lamp_37 (fun r10 σ11 _ => ?_)
        refine V_istore (x := r10) (ls' := [some (va_rf a0), some (.int a1), some (.int a2), some (.int a3), some (.int r10)]) dX9_lamp_40 (by decide) rfl ?_
        refine V_iload (x := r10) dX9_lamp_42 rfl ?_
        refine V_bipush (v := (8 : Int32)) dX9_lamp_44 rfl ?_
        refine V_icmp_ne (tgt := 52) (x := r10) (y := (8 : Int32)) dX9_lamp_46 (by decide) (fun hc12 => ?_) (fun hc12 => ?_)
        · refine V_bipush (v := (-3 : Int32)) dX9_lamp_49 rfl ?_
          exact V_iret (fun _ => rfl) rfl (Nat.zero_le _) (Nat.zero_le _) dX9_lamp_51
        · refine V_aload_n (x := a0) dX9_lamp_52 rfl ?_
          refine V_callV0 (As := []) (st0 := []) (stI := [va_rf a0]) (fun _ h => by cases h; exact t_X9_hold _ σ11) (q := (RX9, TX9, 15)) rfl rfl rfl (Nat.le_of_ble_eq_true rfl) rfl (fun s args hts => cwV 0 hts gX9_lamp_X9_hold rfl rfl rfl (by decide +kernel) ⟨Nat.le_of_ble_eq_true rfl, Nat.le_of_ble_eq_true rfl⟩) rfl rfl dX9_lamp_53 (fun _ σ13 _ => ?_)
          refine V_aload_n (x := a0) dX9_lamp_56 rfl ?_
          refine V_iload (x := r10) dX9_lamp_57 rfl ?_
          refine V_callS0 (As := [.int r10]) (st0 := [va_rf a0]) (stI := [.int r10, va_rf a0]) (t_X9_l r10 σ13) rfl (by simp only [List.map_cons, List.map_nil, List.sum_cons, List.sum_nil, va_rf_cat, catI, catF]; decide) rfl (fun s args hts => va_cwS 1 hts gX9_lamp_X9_l rfl rfl rfl (by decide +kernel) ⟨Nat.le_of_ble_eq_true rfl, Nat.le_of_ble_eq_true rfl⟩) rfl rfl dX9_lamp_59 (fun r14 σ15 _ => ?_)
          refine V_bipush (v := (6 : Int32)) dX9_lamp_62 rfl ?_
          refine V_iload_n (x := a1) dX9_lamp_64 rfl ?_
          refine V_iload_n (x := a2) dX9_lamp_65 rfl ?_
          refine V_iload_n (x := a3) dX9_lamp_66 rfl ?_
          refine V_callV0 (As := [.int r14, .int (6 : Int32), .int a1, .int a2, .int a3]) (st0 := []) (stI := [.int a3, .int a2, .int a1, .int (6 : Int32), .int r14, va_rf a0]) (fun _ h => by cases h; exact t_X9_put _ r14 (6 : Int32) a1 a2 a3 σ15) (q := (RX9, TX9, 15)) rfl rfl rfl (Nat.le_of_ble_eq_true rfl) rfl (fun s args hts => cwV 5 hts gX9_lamp_X9_put rfl rfl rfl (by decide +kernel) ⟨Nat.le_of_ble_eq_true rfl, Nat.le_of_ble_eq_true rfl⟩) rfl rfl dX9_lamp_67 (fun _ σ16 _ => ?_)
          refine V_aload_n (x := a0) dX9_lamp_70 rfl ?_
          refine V_iload (x := r10) dX9_lamp_71 rfl ?_
          refine V_callV0 (As := [.int r10]) (st0 := []) (stI := [.int r10, va_rf a0]) (fun _ h => by cases h; exact t_X9_recorded _ r10 σ16) (q := (RX9, TX9, 15)) rfl rfl rfl (Nat.le_of_ble_eq_true rfl) rfl (fun s args hts => cwV 1 hts gX9_lamp_X9_recorded rfl rfl rfl (by decide +kernel) ⟨Nat.le_of_ble_eq_true rfl, Nat.le_of_ble_eq_true rfl⟩) rfl rfl dX9_lamp_73 (fun r17 σ18 _ => ?_)
          exact V_iret (fun _ => rfl) rfl (Nat.zero_le _) (Nat.zero_le _) dX9_lamp_76
theorem t_X9_lamp {D : DG} {z0 : Nat} {l : Launch} (a : Nat) (a1 : Int32) (a2 : Int32) (a3 : Int32) (σ : SG) : MT D z0 l yX9_lamp wsX9_lamp rmX9_lamp tvI [.ref a, .int a1, .int a2, .int a3] σ (m_X9_lamp (some a) a1 a2 a3 σ) :=
  MT.of (own := RX9) (cc := cX9_lamp) (nL := 5) (ret := (some .int)) (ct := false) (by decide) rfl rfl (fun h => by cases h) (Nat.le_of_ble_eq_true rfl) (by intro v hv; simp only [List.mem_cons, List.not_mem_nil, or_false] at hv; first | (rcases hv with rfl | rfl | rfl | rfl <;> first | rfl | exact va_rf_cat _) | exact absurd hv (fun h => h)) (v_X9_lamp (some a) a1 a2 a3 σ)
theorem in_X9_remove_X9 : ∀ w ∈ u_ws RX9 TX9 15, w ∈ wsX9_remove := by decide +kernel
theorem wd_X9_remove_1 : Cond.fieldLink RX9 7 "MainsWordsModel" "s" "[I" ∈ wsX9_remove := by decide +kernel
theorem fd_X9_remove_7_X9 : FD RX9 7 wsX9_remove 8 0 := ⟨RX9, "MainsWordsModel", TX9, 15, rfl, in_X9_remove_X9, by decide, wd_X9_remove_1, Or.inl rfl⟩
set_option maxRecDepth 100000 in
set_option maxHeartbeats 4000000 in
theorem v_X9_remove_b80 {D : DG} {z0 : Nat} {l : Launch} : ∀ (v0 : Option Nat) (s0 : Int32) (σ : SG), V D z0 l RX9 cX9_remove 6 wsX9_remove (some .int) rmX9_remove false tvI 80 [some (va_rf v0), none, none, none, none, none] [.int s0] σ 0 0 (m_X9_remove_b80 v0 s0 σ) := by
  intro v0 s0 σ
  unfold m_X9_remove_b80
  refine V_istore (x := s0) (ls' := [some (va_rf v0), none, none, none, some (.int s0), none]) dX9_remove_80 (by decide) rfl ?_
  refine V_aload_n (x := v0) dX9_remove_82 rfl ?_
  refine V_getR fd_X9_remove_7_X9 dX9_remove_83 (fun x1 => ?_)
  refine V_iload (x := s0) dX9_remove_86 rfl ?_
  refine V_iconst (v := (1 : Int32)) dX9_remove_88 rfl ?_
  refine V_iadd (x := s0) (y := (1 : Int32)) dX9_remove_89 ?_
  refine V_iaload dX9_remove_90 (fun x2 => ?_)
  refine V_istore (x := x2) (ls' := [some (va_rf v0), none, none, none, some (.int s0), some (.int x2)]) dX9_remove_91 (by decide) rfl ?_
  refine V_aload_n (x := v0) dX9_remove_93 rfl ?_
  refine V_getR fd_X9_remove_7_X9 dX9_remove_94 (fun x3 => ?_)
  refine V_iload (x := s0) dX9_remove_97 rfl ?_
  refine V_iconst (v := (0 : Int32)) dX9_remove_99 rfl ?_
  refine V_iastore dX9_remove_100 (fun σ4 hσ4 => ?_)
  refine V_aload_n (x := v0) dX9_remove_101 rfl ?_
  refine V_iload (x := x2) dX9_remove_102 rfl ?_
  refine V_callV0 (As := [.int x2]) (st0 := []) (stI := [.int x2, va_rf v0]) (fun _ h => by cases h; exact t_X9_recorded _ x2 σ4) (q := (RX9, TX9, 15)) rfl rfl rfl (Nat.le_of_ble_eq_true rfl) rfl (fun s args hts => cwV 1 hts gX9_remove_X9_recorded rfl rfl rfl (by decide +kernel) ⟨Nat.le_of_ble_eq_true rfl, Nat.le_of_ble_eq_true rfl⟩) rfl rfl dX9_remove_104 (fun r5 σ6 _ => ?_)
  exact V_iret (fun _ => rfl) rfl (Nat.zero_le _) (Nat.zero_le _) dX9_remove_107
set_option maxRecDepth 100000 in
set_option maxHeartbeats 4000000 in
theorem v_X9_remove_b42 {D : DG} {z0 : Nat} {l : Launch} : ∀ (v0 : Option Nat) (v1 : Int32) (v2 : Int32) (s0 : Int32) (σ : SG), V D z0 l RX9 cX9_remove 6 wsX9_remove (some .int) rmX9_remove false tvI 42 [some (va_rf v0), some (.int v1), some (.int v2), none, none, none] [.int s0] σ 0 0 (m_X9_remove_b42 v0 v1 v2 s0 σ) := by
  intro v0 v1 v2 s0 σ
  unfold m_X9_remove_b42
  refine V_istore_n (x := s0) (ls' := [some (va_rf v0), some (.int v1), some (.int v2), some (.int s0), none, none]) dX9_remove_42 (by decide) rfl ?_
  refine V_iload_n (x := s0) dX9_remove_43 rfl ?_
  refine V_if_ne (tgt := 49) (x := s0) dX9_remove_44 (by decide) (fun hc7 => ?_) (fun hc7 => ?_)
  · refine V_iconst (v := (-1 : Int32)) dX9_remove_47 rfl ?_
    exact V_iret (fun _ => rfl) rfl (Nat.zero_le _) (Nat.zero_le _) dX9_remove_48
  · refine V_aload_n (x := v0) dX9_remove_49 rfl ?_
    refine V_callV0 (As := []) (st0 := []) (stI := [va_rf v0]) (fun _ h => by cases h; exact t_X9_hold _ σ) (q := (RX9, TX9, 15)) rfl rfl rfl (Nat.le_of_ble_eq_true rfl) rfl (fun s args hts => cwV 0 hts gX9_remove_X9_hold rfl rfl rfl (by decide +kernel) ⟨Nat.le_of_ble_eq_true rfl, Nat.le_of_ble_eq_true rfl⟩) rfl rfl dX9_remove_50 (fun _ σ8 _ => ?_)
    refine V_iload_n (x := v1) dX9_remove_53 rfl ?_
    refine V_if_ne (tgt := 64) (x := v1) dX9_remove_54 (by decide) (fun hc9 => ?_) (fun hc9 => ?_)
    · refine V_iload_n (x := v2) dX9_remove_57 rfl ?_
      refine V_callS0 (As := [.int v2]) (st0 := []) (stI := [.int v2]) (t_X9_n v2 σ8) rfl (Nat.le_of_ble_eq_true rfl) rfl (fun s args hts => va_cwS 1 hts gX9_remove_X9_n rfl rfl rfl (by decide +kernel) ⟨Nat.le_of_ble_eq_true rfl, Nat.le_of_ble_eq_true rfl⟩) rfl rfl dX9_remove_58 (fun r10 σ11 _ => ?_)
      refine V_goto (tgt := 80) dX9_remove_61 (by decide) ?_
      exact V_sub (LE.s (LE.n (LE.n (LE.n (LE.s (LE.s LE.e)))))) (v_X9_remove_b80  v0 r10 σ11)
    · refine V_iload_n (x := v1) dX9_remove_64 rfl ?_
      refine V_iconst (v := (1 : Int32)) dX9_remove_65 rfl ?_
      refine V_icmp_ne (tgt := 76) (x := v1) (y := (1 : Int32)) dX9_remove_66 (by decide) (fun hc12 => ?_) (fun hc12 => ?_)
      · refine V_iload_n (x := v2) dX9_remove_69 rfl ?_
        refine V_callS0 (As := [.int v2]) (st0 := []) (stI := [.int v2]) (t_X9_m v2 σ8) rfl (Nat.le_of_ble_eq_true rfl) rfl (fun s args hts => va_cwS 1 hts gX9_remove_X9_m rfl rfl rfl (by decide +kernel) ⟨Nat.le_of_ble_eq_true rfl, Nat.le_of_ble_eq_true rfl⟩) rfl rfl dX9_remove_70 (fun r13 σ14 _ => ?_)
        refine V_goto (tgt := 80) dX9_remove_73 (by decide) ?_
        exact V_sub (LE.s (LE.n (LE.n (LE.n (LE.s (LE.s LE.e)))))) (v_X9_remove_b80  v0 r13 σ14)
      · refine V_iload_n (x := v2) dX9_remove_76 rfl ?_
        refine V_callS0 (As := [.int v2]) (st0 := []) (stI := [.int v2]) (t_X9_l v2 σ8) rfl (Nat.le_of_ble_eq_true rfl) rfl (fun s args hts => va_cwS 1 hts gX9_remove_X9_l rfl rfl rfl (by decide +kernel) ⟨Nat.le_of_ble_eq_true rfl, Nat.le_of_ble_eq_true rfl⟩) rfl rfl dX9_remove_77 (fun r15 σ16 _ => ?_)
        exact V_sub (LE.s (LE.n (LE.n (LE.n (LE.s (LE.s LE.e)))))) (v_X9_remove_b80  v0 r15 σ16)
set_option maxRecDepth 100000 in
set_option maxHeartbeats 4000000 in
theorem v_X9_remove {D : DG} {z0 : Nat} {l : Launch} : ∀ (a0 : Option Nat) (a1 : Int32) (a2 : Int32) (σ : SG), V D z0 l RX9 cX9_remove 6 wsX9_remove (some .int) rmX9_remove false tvI 0 [some (va_rf a0), some (.int a1), some (.int a2), none, none, none] [] σ 0 0 (m_X9_remove a0 a1 a2 σ) := by
  intro a0 a1 a2 σ
  unfold m_X9_remove
  refine V_iload_n (x := a1) dX9_remove_0 rfl ?_
  refine V_iconst (v := (0 : Int32)) dX9_remove_1 rfl ?_
  refine V_iconst (v := (2 : Int32)) dX9_remove_2 rfl ?_
  refine V_callS0 (As := [.int a1, .int (0 : Int32), .int (2 : Int32)]) (st0 := []) (stI := [.int (2 : Int32), .int (0 : Int32), .int a1]) (t_X9_in a1 (0 : Int32) (2 : Int32) σ) rfl (Nat.le_of_ble_eq_true rfl) rfl (fun s args hts => va_cwS 3 hts gX9_remove_X9_in rfl rfl rfl (by decide +kernel) ⟨Nat.le_of_ble_eq_true rfl, Nat.le_of_ble_eq_true rfl⟩) rfl rfl dX9_remove_3 (fun r17 σ18 _ => ?_)
  refine V_if_ne (tgt := 12) (x := r17) dX9_remove_6 (by decide) (fun hc19 => ?_) (fun hc19 => ?_)
  · refine V_bipush (v := (-2 : Int32)) dX9_remove_9 rfl ?_
    exact V_iret (fun _ => rfl) rfl (Nat.zero_le _) (Nat.zero_le _) dX9_remove_11
  · refine V_iload_n (x := a1) dX9_remove_12 rfl ?_
    refine V_if_ne (tgt := 24) (x := a1) dX9_remove_13 (by decide) (fun hc20 => ?_) (fun hc20 => ?_)
    · refine V_aload_n (x := a0) dX9_remove_16 rfl ?_
      refine V_iload_n (x := a2) dX9_remove_17 rfl ?_
      refine V_callV0 (As := [.int a2]) (st0 := []) (stI := [.int a2, va_rf a0]) (fun _ h => by cases h; exact t_X9_isSender _ a2 σ18) (q := (RX9, TX9, 15)) rfl rfl rfl (Nat.le_of_ble_eq_true rfl) rfl (fun s args hts => cwV 1 hts gX9_remove_X9_isSender rfl rfl rfl (by decide +kernel) ⟨Nat.le_of_ble_eq_true rfl, Nat.le_of_ble_eq_true rfl⟩) rfl rfl dX9_remove_18 (fun r21 σ22 _ => ?_)
      refine V_goto (tgt := 42) dX9_remove_21 (by decide) ?_
      exact v_X9_remove_b42  a0 a1 a2 r21 σ22
    · refine V_iload_n (x := a1) dX9_remove_24 rfl ?_
      refine V_iconst (v := (1 : Int32)) dX9_remove_25 rfl ?_
      refine V_icmp_ne (tgt := 37) (x := a1) (y := (1 : Int32)) dX9_remove_26 (by decide) (fun hc23 => ?_) (fun hc23 => ?_)
      · refine V_aload_n (x := a0) dX9_remove_29 rfl ?_
        refine V_iload_n (x := a2) dX9_remove_30 rfl ?_
        refine V_callV0 (As := [.int a2]) (st0 := []) (stI := [.int a2, va_rf a0]) (fun _ h => by cases h; exact t_X9_isMachine _ a2 σ18) (q := (RX9, TX9, 15)) rfl rfl rfl (Nat.le_of_ble_eq_true rfl) rfl (fun s args hts => cwV 1 hts gX9_remove_X9_isMachine rfl rfl rfl (by decide +kernel) ⟨Nat.le_of_ble_eq_true rfl, Nat.le_of_ble_eq_true rfl⟩) rfl rfl dX9_remove_31 (fun r24 σ25 _ => ?_)
        refine V_goto (tgt := 42) dX9_remove_34 (by decide) ?_
        exact v_X9_remove_b42  a0 a1 a2 r24 σ25
      · refine V_aload_n (x := a0) dX9_remove_37 rfl ?_
        refine V_iload_n (x := a2) dX9_remove_38 rfl ?_
        refine V_callV0 (As := [.int a2]) (st0 := []) (stI := [.int a2, va_rf a0]) (fun _ h => by cases h; exact t_X9_isLamp _ a2 σ18) (q := (RX9, TX9, 15)) rfl rfl rfl (Nat.le_of_ble_eq_true rfl) rfl (fun s args hts => cwV 1 hts gX9_remove_X9_isLamp rfl rfl rfl (by decide +kernel) ⟨Nat.le_of_ble_eq_true rfl, Nat.le_of_ble_eq_true rfl⟩) rfl rfl dX9_remove_39 (fun r26 σ27 _ => ?_)
        exact v_X9_remove_b42  a0 a1 a2 r26 σ27
theorem t_X9_remove {D : DG} {z0 : Nat} {l : Launch} (a : Nat) (a1 : Int32) (a2 : Int32) (σ : SG) : MT D z0 l yX9_remove wsX9_remove rmX9_remove tvI [.ref a, .int a1, .int a2] σ (m_X9_remove (some a) a1 a2 σ) :=
  MT.of (own := RX9) (cc := cX9_remove) (nL := 6) (ret := (some .int)) (ct := false) (by decide) rfl rfl (fun h => by cases h) (Nat.le_of_ble_eq_true rfl) (by intro v hv; simp only [List.mem_cons, List.not_mem_nil, or_false] at hv; first | (rcases hv with rfl | rfl | rfl <;> first | rfl | exact va_rf_cat _) | exact absurd hv (fun h => h)) (v_X9_remove (some a) a1 a2 σ)
set_option maxRecDepth 100000 in
set_option maxHeartbeats 4000000 in
theorem v_X9_say {D : DG} {z0 : Nat} {l : Launch} : ∀ (a0 : Option Nat) (a1 : Int32) (a2 : Int32) (σ : SG), V D z0 l RX9 cX9_say 4 wsX9_say (some .int) rmX9_say false tvI 0 [some (va_rf a0), some (.int a1), some (.int a2), none] [] σ 0 0 (m_X9_say a0 a1 a2 σ) := by
  intro a0 a1 a2 σ
  unfold m_X9_say
  refine V_aload_n (x := a0) dX9_say_0 rfl ?_
  refine V_callV0 (As := []) (st0 := []) (stI := [va_rf a0]) (fun _ h => by cases h; exact t_X9_hold _ σ) (q := (RX9, TX9, 15)) rfl rfl rfl (Nat.le_of_ble_eq_true rfl) rfl (fun s args hts => cwV 0 hts gX9_say_X9_hold rfl rfl rfl (by decide +kernel) ⟨Nat.le_of_ble_eq_true rfl, Nat.le_of_ble_eq_true rfl⟩) rfl rfl dX9_say_1 (fun _ σ1 _ => ?_)
  refine V_aload_n (x := a0) dX9_say_4 rfl ?_
  refine V_iload_n (x := a1) dX9_say_5 rfl ?_
  refine V_iload_n (x := a2) dX9_say_6 rfl ?_
  refine V_callV0 (As := [.int a1, .int a2]) (st0 := []) (stI := [.int a2, .int a1, va_rf a0]) (fun _ h => by cases h; exact t_X9_says _ a1 a2 σ1) (q := (RX9, TX9, 15)) rfl rfl rfl (Nat.le_of_ble_eq_true rfl) rfl (fun s args hts => cwV 2 hts gX9_say_X9_says rfl rfl rfl (by decide +kernel) ⟨Nat.le_of_ble_eq_true rfl, Nat.le_of_ble_eq_true rfl⟩) rfl rfl dX9_say_7 (fun r2 σ3 _ => ?_)
  refine V_istore_n (x := r2) (ls' := [some (va_rf a0), some (.int a1), some (.int a2), some (.int r2)]) dX9_say_10 (by decide) rfl ?_
  refine V_iload_n (x := r2) dX9_say_11 rfl ?_
  refine V_if_ge (tgt := 19) (x := r2) dX9_say_12 (by decide) (fun hc4 => ?_) (fun hc4 => ?_)
  · refine V_aload_n (x := a0) dX9_say_19 rfl ?_
    refine V_iload_n (x := r2) dX9_say_20 rfl ?_
    refine V_callV0 (As := [.int r2]) (st0 := []) (stI := [.int r2, va_rf a0]) (fun _ h => by cases h; exact t_X9_recorded _ r2 σ3) (q := (RX9, TX9, 15)) rfl rfl rfl (Nat.le_of_ble_eq_true rfl) rfl (fun s args hts => cwV 1 hts gX9_say_X9_recorded rfl rfl rfl (by decide +kernel) ⟨Nat.le_of_ble_eq_true rfl, Nat.le_of_ble_eq_true rfl⟩) rfl rfl dX9_say_21 (fun r5 σ6 _ => ?_)
    exact V_iret (fun _ => rfl) rfl (Nat.zero_le _) (Nat.zero_le _) dX9_say_24
  · refine V_iload_n (x := r2) dX9_say_15 rfl ?_
    refine V_goto (tgt := 24) dX9_say_16 (by decide) ?_
    exact V_iret (fun _ => rfl) rfl (Nat.zero_le _) (Nat.zero_le _) dX9_say_24
theorem t_X9_say {D : DG} {z0 : Nat} {l : Launch} (a : Nat) (a1 : Int32) (a2 : Int32) (σ : SG) : MT D z0 l yX9_say wsX9_say rmX9_say tvI [.ref a, .int a1, .int a2] σ (m_X9_say (some a) a1 a2 σ) :=
  MT.of (own := RX9) (cc := cX9_say) (nL := 4) (ret := (some .int)) (ct := false) (by decide) rfl rfl (fun h => by cases h) (Nat.le_of_ble_eq_true rfl) (by intro v hv; simp only [List.mem_cons, List.not_mem_nil, or_false] at hv; first | (rcases hv with rfl | rfl | rfl <;> first | rfl | exact va_rf_cat _) | exact absurd hv (fun h => h)) (v_X9_say (some a) a1 a2 σ)
theorem in_X9_run_X9 : ∀ w ∈ u_ws RX9 TX9 15, w ∈ wsX9_run := by decide +kernel
theorem wd_X9_run_1 : Cond.fieldLink RX9 7 "MainsWordsModel" "s" "[I" ∈ wsX9_run := by decide +kernel
theorem fd_X9_run_7_X9 : FD RX9 7 wsX9_run 8 0 := ⟨RX9, "MainsWordsModel", TX9, 15, rfl, in_X9_run_X9, by decide, wd_X9_run_1, Or.inl rfl⟩
set_option maxRecDepth 100000 in
set_option maxHeartbeats 4000000 in
theorem v_X9_run_b45 {D : DG} {z0 : Nat} {l : Launch} : ∀ (v0 : Option Nat) (v3 : Int32) (s0 : Option Nat) (s1 : Int32) (s2 : Int32) (σ : SG), V D z0 l RX9 cX9_run 4 wsX9_run (some .int) rmX9_run false tvI 45 [some (va_rf v0), none, none, some (.int v3)] [.int s2, .int s1, va_rf s0] σ 0 0 (m_X9_run_b45 v0 v3 s0 s1 s2 σ) := by
  intro v0 v3 s0 s1 s2 σ
  unfold m_X9_run_b45
  refine V_iastore dX9_run_45 (fun σ1 hσ1 => ?_)
  refine V_aload_n (x := v0) dX9_run_46 rfl ?_
  refine V_iload_n (x := v3) dX9_run_47 rfl ?_
  refine V_callV0 (As := [.int v3]) (st0 := []) (stI := [.int v3, va_rf v0]) (fun _ h => by cases h; exact t_X9_recorded _ v3 σ1) (q := (RX9, TX9, 15)) rfl rfl rfl (Nat.le_of_ble_eq_true rfl) rfl (fun s args hts => cwV 1 hts gX9_run_X9_recorded rfl rfl rfl (by decide +kernel) ⟨Nat.le_of_ble_eq_true rfl, Nat.le_of_ble_eq_true rfl⟩) rfl rfl dX9_run_48 (fun r2 σ3 _ => ?_)
  exact V_iret (fun _ => rfl) rfl (Nat.zero_le _) (Nat.zero_le _) dX9_run_51
set_option maxRecDepth 100000 in
set_option maxHeartbeats 4000000 in
theorem v_X9_run {D : DG} {z0 : Nat} {l : Launch} : ∀ (a0 : Option Nat) (a1 : Int32) (a2 : Int32) (σ : SG), V D z0 l RX9 cX9_run 4 wsX9_run (some .int) rmX9_run false tvI 0 [some (va_rf a0), some (.int a1), some (.int a2), none] [] σ 0 0 (m_X9_run a0 a1 a2 σ) := by
  intro a0 a1 a2 σ
  unfold m_X9_run
  refine V_aload_n (x := a0) dX9_run_0 rfl ?_
  refine V_iload_n (x := a1) dX9_run_1 rfl ?_
  refine V_callV0 (As := [.int a1]) (st0 := []) (stI := [.int a1, va_rf a0]) (fun _ h => by cases h; exact t_X9_isMachine _ a1 σ) (q := (RX9, TX9, 15)) rfl rfl rfl (Nat.le_of_ble_eq_true rfl) rfl (fun s args hts => cwV 1 hts gX9_run_X9_isMachine rfl rfl rfl (by decide +kernel) ⟨Nat.le_of_ble_eq_true rfl, Nat.le_of_ble_eq_true rfl⟩) rfl rfl dX9_run_2 (fun r4 σ5 _ => ?_)
  refine V_if_ne (tgt := 10) (x := r4) dX9_run_5 (by decide) (fun hc6 => ?_) (fun hc6 => ?_)
  · refine V_iconst (v := (-1 : Int32)) dX9_run_8 rfl ?_
    exact V_iret (fun _ => rfl) rfl (Nat.zero_le _) (Nat.zero_le _) dX9_run_9
  · refine V_aload_n (x := a0) dX9_run_10 rfl ?_
    refine V_callV0 (As := []) (st0 := []) (stI := [va_rf a0]) (fun _ h => by cases h; exact t_X9_hold _ σ5) (q := (RX9, TX9, 15)) rfl rfl rfl (Nat.le_of_ble_eq_true rfl) rfl (fun s args hts => cwV 0 hts gX9_run_X9_hold rfl rfl rfl (by decide +kernel) ⟨Nat.le_of_ble_eq_true rfl, Nat.le_of_ble_eq_true rfl⟩) rfl rfl dX9_run_11 (fun _ σ7 _ => ?_)
    refine V_aload_n (x := a0) dX9_run_14 rfl ?_
    refine V_getR fd_X9_run_7_X9 dX9_run_15 (fun x8 => ?_)
    refine V_iload_n (x := a1) dX9_run_18 rfl ?_
    refine V_callS0 (As := [.int a1]) (st0 := [va_rf x8]) (stI := [.int a1, va_rf x8]) (t_X9_m a1 σ7) rfl (by simp only [List.map_cons, List.map_nil, List.sum_cons, List.sum_nil, va_rf_cat, catI, catF]; decide) rfl (fun s args hts => va_cwS 1 hts gX9_run_X9_m rfl rfl rfl (by decide +kernel) ⟨Nat.le_of_ble_eq_true rfl, Nat.le_of_ble_eq_true rfl⟩) rfl rfl dX9_run_19 (fun r9 σ10 _ => ?_)
    refine V_iconst (v := (4 : Int32)) dX9_run_22 rfl ?_
    refine V_iadd (x := r9) (y := (4 : Int32)) dX9_run_23 ?_
    refine V_iaload dX9_run_24 (fun x11 => ?_)
    refine V_istore_n (x := x11) (ls' := [some (va_rf a0), some (.int a1), some (.int a2), some (.int x11)]) dX9_run_25 (by decide) rfl ?_
    refine V_aload_n (x := a0) dX9_run_26 rfl ?_
    refine V_getR fd_X9_run_7_X9 dX9_run_27 (fun x12 => ?_)
    refine V_iload_n (x := a1) dX9_run_30 rfl ?_
    refine V_callS0 (As := [.int a1]) (st0 := [va_rf x12]) (stI := [.int a1, va_rf x12]) (t_X9_m a1 σ10) rfl (by simp only [List.map_cons, List.map_nil, List.sum_cons, List.sum_nil, va_rf_cat, catI, catF]; decide) rfl (fun s args hts => va_cwS 1 hts gX9_run_X9_m rfl rfl rfl (by decide +kernel) ⟨Nat.le_of_ble_eq_true rfl, Nat.le_of_ble_eq_true rfl⟩) rfl rfl dX9_run_31 (fun r13 σ14 _ => ?_)
    refine V_iconst (v := (4 : Int32)) dX9_run_34 rfl ?_
    refine V_iadd (x := r13) (y := (4 : Int32)) dX9_run_35 ?_
    refine V_iload_n (x := a2) dX9_run_36 rfl ?_
    refine V_if_eq (tgt := 44) (x := a2) dX9_run_37 (by decide) (fun hc15 => ?_) (fun hc15 => ?_)
    · refine V_iconst (v := (0 : Int32)) dX9_run_44 rfl ?_
      exact V_sub (LE.s (LE.n (LE.n (LE.s LE.e)))) (v_X9_run_b45  a0 x11 x12 ((r13 + (4 : Int32))) ((0 : Int32)) σ14)
    · refine V_iconst (v := (1 : Int32)) dX9_run_40 rfl ?_
      refine V_goto (tgt := 45) dX9_run_41 (by decide) ?_
      exact V_sub (LE.s (LE.n (LE.n (LE.s LE.e)))) (v_X9_run_b45  a0 x11 x12 ((r13 + (4 : Int32))) ((1 : Int32)) σ14)
theorem t_X9_run {D : DG} {z0 : Nat} {l : Launch} (a : Nat) (a1 : Int32) (a2 : Int32) (σ : SG) : MT D z0 l yX9_run wsX9_run rmX9_run tvI [.ref a, .int a1, .int a2] σ (m_X9_run (some a) a1 a2 σ) :=
  MT.of (own := RX9) (cc := cX9_run) (nL := 4) (ret := (some .int)) (ct := false) (by decide) rfl rfl (fun h => by cases h) (Nat.le_of_ble_eq_true rfl) (by intro v hv; simp only [List.mem_cons, List.not_mem_nil, or_false] at hv; first | (rcases hv with rfl | rfl | rfl <;> first | rfl | exact va_rf_cat _) | exact absurd hv (fun h => h)) (v_X9_run (some a) a1 a2 σ)
theorem in_X9_set_X9 : ∀ w ∈ u_ws RX9 TX9 15, w ∈ wsX9_set := by decide +kernel
theorem wd_X9_set_1 : Cond.fieldLink RX9 7 "MainsWordsModel" "s" "[I" ∈ wsX9_set := by decide +kernel
theorem fd_X9_set_7_X9 : FD RX9 7 wsX9_set 8 0 := ⟨RX9, "MainsWordsModel", TX9, 15, rfl, in_X9_set_X9, by decide, wd_X9_set_1, Or.inl rfl⟩
set_option maxRecDepth 100000 in
set_option maxHeartbeats 4000000 in
theorem v_X9_set_b33 {D : DG} {z0 : Nat} {l : Launch} : ∀ (v0 : Option Nat) (v1 : Int32) (v2 : Int32) (s0 : Int32) (s1 : Int32) (s2 : Int32) (σ : SG), V D z0 l RX9 cX9_set 4 wsX9_set (some .int) rmX9_set false tvI 33 [some (va_rf v0), some (.int v1), some (.int v2), none] [.int s2, .int s1, .int s0] σ 0 0 (m_X9_set_b33 v0 v1 v2 s0 s1 s2 σ) := by
  intro v0 v1 v2 s0 s1 s2 σ
  unfold m_X9_set_b33
  refine V_callS0 (As := [.int s0, .int s1, .int s2]) (st0 := []) (stI := [.int s2, .int s1, .int s0]) (t_X9_in s0 s1 s2 σ) rfl (Nat.le_of_ble_eq_true rfl) rfl (fun s args hts => va_cwS 3 hts gX9_set_X9_in rfl rfl rfl (by decide +kernel) ⟨Nat.le_of_ble_eq_true rfl, Nat.le_of_ble_eq_true rfl⟩) rfl rfl dX9_set_33 (fun r1 σ2 _ => ?_)
  refine V_if_ne (tgt := 42) (x := r1) dX9_set_36 (by decide) (fun hc3 => ?_) (fun hc3 => ?_)
  · refine V_bipush (v := (-2 : Int32)) dX9_set_39 rfl ?_
    exact V_iret (fun _ => rfl) rfl (Nat.zero_le _) (Nat.zero_le _) dX9_set_41
  · refine V_aload_n (x := v0) dX9_set_42 rfl ?_
    refine V_callV0 (As := []) (st0 := []) (stI := [va_rf v0]) (fun _ h => by cases h; exact t_X9_hold _ σ2) (q := (RX9, TX9, 15)) rfl rfl rfl (Nat.le_of_ble_eq_true rfl) rfl (fun s args hts => cwV 0 hts gX9_set_X9_hold rfl rfl rfl (by decide +kernel) ⟨Nat.le_of_ble_eq_true rfl, Nat.le_of_ble_eq_true rfl⟩) rfl rfl dX9_set_43 (fun _ σ4 _ => ?_)
    refine V_aload_n (x := v0) dX9_set_46 rfl ?_
    refine V_getR fd_X9_set_7_X9 dX9_set_47 (fun x5 => ?_)
    refine V_iload_n (x := v1) dX9_set_50 rfl ?_
    refine V_iaload dX9_set_51 (fun x6 => ?_)
    refine V_istore_n (x := x6) (ls' := [some (va_rf v0), some (.int v1), some (.int v2), some (.int x6)]) dX9_set_52 (by decide) rfl ?_
    refine V_aload_n (x := v0) dX9_set_53 rfl ?_
    refine V_getR fd_X9_set_7_X9 dX9_set_54 (fun x7 => ?_)
    refine V_iload_n (x := v1) dX9_set_57 rfl ?_
    refine V_iload_n (x := v2) dX9_set_58 rfl ?_
    refine V_iastore dX9_set_59 (fun σ8 hσ8 => ?_)
    refine V_aload_n (x := v0) dX9_set_60 rfl ?_
    refine V_iload_n (x := x6) dX9_set_61 rfl ?_
    refine V_callV0 (As := [.int x6]) (st0 := []) (stI := [.int x6, va_rf v0]) (fun _ h => by cases h; exact t_X9_recorded _ x6 σ8) (q := (RX9, TX9, 15)) rfl rfl rfl (Nat.le_of_ble_eq_true rfl) rfl (fun s args hts => cwV 1 hts gX9_set_X9_recorded rfl rfl rfl (by decide +kernel) ⟨Nat.le_of_ble_eq_true rfl, Nat.le_of_ble_eq_true rfl⟩) rfl rfl dX9_set_62 (fun r9 σ10 _ => ?_)
    exact V_iret (fun _ => rfl) rfl (Nat.zero_le _) (Nat.zero_le _) dX9_set_65
set_option maxRecDepth 100000 in
set_option maxHeartbeats 4000000 in
theorem v_X9_set_b22 {D : DG} {z0 : Nat} {l : Launch} : ∀ (v0 : Option Nat) (v1 : Int32) (v2 : Int32) (s0 : Int32) (s1 : Int32) (σ : SG), V D z0 l RX9 cX9_set 4 wsX9_set (some .int) rmX9_set false tvI 22 [some (va_rf v0), some (.int v1), some (.int v2), none] [.int s1, .int s0] σ 0 0 (m_X9_set_b22 v0 v1 v2 s0 s1 σ) := by
  intro v0 v1 v2 s0 s1 σ
  unfold m_X9_set_b22
  refine V_iload_n (x := v1) dX9_set_22 rfl ?_
  refine V_iconst (v := (3 : Int32)) dX9_set_23 rfl ?_
  refine V_icmp_ne (tgt := 31) (x := v1) (y := (3 : Int32)) dX9_set_24 (by decide) (fun hc11 => ?_) (fun hc11 => ?_)
  · refine V_iconst (v := (3 : Int32)) dX9_set_27 rfl ?_
    refine V_goto (tgt := 33) dX9_set_28 (by decide) ?_
    exact v_X9_set_b33  v0 v1 v2 s0 s1 ((3 : Int32)) σ
  · refine V_bipush (v := (9 : Int32)) dX9_set_31 rfl ?_
    exact v_X9_set_b33  v0 v1 v2 s0 s1 ((9 : Int32)) σ
set_option maxRecDepth 100000 in
set_option maxHeartbeats 4000000 in
theorem v_X9_set {D : DG} {z0 : Nat} {l : Launch} : ∀ (a0 : Option Nat) (a1 : Int32) (a2 : Int32) (σ : SG), V D z0 l RX9 cX9_set 4 wsX9_set (some .int) rmX9_set false tvI 0 [some (va_rf a0), some (.int a1), some (.int a2), none] [] σ 0 0 (m_X9_set a0 a1 a2 σ) := by
  intro a0 a1 a2 σ
  unfold m_X9_set
  refine V_iload_n (x := a1) dX9_set_0 rfl ?_
  refine V_iconst (v := (0 : Int32)) dX9_set_1 rfl ?_
  refine V_iconst (v := (3 : Int32)) dX9_set_2 rfl ?_
  refine V_callS0 (As := [.int a1, .int (0 : Int32), .int (3 : Int32)]) (st0 := []) (stI := [.int (3 : Int32), .int (0 : Int32), .int a1]) (t_X9_in a1 (0 : Int32) (3 : Int32) σ) rfl (Nat.le_of_ble_eq_true rfl) rfl (fun s args hts => va_cwS 3 hts gX9_set_X9_in rfl rfl rfl (by decide +kernel) ⟨Nat.le_of_ble_eq_true rfl, Nat.le_of_ble_eq_true rfl⟩) rfl rfl dX9_set_3 (fun r12 σ13 _ => ?_)
  refine V_if_ne (tgt := 11) (x := r12) dX9_set_6 (by decide) (fun hc14 => ?_) (fun hc14 => ?_)
  · refine V_iconst (v := (-1 : Int32)) dX9_set_9 rfl ?_
    exact V_iret (fun _ => rfl) rfl (Nat.zero_le _) (Nat.zero_le _) dX9_set_10
  · refine V_iload_n (x := a2) dX9_set_11 rfl ?_
    refine V_iload_n (x := a1) dX9_set_12 rfl ?_
    refine V_iconst (v := (2 : Int32)) dX9_set_13 rfl ?_
    refine V_icmp_ge (tgt := 21) (x := a1) (y := (2 : Int32)) dX9_set_14 (by decide) (fun hc15 => ?_) (fun hc15 => ?_)
    · refine V_iconst (v := (1 : Int32)) dX9_set_21 rfl ?_
      exact v_X9_set_b22  a0 a1 a2 a2 ((1 : Int32)) σ13
    · refine V_iconst (v := (0 : Int32)) dX9_set_17 rfl ?_
      refine V_goto (tgt := 22) dX9_set_18 (by decide) ?_
      exact v_X9_set_b22  a0 a1 a2 a2 ((0 : Int32)) σ13
theorem t_X9_set {D : DG} {z0 : Nat} {l : Launch} (a : Nat) (a1 : Int32) (a2 : Int32) (σ : SG) : MT D z0 l yX9_set wsX9_set rmX9_set tvI [.ref a, .int a1, .int a2] σ (m_X9_set (some a) a1 a2 σ) :=
  MT.of (own := RX9) (cc := cX9_set) (nL := 4) (ret := (some .int)) (ct := false) (by decide) rfl rfl (fun h => by cases h) (Nat.le_of_ble_eq_true rfl) (by intro v hv; simp only [List.mem_cons, List.not_mem_nil, or_false] at hv; first | (rcases hv with rfl | rfl | rfl <;> first | rfl | exact va_rf_cat _) | exact absurd hv (fun h => h)) (v_X9_set (some a) a1 a2 σ)
set_option maxRecDepth 100000 in
set_option maxHeartbeats 4000000 in
theorem v_X9_pass {D : DG} {z0 : Nat} {l : Launch} : ∀ (a0 : Option Nat) (a1 : Int32) (σ : SG), V D z0 l RX9 cX9_pass 3 wsX9_pass (some .int) rmX9_pass false tvI 0 [some (va_rf a0), some (.int a1), none] [] σ 0 0 (m_X9_pass a0 a1 σ) := by
  intro a0 a1 σ
  unfold m_X9_pass
  refine V_aload_n (x := a0) dX9_pass_0 rfl ?_
  refine V_callV0 (As := []) (st0 := []) (stI := [va_rf a0]) (fun _ h => by cases h; exact t_X9_hold _ σ) (q := (RX9, TX9, 15)) rfl rfl rfl (Nat.le_of_ble_eq_true rfl) rfl (fun s args hts => cwV 0 hts gX9_pass_X9_hold rfl rfl rfl (by decide +kernel) ⟨Nat.le_of_ble_eq_true rfl, Nat.le_of_ble_eq_true rfl⟩) rfl rfl dX9_pass_1 (fun _ σ1 _ => ?_)
  refine V_aload_n (x := a0) dX9_pass_4 rfl ?_
  refine V_iload_n (x := a1) dX9_pass_5 rfl ?_
  refine V_callV0 (As := [.int a1]) (st0 := []) (stI := [.int a1, va_rf a0]) (fun _ h => by cases h; exact t_X9_passes _ a1 σ1) (q := (RX9, TX9, 15)) rfl rfl rfl (Nat.le_of_ble_eq_true rfl) rfl (fun s args hts => cwV 1 hts gX9_pass_X9_passes rfl rfl rfl (by decide +kernel) ⟨Nat.le_of_ble_eq_true rfl, Nat.le_of_ble_eq_true rfl⟩) rfl rfl dX9_pass_6 (fun r2 σ3 _ => ?_)
  refine V_istore_n (x := r2) (ls' := [some (va_rf a0), some (.int a1), some (.int r2)]) dX9_pass_9 (by decide) rfl ?_
  refine V_iload_n (x := r2) dX9_pass_10 rfl ?_
  refine V_if_ge (tgt := 18) (x := r2) dX9_pass_11 (by decide) (fun hc4 => ?_) (fun hc4 => ?_)
  · refine V_aload_n (x := a0) dX9_pass_18 rfl ?_
    refine V_iload_n (x := r2) dX9_pass_19 rfl ?_
    refine V_callV0 (As := [.int r2]) (st0 := []) (stI := [.int r2, va_rf a0]) (fun _ h => by cases h; exact t_X9_recorded _ r2 σ3) (q := (RX9, TX9, 15)) rfl rfl rfl (Nat.le_of_ble_eq_true rfl) rfl (fun s args hts => cwV 1 hts gX9_pass_X9_recorded rfl rfl rfl (by decide +kernel) ⟨Nat.le_of_ble_eq_true rfl, Nat.le_of_ble_eq_true rfl⟩) rfl rfl dX9_pass_20 (fun r5 σ6 _ => ?_)
    exact V_iret (fun _ => rfl) rfl (Nat.zero_le _) (Nat.zero_le _) dX9_pass_23
  · refine V_iload_n (x := r2) dX9_pass_14 rfl ?_
    refine V_goto (tgt := 23) dX9_pass_15 (by decide) ?_
    exact V_iret (fun _ => rfl) rfl (Nat.zero_le _) (Nat.zero_le _) dX9_pass_23
theorem t_X9_pass {D : DG} {z0 : Nat} {l : Launch} (a : Nat) (a1 : Int32) (σ : SG) : MT D z0 l yX9_pass wsX9_pass rmX9_pass tvI [.ref a, .int a1] σ (m_X9_pass (some a) a1 σ) :=
  MT.of (own := RX9) (cc := cX9_pass) (nL := 3) (ret := (some .int)) (ct := false) (by decide) rfl rfl (fun h => by cases h) (Nat.le_of_ble_eq_true rfl) (by intro v hv; simp only [List.mem_cons, List.not_mem_nil, or_false] at hv; first | (rcases hv with rfl | rfl <;> first | rfl | exact va_rf_cat _) | exact absurd hv (fun h => h)) (v_X9_pass (some a) a1 σ)
theorem in_X9_append_X9 : ∀ w ∈ u_ws RX9 TX9 15, w ∈ wsX9_append := by decide +kernel
theorem wd_X9_append_1 : Cond.fieldLink RX9 141 "MainsWordsModel" "length" "I" ∈ wsX9_append := by decide +kernel
theorem fd_X9_append_141_X9 : FD RX9 141 wsX9_append 8 11 := ⟨RX9, "MainsWordsModel", TX9, 15, rfl, in_X9_append_X9, by decide, wd_X9_append_1, Or.inl rfl⟩
theorem wd_X9_append_3 : Cond.fieldLink RX9 38 "MainsWordsModel" "text" "[C" ∈ wsX9_append := by decide +kernel
theorem fd_X9_append_38_X9 : FD RX9 38 wsX9_append 8 9 := ⟨RX9, "MainsWordsModel", TX9, 15, rfl, in_X9_append_X9, by decide, wd_X9_append_3, Or.inl rfl⟩
theorem fw_X9_append_X9_11 : FW RX9 wsX9_append 8 11 .int false := ⟨RX9, TX9, 15, tyX9, rfl, in_X9_append_X9, tyX9_ok, nmX9, rfl, (fun h => by cases h), rfl⟩
set_option maxRecDepth 100000 in
set_option maxHeartbeats 4000000 in
theorem v_X9_append {D : DG} {z0 : Nat} {l : Launch} : ∀ (a0 : Option Nat) (a1 : Int32) (σ : SG), V D z0 l RX9 cX9_append 2 wsX9_append (some .int) rmX9_append false tvI 0 [some (va_rf a0), some (.int a1)] [] σ 0 0 (m_X9_append a0 a1 σ) := by
  intro a0 a1 σ
  unfold m_X9_append
  refine V_iload_n (x := a1) dX9_append_0 rfl ?_
  refine V_bipush (v := (32 : Int32)) dX9_append_1 rfl ?_
  refine V_bipush (v := (126 : Int32)) dX9_append_3 rfl ?_
  refine V_callS0 (As := [.int a1, .int (32 : Int32), .int (126 : Int32)]) (st0 := []) (stI := [.int (126 : Int32), .int (32 : Int32), .int a1]) (t_X9_in a1 (32 : Int32) (126 : Int32) σ) rfl (Nat.le_of_ble_eq_true rfl) rfl (fun s args hts => va_cwS 3 hts gX9_append_X9_in rfl rfl rfl (by decide +kernel) ⟨Nat.le_of_ble_eq_true rfl, Nat.le_of_ble_eq_true rfl⟩) rfl rfl dX9_append_5 (fun r1 σ2 _ => ?_)
  refine V_if_ne (tgt := 14) (x := r1) dX9_append_8 (by decide) (fun hc3 => ?_) (fun hc3 => ?_)
  · refine V_bipush (v := (-2 : Int32)) dX9_append_11 rfl ?_
    exact V_iret (fun _ => rfl) rfl (Nat.zero_le _) (Nat.zero_le _) dX9_append_13
  · refine V_aload_n (x := a0) dX9_append_14 rfl ?_
    refine V_getI fd_X9_append_141_X9 dX9_append_15 (fun x4 => ?_)
    refine V_bipush (v := (80 : Int32)) dX9_append_18 rfl ?_
    refine V_icmp_ne (tgt := 26) (x := x4) (y := (80 : Int32)) dX9_append_20 (by decide) (fun hc5 => ?_) (fun hc5 => ?_)
    · refine V_bipush (v := (-3 : Int32)) dX9_append_23 rfl ?_
      exact V_iret (fun _ => rfl) rfl (Nat.zero_le _) (Nat.zero_le _) dX9_append_25
    · refine V_aload_n (x := a0) dX9_append_26 rfl ?_
      refine V_getR fd_X9_append_38_X9 dX9_append_27 (fun x6 => ?_)
      refine V_aload_n (x := a0) dX9_append_30 rfl ?_
      refine V_getI fd_X9_append_141_X9 dX9_append_31 (fun x7 => ?_)
      refine V_iload_n (x := a1) dX9_append_34 rfl ?_
      refine V_i2c (x := a1) dX9_append_35 ?_
      refine V_castore dX9_append_36 (fun σ8 hσ8 => ?_)
      refine V_aload_n (x := a0) dX9_append_37 rfl ?_
      refine V_dup dX9_append_38 (va_rf_cat _) ?_
      refine V_getI fd_X9_append_141_X9 dX9_append_39 (fun x9 => ?_)
      refine V_iconst (v := (1 : Int32)) dX9_append_42 rfl ?_
      refine V_iadd (x := x9) (y := (1 : Int32)) dX9_append_43 ?_
      refine V_putI fd_X9_append_141_X9 fw_X9_append_X9_11 (fun h => by cases h) dX9_append_44 (fun σ10 hσ10 => ?_)
      refine V_aload_n (x := a0) dX9_append_47 rfl ?_
      refine V_getI fd_X9_append_141_X9 dX9_append_48 (fun x11 => ?_)
      exact V_iret (fun _ => rfl) rfl (Nat.zero_le _) (Nat.zero_le _) dX9_append_51
theorem t_X9_append {D : DG} {z0 : Nat} {l : Launch} (a : Nat) (a1 : Int32) (σ : SG) : MT D z0 l yX9_append wsX9_append rmX9_append tvI [.ref a, .int a1] σ (m_X9_append (some a) a1 σ) :=
  MT.of (own := RX9) (cc := cX9_append) (nL := 2) (ret := (some .int)) (ct := false) (by decide) rfl rfl (fun h => by cases h) (Nat.le_of_ble_eq_true rfl) (by intro v hv; simp only [List.mem_cons, List.not_mem_nil, or_false] at hv; first | (rcases hv with rfl | rfl <;> first | rfl | exact va_rf_cat _) | exact absurd hv (fun h => h)) (v_X9_append (some a) a1 σ)
theorem in_X9_clearText_X9 : ∀ w ∈ u_ws RX9 TX9 15, w ∈ wsX9_clearText := by decide +kernel
theorem wd_X9_clearText_1 : Cond.fieldLink RX9 141 "MainsWordsModel" "length" "I" ∈ wsX9_clearText := by decide +kernel
theorem fd_X9_clearText_141_X9 : FD RX9 141 wsX9_clearText 8 11 := ⟨RX9, "MainsWordsModel", TX9, 15, rfl, in_X9_clearText_X9, by decide, wd_X9_clearText_1, Or.inl rfl⟩
theorem fw_X9_clearText_X9_11 : FW RX9 wsX9_clearText 8 11 .int false := ⟨RX9, TX9, 15, tyX9, rfl, in_X9_clearText_X9, tyX9_ok, nmX9, rfl, (fun h => by cases h), rfl⟩
set_option maxRecDepth 100000 in
set_option maxHeartbeats 4000000 in
theorem v_X9_clearText {D : DG} {z0 : Nat} {l : Launch} : ∀ (a0 : Option Nat) (σ : SG), V D z0 l RX9 cX9_clearText 2 wsX9_clearText (some .int) rmX9_clearText false tvI 0 [some (va_rf a0), none] [] σ 0 0 (m_X9_clearText a0 σ) := by
  intro a0 σ
  unfold m_X9_clearText
  refine V_aload_n (x := a0) dX9_clearText_0 rfl ?_
  refine V_getI fd_X9_clearText_141_X9 dX9_clearText_1 (fun x1 => ?_)
  refine V_istore_n (x := x1) (ls' := [some (va_rf a0), some (.int x1)]) dX9_clearText_4 (by decide) rfl ?_
  refine V_aload_n (x := a0) dX9_clearText_5 rfl ?_
  refine V_iconst (v := (0 : Int32)) dX9_clearText_6 rfl ?_
  refine V_putI fd_X9_clearText_141_X9 fw_X9_clearText_X9_11 (fun h => by cases h) dX9_clearText_7 (fun σ2 hσ2 => ?_)
  refine V_iload_n (x := x1) dX9_clearText_10 rfl ?_
  exact V_iret (fun _ => rfl) rfl (Nat.zero_le _) (Nat.zero_le _) dX9_clearText_11
theorem t_X9_clearText {D : DG} {z0 : Nat} {l : Launch} (a : Nat)  (σ : SG) : MT D z0 l yX9_clearText wsX9_clearText rmX9_clearText tvI [.ref a] σ (m_X9_clearText (some a) σ) :=
  MT.of (own := RX9) (cc := cX9_clearText) (nL := 2) (ret := (some .int)) (ct := false) (by decide) rfl rfl (fun h => by cases h) (Nat.le_of_ble_eq_true rfl) (by intro v hv; simp only [List.mem_cons, List.not_mem_nil, or_false] at hv; first | (rcases hv with rfl <;> first | rfl | exact va_rf_cat _) | exact absurd hv (fun h => h)) (v_X9_clearText (some a) σ)
theorem in_X9_isSign_X9 : ∀ w ∈ u_ws RX9 TX9 15, w ∈ wsX9_isSign := by decide +kernel
theorem wd_X9_isSign_1 : Cond.fieldLink RX9 144 "MainsWordsModel" "at" "I" ∈ wsX9_isSign := by decide +kernel
theorem fd_X9_isSign_144_X9 : FD RX9 144 wsX9_isSign 8 14 := ⟨RX9, "MainsWordsModel", TX9, 15, rfl, in_X9_isSign_X9, by decide, wd_X9_isSign_1, Or.inl rfl⟩
theorem wd_X9_isSign_3 : Cond.fieldLink RX9 141 "MainsWordsModel" "length" "I" ∈ wsX9_isSign := by decide +kernel
theorem fd_X9_isSign_141_X9 : FD RX9 141 wsX9_isSign 8 11 := ⟨RX9, "MainsWordsModel", TX9, 15, rfl, in_X9_isSign_X9, by decide, wd_X9_isSign_3, Or.inl rfl⟩
theorem wd_X9_isSign_5 : Cond.fieldLink RX9 38 "MainsWordsModel" "text" "[C" ∈ wsX9_isSign := by decide +kernel
theorem fd_X9_isSign_38_X9 : FD RX9 38 wsX9_isSign 8 9 := ⟨RX9, "MainsWordsModel", TX9, 15, rfl, in_X9_isSign_X9, by decide, wd_X9_isSign_5, Or.inl rfl⟩
set_option maxRecDepth 100000 in
set_option maxHeartbeats 4000000 in
theorem v_X9_isSign {D : DG} {z0 : Nat} {l : Launch} : ∀ (a0 : Option Nat) (a1 : Int32) (a2 : Int32) (σ : SG), V D z0 l RX9 cX9_isSign 3 wsX9_isSign (some .boolean) rmX9_isSign false tvI 0 [some (va_rf a0), some (.int a1), some (.int a2)] [] σ 0 0 (m_X9_isSign a0 a1 a2 σ) := by
  intro a0 a1 a2 σ
  unfold m_X9_isSign
  refine V_aload_n (x := a0) dX9_isSign_0 rfl ?_
  refine V_getI fd_X9_isSign_144_X9 dX9_isSign_1 (fun x1 => ?_)
  refine V_aload_n (x := a0) dX9_isSign_4 rfl ?_
  refine V_getI fd_X9_isSign_141_X9 dX9_isSign_5 (fun x2 => ?_)
  refine V_icmp_ge (tgt := 41) (x := x1) (y := x2) dX9_isSign_8 (by decide) (fun hc3 => ?_) (fun hc3 => ?_)
  · refine V_iconst (v := (0 : Int32)) dX9_isSign_41 rfl ?_
    exact V_zret (fun _ => rfl) rfl (Nat.zero_le _) (Nat.zero_le _) dX9_isSign_42
  · refine V_aload_n (x := a0) dX9_isSign_11 rfl ?_
    refine V_getR fd_X9_isSign_38_X9 dX9_isSign_12 (fun x4 => ?_)
    refine V_aload_n (x := a0) dX9_isSign_15 rfl ?_
    refine V_getI fd_X9_isSign_144_X9 dX9_isSign_16 (fun x5 => ?_)
    refine V_caload dX9_isSign_19 (fun x6 => ?_)
    refine V_iload_n (x := a1) dX9_isSign_20 rfl ?_
    refine V_icmp_lt (tgt := 41) (x := x6) (y := a1) dX9_isSign_21 (by decide) (fun hc7 => ?_) (fun hc7 => ?_)
    · refine V_iconst (v := (0 : Int32)) dX9_isSign_41 rfl ?_
      exact V_zret (fun _ => rfl) rfl (Nat.zero_le _) (Nat.zero_le _) dX9_isSign_42
    · refine V_aload_n (x := a0) dX9_isSign_24 rfl ?_
      refine V_getR fd_X9_isSign_38_X9 dX9_isSign_25 (fun x8 => ?_)
      refine V_aload_n (x := a0) dX9_isSign_28 rfl ?_
      refine V_getI fd_X9_isSign_144_X9 dX9_isSign_29 (fun x9 => ?_)
      refine V_caload dX9_isSign_32 (fun x10 => ?_)
      refine V_iload_n (x := a2) dX9_isSign_33 rfl ?_
      refine V_icmp_gt (tgt := 41) (x := x10) (y := a2) dX9_isSign_34 (by decide) (fun hc11 => ?_) (fun hc11 => ?_)
      · refine V_iconst (v := (0 : Int32)) dX9_isSign_41 rfl ?_
        exact V_zret (fun _ => rfl) rfl (Nat.zero_le _) (Nat.zero_le _) dX9_isSign_42
      · refine V_iconst (v := (1 : Int32)) dX9_isSign_37 rfl ?_
        refine V_goto (tgt := 42) dX9_isSign_38 (by decide) ?_
        exact V_zret (fun _ => rfl) rfl (Nat.zero_le _) (Nat.zero_le _) dX9_isSign_42
theorem t_X9_isSign {D : DG} {z0 : Nat} {l : Launch} (a : Nat) (a1 : Int32) (a2 : Int32) (σ : SG) : MT D z0 l yX9_isSign wsX9_isSign rmX9_isSign tvI [.ref a, .int a1, .int a2] σ (m_X9_isSign (some a) a1 a2 σ) :=
  MT.of (own := RX9) (cc := cX9_isSign) (nL := 3) (ret := (some .boolean)) (ct := false) (by decide) rfl rfl (fun h => by cases h) (Nat.le_of_ble_eq_true rfl) (by intro v hv; simp only [List.mem_cons, List.not_mem_nil, or_false] at hv; first | (rcases hv with rfl | rfl | rfl <;> first | rfl | exact va_rf_cat _) | exact absurd hv (fun h => h)) (v_X9_isSign (some a) a1 a2 σ)
theorem in_X9_accepts_X9 : ∀ w ∈ u_ws RX9 TX9 15, w ∈ wsX9_accepts := by decide +kernel
theorem wd_X9_accepts_1 : Cond.fieldLink RX9 144 "MainsWordsModel" "at" "I" ∈ wsX9_accepts := by decide +kernel
theorem fd_X9_accepts_144_X9 : FD RX9 144 wsX9_accepts 8 14 := ⟨RX9, "MainsWordsModel", TX9, 15, rfl, in_X9_accepts_X9, by decide, wd_X9_accepts_1, Or.inl rfl⟩
theorem fw_X9_accepts_X9_14 : FW RX9 wsX9_accepts 8 14 .int false := ⟨RX9, TX9, 15, tyX9, rfl, in_X9_accepts_X9, tyX9_ok, nmX9, rfl, (fun h => by cases h), rfl⟩
set_option maxRecDepth 100000 in
set_option maxHeartbeats 4000000 in
theorem v_X9_accepts_b21 {D : DG} {z0 : Nat} {l : Launch} : ∀ (v2 : Int32) (s0 : Option Nat) (s1 : Int32) (s2 : Int32) (σ : SG), V D z0 l RX9 cX9_accepts 3 wsX9_accepts (some .boolean) rmX9_accepts false tvI 21 [none, none, some (.int v2)] [.int s2, .int s1, va_rf s0] σ 0 0 (m_X9_accepts_b21 v2 s0 s1 s2 σ) := by
  intro v2 s0 s1 s2 σ
  unfold m_X9_accepts_b21
  refine V_iadd (x := s1) (y := s2) dX9_accepts_21 ?_
  refine V_putI fd_X9_accepts_144_X9 fw_X9_accepts_X9_14 (fun h => by cases h) dX9_accepts_22 (fun σ1 hσ1 => ?_)
  refine V_iload_n (x := v2) dX9_accepts_25 rfl ?_
  exact V_zret (fun _ => rfl) rfl (Nat.zero_le _) (Nat.zero_le _) dX9_accepts_26
set_option maxRecDepth 100000 in
set_option maxHeartbeats 4000000 in
theorem v_X9_accepts {D : DG} {z0 : Nat} {l : Launch} : ∀ (a0 : Option Nat) (a1 : Int32) (σ : SG), V D z0 l RX9 cX9_accepts 3 wsX9_accepts (some .boolean) rmX9_accepts false tvI 0 [some (va_rf a0), some (.int a1), none] [] σ 0 0 (m_X9_accepts a0 a1 σ) := by
  intro a0 a1 σ
  unfold m_X9_accepts
  refine V_aload_n (x := a0) dX9_accepts_0 rfl ?_
  refine V_iload_n (x := a1) dX9_accepts_1 rfl ?_
  refine V_iload_n (x := a1) dX9_accepts_2 rfl ?_
  refine V_callV0 (As := [.int a1, .int a1]) (st0 := []) (stI := [.int a1, .int a1, va_rf a0]) (fun _ h => by cases h; exact t_X9_isSign _ a1 a1 σ) (q := (RX9, TX9, 15)) rfl rfl rfl (Nat.le_of_ble_eq_true rfl) rfl (fun s args hts => cwV 2 hts gX9_accepts_X9_isSign rfl rfl rfl (by decide +kernel) ⟨Nat.le_of_ble_eq_true rfl, Nat.le_of_ble_eq_true rfl⟩) rfl rfl dX9_accepts_3 (fun r2 σ3 _ => ?_)
  refine V_istore_n (x := r2) (ls' := [some (va_rf a0), some (.int a1), some (.int r2)]) dX9_accepts_6 (by decide) rfl ?_
  refine V_aload_n (x := a0) dX9_accepts_7 rfl ?_
  refine V_dup dX9_accepts_8 (va_rf_cat _) ?_
  refine V_getI fd_X9_accepts_144_X9 dX9_accepts_9 (fun x4 => ?_)
  refine V_iload_n (x := r2) dX9_accepts_12 rfl ?_
  refine V_if_eq (tgt := 20) (x := r2) dX9_accepts_13 (by decide) (fun hc5 => ?_) (fun hc5 => ?_)
  · refine V_iconst (v := (0 : Int32)) dX9_accepts_20 rfl ?_
    exact V_sub (LE.n (LE.n (LE.s LE.e))) (v_X9_accepts_b21  r2 a0 x4 ((0 : Int32)) σ3)
  · refine V_iconst (v := (1 : Int32)) dX9_accepts_16 rfl ?_
    refine V_goto (tgt := 21) dX9_accepts_17 (by decide) ?_
    exact V_sub (LE.n (LE.n (LE.s LE.e))) (v_X9_accepts_b21  r2 a0 x4 ((1 : Int32)) σ3)
theorem t_X9_accepts {D : DG} {z0 : Nat} {l : Launch} (a : Nat) (a1 : Int32) (σ : SG) : MT D z0 l yX9_accepts wsX9_accepts rmX9_accepts tvI [.ref a, .int a1] σ (m_X9_accepts (some a) a1 σ) :=
  MT.of (own := RX9) (cc := cX9_accepts) (nL := 3) (ret := (some .boolean)) (ct := false) (by decide) rfl rfl (fun h => by cases h) (Nat.le_of_ble_eq_true rfl) (by intro v hv; simp only [List.mem_cons, List.not_mem_nil, or_false] at hv; first | (rcases hv with rfl | rfl <;> first | rfl | exact va_rf_cat _) | exact absurd hv (fun h => h)) (v_X9_accepts (some a) a1 σ)
theorem in_X9_code_X9 : ∀ w ∈ u_ws RX9 TX9 15, w ∈ wsX9_code := by decide +kernel
theorem wd_X9_code_1 : Cond.fieldLink RX9 38 "MainsWordsModel" "text" "[C" ∈ wsX9_code := by decide +kernel
theorem fd_X9_code_38_X9 : FD RX9 38 wsX9_code 8 9 := ⟨RX9, "MainsWordsModel", TX9, 15, rfl, in_X9_code_X9, by decide, wd_X9_code_1, Or.inl rfl⟩
theorem wd_X9_code_3 : Cond.fieldLink RX9 144 "MainsWordsModel" "at" "I" ∈ wsX9_code := by decide +kernel
theorem fd_X9_code_144_X9 : FD RX9 144 wsX9_code 8 14 := ⟨RX9, "MainsWordsModel", TX9, 15, rfl, in_X9_code_X9, by decide, wd_X9_code_3, Or.inl rfl⟩
theorem fw_X9_code_X9_14 : FW RX9 wsX9_code 8 14 .int false := ⟨RX9, TX9, 15, tyX9, rfl, in_X9_code_X9, tyX9_ok, nmX9, rfl, (fun h => by cases h), rfl⟩
set_option maxRecDepth 100000 in
set_option maxHeartbeats 4000000 in
theorem v_X9_code {D : DG} {z0 : Nat} {l : Launch} : ∀ (a0 : Option Nat) (σ : SG), V D z0 l RX9 cX9_code 2 wsX9_code (some .int) rmX9_code false tvI 0 [some (va_rf a0), none] [] σ 0 0 (m_X9_code a0 σ) := by
  intro a0 σ
  unfold m_X9_code
  refine V_aload_n (x := a0) dX9_code_0 rfl ?_
  refine V_bipush (v := (48 : Int32)) dX9_code_1 rfl ?_
  refine V_bipush (v := (51 : Int32)) dX9_code_3 rfl ?_
  refine V_callV0 (As := [.int (48 : Int32), .int (51 : Int32)]) (st0 := []) (stI := [.int (51 : Int32), .int (48 : Int32), va_rf a0]) (fun _ h => by cases h; exact t_X9_isSign _ (48 : Int32) (51 : Int32) σ) (q := (RX9, TX9, 15)) rfl rfl rfl (Nat.le_of_ble_eq_true rfl) rfl (fun s args hts => cwV 2 hts gX9_code_X9_isSign rfl rfl rfl (by decide +kernel) ⟨Nat.le_of_ble_eq_true rfl, Nat.le_of_ble_eq_true rfl⟩) rfl rfl dX9_code_5 (fun r1 σ2 _ => ?_)
  refine V_if_eq (tgt := 36) (x := r1) dX9_code_8 (by decide) (fun hc3 => ?_) (fun hc3 => ?_)
  · refine V_aload_n (x := a0) dX9_code_36 rfl ?_
    refine V_bipush (v := (43 : Int32)) dX9_code_37 rfl ?_
    refine V_callV0 (As := [.int (43 : Int32)]) (st0 := []) (stI := [.int (43 : Int32), va_rf a0]) (fun _ h => by cases h; exact t_X9_accepts _ (43 : Int32) σ2) (q := (RX9, TX9, 15)) rfl rfl rfl (Nat.le_of_ble_eq_true rfl) rfl (fun s args hts => cwV 1 hts gX9_code_X9_accepts rfl rfl rfl (by decide +kernel) ⟨Nat.le_of_ble_eq_true rfl, Nat.le_of_ble_eq_true rfl⟩) rfl rfl dX9_code_39 (fun r4 σ5 _ => ?_)
    refine V_if_eq (tgt := 49) (x := r4) dX9_code_42 (by decide) (fun hc6 => ?_) (fun hc6 => ?_)
    · refine V_aload_n (x := a0) dX9_code_49 rfl ?_
      refine V_bipush (v := (45 : Int32)) dX9_code_50 rfl ?_
      refine V_callV0 (As := [.int (45 : Int32)]) (st0 := []) (stI := [.int (45 : Int32), va_rf a0]) (fun _ h => by cases h; exact t_X9_accepts _ (45 : Int32) σ5) (q := (RX9, TX9, 15)) rfl rfl rfl (Nat.le_of_ble_eq_true rfl) rfl (fun s args hts => cwV 1 hts gX9_code_X9_accepts rfl rfl rfl (by decide +kernel) ⟨Nat.le_of_ble_eq_true rfl, Nat.le_of_ble_eq_true rfl⟩) rfl rfl dX9_code_52 (fun r7 σ8 _ => ?_)
      refine V_if_eq (tgt := 62) (x := r7) dX9_code_55 (by decide) (fun hc9 => ?_) (fun hc9 => ?_)
      · refine V_aload_n (x := a0) dX9_code_62 rfl ?_
        refine V_bipush (v := (94 : Int32)) dX9_code_63 rfl ?_
        refine V_callV0 (As := [.int (94 : Int32)]) (st0 := []) (stI := [.int (94 : Int32), va_rf a0]) (fun _ h => by cases h; exact t_X9_accepts _ (94 : Int32) σ8) (q := (RX9, TX9, 15)) rfl rfl rfl (Nat.le_of_ble_eq_true rfl) rfl (fun s args hts => cwV 1 hts gX9_code_X9_accepts rfl rfl rfl (by decide +kernel) ⟨Nat.le_of_ble_eq_true rfl, Nat.le_of_ble_eq_true rfl⟩) rfl rfl dX9_code_65 (fun r10 σ11 _ => ?_)
        refine V_if_eq (tgt := 76) (x := r10) dX9_code_68 (by decide) (fun hc12 => ?_) (fun hc12 => ?_)
        · refine V_aload_n (x := a0) dX9_code_76 rfl ?_
          refine V_bipush (v := (33 : Int32)) dX9_code_77 rfl ?_
          refine V_callV0 (As := [.int (33 : Int32)]) (st0 := []) (stI := [.int (33 : Int32), va_rf a0]) (fun _ h => by cases h; exact t_X9_accepts _ (33 : Int32) σ11) (q := (RX9, TX9, 15)) rfl rfl rfl (Nat.le_of_ble_eq_true rfl) rfl (fun s args hts => cwV 1 hts gX9_code_X9_accepts rfl rfl rfl (by decide +kernel) ⟨Nat.le_of_ble_eq_true rfl, Nat.le_of_ble_eq_true rfl⟩) rfl rfl dX9_code_79 (fun r13 σ14 _ => ?_)
          refine V_if_eq (tgt := 90) (x := r13) dX9_code_82 (by decide) (fun hc15 => ?_) (fun hc15 => ?_)
          · refine V_iconst (v := (-1 : Int32)) dX9_code_90 rfl ?_
            exact V_iret (fun _ => rfl) rfl (Nat.zero_le _) (Nat.zero_le _) dX9_code_91
          · refine V_bipush (v := (7 : Int32)) dX9_code_85 rfl ?_
            refine V_goto (tgt := 91) dX9_code_87 (by decide) ?_
            exact V_iret (fun _ => rfl) rfl (Nat.zero_le _) (Nat.zero_le _) dX9_code_91
        · refine V_bipush (v := (6 : Int32)) dX9_code_71 rfl ?_
          refine V_goto (tgt := 91) dX9_code_73 (by decide) ?_
          exact V_iret (fun _ => rfl) rfl (Nat.zero_le _) (Nat.zero_le _) dX9_code_91
      · refine V_iconst (v := (5 : Int32)) dX9_code_58 rfl ?_
        refine V_goto (tgt := 91) dX9_code_59 (by decide) ?_
        exact V_iret (fun _ => rfl) rfl (Nat.zero_le _) (Nat.zero_le _) dX9_code_91
    · refine V_iconst (v := (4 : Int32)) dX9_code_45 rfl ?_
      refine V_goto (tgt := 91) dX9_code_46 (by decide) ?_
      exact V_iret (fun _ => rfl) rfl (Nat.zero_le _) (Nat.zero_le _) dX9_code_91
  · refine V_aload_n (x := a0) dX9_code_11 rfl ?_
    refine V_getR fd_X9_code_38_X9 dX9_code_12 (fun x16 => ?_)
    refine V_aload_n (x := a0) dX9_code_15 rfl ?_
    refine V_getI fd_X9_code_144_X9 dX9_code_16 (fun x17 => ?_)
    refine V_caload dX9_code_19 (fun x18 => ?_)
    refine V_bipush (v := (48 : Int32)) dX9_code_20 rfl ?_
    refine V_isub (x := x18) (y := (48 : Int32)) dX9_code_22 ?_
    refine V_istore_n (x := (x18 - (48 : Int32))) (ls' := [some (va_rf a0), some (.int (x18 - (48 : Int32)))]) dX9_code_23 (by decide) rfl ?_
    refine V_aload_n (x := a0) dX9_code_24 rfl ?_
    refine V_dup dX9_code_25 (va_rf_cat _) ?_
    refine V_getI fd_X9_code_144_X9 dX9_code_26 (fun x19 => ?_)
    refine V_iconst (v := (1 : Int32)) dX9_code_29 rfl ?_
    refine V_iadd (x := x19) (y := (1 : Int32)) dX9_code_30 ?_
    refine V_putI fd_X9_code_144_X9 fw_X9_code_X9_14 (fun h => by cases h) dX9_code_31 (fun σ20 hσ20 => ?_)
    refine V_iload_n (x := (x18 - (48 : Int32))) dX9_code_34 rfl ?_
    exact V_iret (fun _ => rfl) rfl (Nat.zero_le _) (Nat.zero_le _) dX9_code_35
theorem t_X9_code {D : DG} {z0 : Nat} {l : Launch} (a : Nat)  (σ : SG) : MT D z0 l yX9_code wsX9_code rmX9_code tvI [.ref a] σ (m_X9_code (some a) σ) :=
  MT.of (own := RX9) (cc := cX9_code) (nL := 2) (ret := (some .int)) (ct := false) (by decide) rfl rfl (fun h => by cases h) (Nat.le_of_ble_eq_true rfl) (by intro v hv; simp only [List.mem_cons, List.not_mem_nil, or_false] at hv; first | (rcases hv with rfl <;> first | rfl | exact va_rf_cat _) | exact absurd hv (fun h => h)) (v_X9_code (some a) σ)
theorem in_X9_word_X9 : ∀ w ∈ u_ws RX9 TX9 15, w ∈ wsX9_word := by decide +kernel
theorem wd_X9_word_1 : Cond.fieldLink RX9 159 "MainsWordsModel" "orders" "I" ∈ wsX9_word := by decide +kernel
theorem fd_X9_word_159_X9 : FD RX9 159 wsX9_word 8 13 := ⟨RX9, "MainsWordsModel", TX9, 15, rfl, in_X9_word_X9, by decide, wd_X9_word_1, Or.inl rfl⟩
theorem fw_X9_word_X9_13 : FW RX9 wsX9_word 8 13 .int false := ⟨RX9, TX9, 15, tyX9, rfl, in_X9_word_X9, tyX9_ok, nmX9, rfl, (fun h => by cases h), rfl⟩
theorem wd_X9_word_4 : Cond.fieldLink RX9 38 "MainsWordsModel" "text" "[C" ∈ wsX9_word := by decide +kernel
theorem fd_X9_word_38_X9 : FD RX9 38 wsX9_word 8 9 := ⟨RX9, "MainsWordsModel", TX9, 15, rfl, in_X9_word_X9, by decide, wd_X9_word_4, Or.inl rfl⟩
theorem wd_X9_word_6 : Cond.fieldLink RX9 144 "MainsWordsModel" "at" "I" ∈ wsX9_word := by decide +kernel
theorem fd_X9_word_144_X9 : FD RX9 144 wsX9_word 8 14 := ⟨RX9, "MainsWordsModel", TX9, 15, rfl, in_X9_word_X9, by decide, wd_X9_word_6, Or.inl rfl⟩
theorem fw_X9_word_X9_14 : FW RX9 wsX9_word 8 14 .int false := ⟨RX9, TX9, 15, tyX9, rfl, in_X9_word_X9, tyX9_ok, nmX9, rfl, (fun h => by cases h), rfl⟩
theorem wd_X9_word_9 : Cond.fieldLink RX9 35 "MainsWordsModel" "read" "[I" ∈ wsX9_word := by decide +kernel
theorem fd_X9_word_35_X9 : FD RX9 35 wsX9_word 8 8 := ⟨RX9, "MainsWordsModel", TX9, 15, rfl, in_X9_word_X9, by decide, wd_X9_word_9, Or.inl rfl⟩
set_option maxRecDepth 100000 in
set_option maxHeartbeats 4000000 in
theorem v_X9_word_b86 {D : DG} {z0 : Nat} {l : Launch} : ∀ (v3 : Int32) (s0 : Option Nat) (s1 : Int32) (s2 : Int32) (σ : SG), V D z0 l RX9 cX9_word 4 wsX9_word (some .boolean) rmX9_word false tvI 86 [none, none, none, some (.int v3)] [.int s2, .int s1, va_rf s0] σ 0 0 (m_X9_word_b86 v3 s0 s1 s2 σ) := by
  intro v3 s0 s1 s2 σ
  unfold m_X9_word_b86
  refine V_iadd (x := s1) (y := s2) dX9_word_86 ?_
  refine V_putI fd_X9_word_159_X9 fw_X9_word_X9_13 (fun h => by cases h) dX9_word_87 (fun σ1 hσ1 => ?_)
  refine V_iload_n (x := v3) dX9_word_90 rfl ?_
  refine V_if_lt (tgt := 98) (x := v3) dX9_word_91 (by decide) (fun hc2 => ?_) (fun hc2 => ?_)
  · refine V_iconst (v := (0 : Int32)) dX9_word_98 rfl ?_
    exact V_zret (fun _ => rfl) rfl (Nat.zero_le _) (Nat.zero_le _) dX9_word_99
  · refine V_iconst (v := (1 : Int32)) dX9_word_94 rfl ?_
    refine V_goto (tgt := 99) dX9_word_95 (by decide) ?_
    exact V_zret (fun _ => rfl) rfl (Nat.zero_le _) (Nat.zero_le _) dX9_word_99
set_option maxRecDepth 100000 in
set_option maxHeartbeats 4000000 in
theorem v_X9_word {D : DG} {z0 : Nat} {l : Launch} : ∀ (a0 : Option Nat) (a1 : Int32) (σ : SG), V D z0 l RX9 cX9_word 4 wsX9_word (some .boolean) rmX9_word false tvI 0 [some (va_rf a0), some (.int a1), none, none] [] σ 0 0 (m_X9_word a0 a1 σ) := by
  intro a0 a1 σ
  unfold m_X9_word
  refine V_aload_n (x := a0) dX9_word_0 rfl ?_
  refine V_bipush (v := (65 : Int32)) dX9_word_1 rfl ?_
  refine V_bipush (v := (68 : Int32)) dX9_word_3 rfl ?_
  refine V_callV0 (As := [.int (65 : Int32), .int (68 : Int32)]) (st0 := []) (stI := [.int (68 : Int32), .int (65 : Int32), va_rf a0]) (fun _ h => by cases h; exact t_X9_isSign _ (65 : Int32) (68 : Int32) σ) (q := (RX9, TX9, 15)) rfl rfl rfl (Nat.le_of_ble_eq_true rfl) rfl (fun s args hts => cwV 2 hts gX9_word_X9_isSign rfl rfl rfl (by decide +kernel) ⟨Nat.le_of_ble_eq_true rfl, Nat.le_of_ble_eq_true rfl⟩) rfl rfl dX9_word_5 (fun r3 σ4 _ => ?_)
  refine V_if_ne (tgt := 13) (x := r3) dX9_word_8 (by decide) (fun hc5 => ?_) (fun hc5 => ?_)
  · refine V_iconst (v := (0 : Int32)) dX9_word_11 rfl ?_
    exact V_zret (fun _ => rfl) rfl (Nat.zero_le _) (Nat.zero_le _) dX9_word_12
  · refine V_aload_n (x := a0) dX9_word_13 rfl ?_
    refine V_getR fd_X9_word_38_X9 dX9_word_14 (fun x6 => ?_)
    refine V_aload_n (x := a0) dX9_word_17 rfl ?_
    refine V_getI fd_X9_word_144_X9 dX9_word_18 (fun x7 => ?_)
    refine V_caload dX9_word_21 (fun x8 => ?_)
    refine V_bipush (v := (65 : Int32)) dX9_word_22 rfl ?_
    refine V_isub (x := x8) (y := (65 : Int32)) dX9_word_24 ?_
    refine V_istore_n (x := (x8 - (65 : Int32))) (ls' := [some (va_rf a0), some (.int a1), some (.int (x8 - (65 : Int32))), none]) dX9_word_25 (by decide) rfl ?_
    refine V_aload_n (x := a0) dX9_word_26 rfl ?_
    refine V_dup dX9_word_27 (va_rf_cat _) ?_
    refine V_getI fd_X9_word_144_X9 dX9_word_28 (fun x9 => ?_)
    refine V_iconst (v := (1 : Int32)) dX9_word_31 rfl ?_
    refine V_iadd (x := x9) (y := (1 : Int32)) dX9_word_32 ?_
    refine V_putI fd_X9_word_144_X9 fw_X9_word_X9_14 (fun h => by cases h) dX9_word_33 (fun σ10 hσ10 => ?_)
    refine V_aload_n (x := a0) dX9_word_36 rfl ?_
    refine V_callV0 (As := []) (st0 := []) (stI := [va_rf a0]) (fun _ h => by cases h; exact t_X9_code _ σ10) (q := (RX9, TX9, 15)) rfl rfl rfl (Nat.le_of_ble_eq_true rfl) rfl (fun s args hts => cwV 0 hts gX9_word_X9_code rfl rfl rfl (by decide +kernel) ⟨Nat.le_of_ble_eq_true rfl, Nat.le_of_ble_eq_true rfl⟩) rfl rfl dX9_word_37 (fun r11 σ12 _ => ?_)
    refine V_istore_n (x := r11) (ls' := [some (va_rf a0), some (.int a1), some (.int (x8 - (65 : Int32))), some (.int r11)]) dX9_word_40 (by decide) rfl ?_
    refine V_aload_n (x := a0) dX9_word_41 rfl ?_
    refine V_getR fd_X9_word_35_X9 dX9_word_42 (fun x13 => ?_)
    refine V_iconst (v := (2 : Int32)) dX9_word_45 rfl ?_
    refine V_aload_n (x := a0) dX9_word_46 rfl ?_
    refine V_getI fd_X9_word_159_X9 dX9_word_47 (fun x14 => ?_)
    refine V_imul (x := (2 : Int32)) (y := x14) dX9_word_50 ?_
    refine V_iload_n (x := a1) dX9_word_51 rfl ?_
    refine V_iastore dX9_word_52 (fun σ15 hσ15 => ?_)
    refine V_aload_n (x := a0) dX9_word_53 rfl ?_
    refine V_getR fd_X9_word_35_X9 dX9_word_54 (fun x16 => ?_)
    refine V_iconst (v := (2 : Int32)) dX9_word_57 rfl ?_
    refine V_aload_n (x := a0) dX9_word_58 rfl ?_
    refine V_getI fd_X9_word_159_X9 dX9_word_59 (fun x17 => ?_)
    refine V_imul (x := (2 : Int32)) (y := x17) dX9_word_62 ?_
    refine V_iconst (v := (1 : Int32)) dX9_word_63 rfl ?_
    refine V_iadd (x := ((2 : Int32) * x17)) (y := (1 : Int32)) dX9_word_64 ?_
    refine V_bipush (v := (8 : Int32)) dX9_word_65 rfl ?_
    refine V_iload_n (x := (x8 - (65 : Int32))) dX9_word_67 rfl ?_
    refine V_imul (x := (8 : Int32)) (y := (x8 - (65 : Int32))) dX9_word_68 ?_
    refine V_iload_n (x := r11) dX9_word_69 rfl ?_
    refine V_iadd (x := ((8 : Int32) * (x8 - (65 : Int32)))) (y := r11) dX9_word_70 ?_
    refine V_iastore dX9_word_71 (fun σ18 hσ18 => ?_)
    refine V_aload_n (x := a0) dX9_word_72 rfl ?_
    refine V_dup dX9_word_73 (va_rf_cat _) ?_
    refine V_getI fd_X9_word_159_X9 dX9_word_74 (fun x19 => ?_)
    refine V_iload_n (x := r11) dX9_word_77 rfl ?_
    refine V_if_lt (tgt := 85) (x := r11) dX9_word_78 (by decide) (fun hc20 => ?_) (fun hc20 => ?_)
    · refine V_iconst (v := (0 : Int32)) dX9_word_85 rfl ?_
      exact V_sub (LE.n (LE.n (LE.n (LE.s LE.e)))) (v_X9_word_b86  r11 a0 x19 ((0 : Int32)) σ18)
    · refine V_iconst (v := (1 : Int32)) dX9_word_81 rfl ?_
      refine V_goto (tgt := 86) dX9_word_82 (by decide) ?_
      exact V_sub (LE.n (LE.n (LE.n (LE.s LE.e)))) (v_X9_word_b86  r11 a0 x19 ((1 : Int32)) σ18)
theorem t_X9_word {D : DG} {z0 : Nat} {l : Launch} (a : Nat) (a1 : Int32) (σ : SG) : MT D z0 l yX9_word wsX9_word rmX9_word tvI [.ref a, .int a1] σ (m_X9_word (some a) a1 σ) :=
  MT.of (own := RX9) (cc := cX9_word) (nL := 4) (ret := (some .boolean)) (ct := false) (by decide) rfl rfl (fun h => by cases h) (Nat.le_of_ble_eq_true rfl) (by intro v hv; simp only [List.mem_cons, List.not_mem_nil, or_false] at hv; first | (rcases hv with rfl | rfl <;> first | rfl | exact va_rf_cat _) | exact absurd hv (fun h => h)) (v_X9_word (some a) a1 σ)
theorem in_X9_words_X9 : ∀ w ∈ u_ws RX9 TX9 15, w ∈ wsX9_words := by decide +kernel
theorem wd_X9_words_1 : Cond.fieldLink RX9 38 "MainsWordsModel" "text" "[C" ∈ wsX9_words := by decide +kernel
theorem fd_X9_words_38_X9 : FD RX9 38 wsX9_words 8 9 := ⟨RX9, "MainsWordsModel", TX9, 15, rfl, in_X9_words_X9, by decide, wd_X9_words_1, Or.inl rfl⟩
theorem wd_X9_words_3 : Cond.fieldLink RX9 144 "MainsWordsModel" "at" "I" ∈ wsX9_words := by decide +kernel
theorem fd_X9_words_144_X9 : FD RX9 144 wsX9_words 8 14 := ⟨RX9, "MainsWordsModel", TX9, 15, rfl, in_X9_words_X9, by decide, wd_X9_words_3, Or.inl rfl⟩
theorem fw_X9_words_X9_14 : FW RX9 wsX9_words 8 14 .int false := ⟨RX9, TX9, 15, tyX9, rfl, in_X9_words_X9, tyX9_ok, nmX9, rfl, (fun h => by cases h), rfl⟩
set_option maxRecDepth 100000 in
set_option maxHeartbeats 4000000 in
theorem v_X9_words_B46 {D : DG} {z0 : Nat} {l : Launch} {rec46 : Option Nat → Int32 → Int32 → SG → Option (Int32 × SG)} (hrec46 : ∀ (v0 : Option Nat) (v1 : Int32) (v2 : Int32) (σ : SG), V D z0 l RX9 cX9_words 3 wsX9_words (some .boolean) rmX9_words false tvI 46 [some (va_rf v0), some (.int v1), some (.int v2)] [] σ 0 0 (rec46 v0 v1 v2 σ)) : ∀ (v0 : Option Nat) (v1 : Int32) (v2 : Int32) (σ : SG), V D z0 l RX9 cX9_words 3 wsX9_words (some .boolean) rmX9_words false tvI 46 [some (va_rf v0), some (.int v1), some (.int v2)] [] σ 0 0 (m_X9_words_B46 rec46 v0 v1 v2 σ) := by
  intro v0 v1 v2 σ
  unfold m_X9_words_B46
  refine V_iload_n (x := v2) dX9_words_46 rfl ?_
  refine V_if_eq (tgt := 70) (x := v2) dX9_words_47 (by decide) (fun hc1 => ?_) (fun hc1 => ?_)
  · refine V_iload_n (x := v2) dX9_words_70 rfl ?_
    exact V_zret (fun _ => rfl) rfl (Nat.zero_le _) (Nat.zero_le _) dX9_words_71
  · refine V_aload_n (x := v0) dX9_words_50 rfl ?_
    refine V_bipush (v := (65 : Int32)) dX9_words_51 rfl ?_
    refine V_bipush (v := (68 : Int32)) dX9_words_53 rfl ?_
    refine V_callV0 (As := [.int (65 : Int32), .int (68 : Int32)]) (st0 := []) (stI := [.int (68 : Int32), .int (65 : Int32), va_rf v0]) (fun _ h => by cases h; exact t_X9_isSign _ (65 : Int32) (68 : Int32) σ) (q := (RX9, TX9, 15)) rfl rfl rfl (Nat.le_of_ble_eq_true rfl) rfl (fun s args hts => cwV 2 hts gX9_words_X9_isSign rfl rfl rfl (by decide +kernel) ⟨Nat.le_of_ble_eq_true rfl, Nat.le_of_ble_eq_true rfl⟩) rfl rfl dX9_words_55 (fun r2 σ3 _ => ?_)
    refine V_if_eq (tgt := 70) (x := r2) dX9_words_58 (by decide) (fun hc4 => ?_) (fun hc4 => ?_)
    · refine V_iload_n (x := v2) dX9_words_70 rfl ?_
      exact V_zret (fun _ => rfl) rfl (Nat.zero_le _) (Nat.zero_le _) dX9_words_71
    · refine V_aload_n (x := v0) dX9_words_61 rfl ?_
      refine V_iload_n (x := v1) dX9_words_62 rfl ?_
      refine V_callV0 (As := [.int v1]) (st0 := []) (stI := [.int v1, va_rf v0]) (fun _ h => by cases h; exact t_X9_word _ v1 σ3) (q := (RX9, TX9, 15)) rfl rfl rfl (Nat.le_of_ble_eq_true rfl) rfl (fun s args hts => cwV 1 hts gX9_words_X9_word rfl rfl rfl (by decide +kernel) ⟨Nat.le_of_ble_eq_true rfl, Nat.le_of_ble_eq_true rfl⟩) rfl rfl dX9_words_63 (fun r5 σ6 _ => ?_)
      refine V_istore_n (x := r5) (ls' := [some (va_rf v0), some (.int v1), some (.int r5)]) dX9_words_66 (by decide) rfl ?_
      refine V_goto (tgt := 46) dX9_words_67 (by decide) ?_
      exact hrec46 v0 v1 r5 σ6
theorem v_X9_words_L46 {D : DG} {z0 : Nat} {l : Launch} : ∀ (n : Nat) (v0 : Option Nat) (v1 : Int32) (v2 : Int32) (σ : SG), V D z0 l RX9 cX9_words 3 wsX9_words (some .boolean) rmX9_words false tvI 46 [some (va_rf v0), some (.int v1), some (.int v2)] [] σ 0 0 (m_X9_words_L46 n v0 v1 v2 σ) := by
  intro n
  induction n with
  | zero => intros; exact V_none
  | succ n ih => exact v_X9_words_B46  ih
set_option maxRecDepth 100000 in
set_option maxHeartbeats 4000000 in
theorem v_X9_words_b45 {D : DG} {z0 : Nat} {l : Launch} : ∀ (v0 : Option Nat) (v1 : Int32) (s0 : Int32) (σ : SG), V D z0 l RX9 cX9_words 3 wsX9_words (some .boolean) rmX9_words false tvI 45 [some (va_rf v0), some (.int v1), none] [.int s0] σ 0 0 (m_X9_words_b45 v0 v1 s0 σ) := by
  intro v0 v1 s0 σ
  unfold m_X9_words_b45
  refine V_istore_n (x := s0) (ls' := [some (va_rf v0), some (.int v1), some (.int s0)]) dX9_words_45 (by decide) rfl ?_
  exact v_X9_words_L46  1000 v0 v1 s0 σ
set_option maxRecDepth 100000 in
set_option maxHeartbeats 4000000 in
theorem v_X9_words_b44 {D : DG} {z0 : Nat} {l : Launch} : ∀ (v0 : Option Nat) (v1 : Int32) (σ : SG), V D z0 l RX9 cX9_words 3 wsX9_words (some .boolean) rmX9_words false tvI 44 [some (va_rf v0), some (.int v1), none] [] σ 0 0 (m_X9_words_b44 v0 v1 σ) := by
  intro v0 v1 σ
  unfold m_X9_words_b44
  refine V_iconst (v := (0 : Int32)) dX9_words_44 rfl ?_
  exact v_X9_words_b45  v0 v1 ((0 : Int32)) σ
set_option maxRecDepth 100000 in
set_option maxHeartbeats 4000000 in
theorem v_X9_words {D : DG} {z0 : Nat} {l : Launch} : ∀ (a0 : Option Nat) (σ : SG), V D z0 l RX9 cX9_words 3 wsX9_words (some .boolean) rmX9_words false tvI 0 [some (va_rf a0), none, none] [] σ 0 0 (m_X9_words a0 σ) := by
  intro a0 σ
  unfold m_X9_words
  refine V_aload_n (x := a0) dX9_words_0 rfl ?_
  refine V_getR fd_X9_words_38_X9 dX9_words_1 (fun x7 => ?_)
  refine V_aload_n (x := a0) dX9_words_4 rfl ?_
  refine V_getI fd_X9_words_144_X9 dX9_words_5 (fun x8 => ?_)
  refine V_caload dX9_words_8 (fun x9 => ?_)
  refine V_bipush (v := (48 : Int32)) dX9_words_9 rfl ?_
  refine V_isub (x := x9) (y := (48 : Int32)) dX9_words_11 ?_
  refine V_istore_n (x := (x9 - (48 : Int32))) (ls' := [some (va_rf a0), some (.int (x9 - (48 : Int32))), none]) dX9_words_12 (by decide) rfl ?_
  refine V_aload_n (x := a0) dX9_words_13 rfl ?_
  refine V_dup dX9_words_14 (va_rf_cat _) ?_
  refine V_getI fd_X9_words_144_X9 dX9_words_15 (fun x10 => ?_)
  refine V_iconst (v := (1 : Int32)) dX9_words_18 rfl ?_
  refine V_iadd (x := x10) (y := (1 : Int32)) dX9_words_19 ?_
  refine V_putI fd_X9_words_144_X9 fw_X9_words_X9_14 (fun h => by cases h) dX9_words_20 (fun σ11 hσ11 => ?_)
  refine V_aload_n (x := a0) dX9_words_23 rfl ?_
  refine V_bipush (v := (58 : Int32)) dX9_words_24 rfl ?_
  refine V_callV0 (As := [.int (58 : Int32)]) (st0 := []) (stI := [.int (58 : Int32), va_rf a0]) (fun _ h => by cases h; exact t_X9_accepts _ (58 : Int32) σ11) (q := (RX9, TX9, 15)) rfl rfl rfl (Nat.le_of_ble_eq_true rfl) rfl (fun s args hts => cwV 1 hts gX9_words_X9_accepts rfl rfl rfl (by decide +kernel) ⟨Nat.le_of_ble_eq_true rfl, Nat.le_of_ble_eq_true rfl⟩) rfl rfl dX9_words_26 (fun r12 σ13 _ => ?_)
  refine V_if_eq (tgt := 44) (x := r12) dX9_words_29 (by decide) (fun hc14 => ?_) (fun hc14 => ?_)
  · exact v_X9_words_b44  a0 ((x9 - (48 : Int32))) σ13
  · refine V_aload_n (x := a0) dX9_words_32 rfl ?_
    refine V_iload_n (x := (x9 - (48 : Int32))) dX9_words_33 rfl ?_
    refine V_callV0 (As := [.int (x9 - (48 : Int32))]) (st0 := []) (stI := [.int (x9 - (48 : Int32)), va_rf a0]) (fun _ h => by cases h; exact t_X9_word _ (x9 - (48 : Int32)) σ13) (q := (RX9, TX9, 15)) rfl rfl rfl (Nat.le_of_ble_eq_true rfl) rfl (fun s args hts => cwV 1 hts gX9_words_X9_word rfl rfl rfl (by decide +kernel) ⟨Nat.le_of_ble_eq_true rfl, Nat.le_of_ble_eq_true rfl⟩) rfl rfl dX9_words_34 (fun r15 σ16 _ => ?_)
    refine V_if_eq (tgt := 44) (x := r15) dX9_words_37 (by decide) (fun hc17 => ?_) (fun hc17 => ?_)
    · exact v_X9_words_b44  a0 ((x9 - (48 : Int32))) σ16
    · refine V_iconst (v := (1 : Int32)) dX9_words_40 rfl ?_
      refine V_goto (tgt := 45) dX9_words_41 (by decide) ?_
      exact v_X9_words_b45  a0 ((x9 - (48 : Int32))) ((1 : Int32)) σ16
theorem t_X9_words {D : DG} {z0 : Nat} {l : Launch} (a : Nat)  (σ : SG) : MT D z0 l yX9_words wsX9_words rmX9_words tvI [.ref a] σ (m_X9_words (some a) σ) :=
  MT.of (own := RX9) (cc := cX9_words) (nL := 3) (ret := (some .boolean)) (ct := false) (by decide) rfl rfl (fun h => by cases h) (Nat.le_of_ble_eq_true rfl) (by intro v hv; simp only [List.mem_cons, List.not_mem_nil, or_false] at hv; first | (rcases hv with rfl <;> first | rfl | exact va_rf_cat _) | exact absurd hv (fun h => h)) (v_X9_words (some a) σ)
