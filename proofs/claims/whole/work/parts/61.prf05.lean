theorem in_X8_silentIn_X8 : ∀ w ∈ u_ws RX8 TX8 6, w ∈ wsX8_silentIn := by decide +kernel
theorem wd_X8_silentIn_1 : Cond.fieldLink RX8 16 "MainsWords" "ahead" "LMainsWords$Net;" ∈ wsX8_silentIn := by decide +kernel
theorem fd_X8_silentIn_16_X8 : FD RX8 16 wsX8_silentIn 7 1 := ⟨RX8, "MainsWords", TX8, 6, rfl, in_X8_silentIn_X8, by decide, wd_X8_silentIn_1, Or.inl rfl⟩
theorem wd_X8_silentIn_3 : Cond.fieldLink RX8 10 "MainsWords" "now" "LMainsWords$Net;" ∈ wsX8_silentIn := by decide +kernel
theorem fd_X8_silentIn_10_X8 : FD RX8 10 wsX8_silentIn 7 0 := ⟨RX8, "MainsWords", TX8, 6, rfl, in_X8_silentIn_X8, by decide, wd_X8_silentIn_3, Or.inl rfl⟩
set_option maxRecDepth 100000 in
set_option maxHeartbeats 4000000 in
theorem v_X8_silentIn_B13 {D : DG} {z0 : Nat} {l : Launch} {rec13 : Option Nat → Int32 → SG → Option (Int32 × SG)} (hrec13 : ∀ (v0 : Option Nat) (v1 : Int32) (σ : SG), V D z0 l RX8 cX8_silentIn 2 wsX8_silentIn (some .int) rmX8_silentIn false tvI 13 [some (va_rf v0), some (.int v1)] [] σ 0 0 (rec13 v0 v1 σ)) : ∀ (v0 : Option Nat) (v1 : Int32) (σ : SG), V D z0 l RX8 cX8_silentIn 2 wsX8_silentIn (some .int) rmX8_silentIn false tvI 13 [some (va_rf v0), some (.int v1)] [] σ 0 0 (m_X8_silentIn_B13 rec13 v0 v1 σ) := by
  intro v0 v1 σ
  unfold m_X8_silentIn_B13
  refine V_iload_n (x := v1) dX8_silentIn_13 rfl ?_
  refine V_sipush (v := (600 : Int32)) dX8_silentIn_14 rfl ?_
  refine V_icmp_gt (tgt := 46) (x := v1) (y := (600 : Int32)) dX8_silentIn_17 (by decide) (fun hc1 => ?_) (fun hc1 => ?_)
  · refine V_bipush (v := (-5 : Int32)) dX8_silentIn_46 rfl ?_
    exact V_iret (fun _ => rfl) rfl (Nat.zero_le _) (Nat.zero_le _) dX8_silentIn_48
  · refine V_aload_n (x := v0) dX8_silentIn_20 rfl ?_
    refine V_getR fd_X8_silentIn_16_X8 dX8_silentIn_21 (fun x2 => ?_)
    refine V_callV0 (As := []) (st0 := []) (stI := [va_rf x2]) (fun _ h => by cases h; exact t_X3_queuedWords _ σ) (q := (RX3, TX3, 8)) rfl rfl rfl (Nat.le_of_ble_eq_true rfl) rfl (fun s args hts => cwV 0 hts gX8_silentIn_X3_queuedWords rfl rfl rfl (by decide +kernel) ⟨Nat.le_of_ble_eq_true rfl, Nat.le_of_ble_eq_true rfl⟩) rfl rfl dX8_silentIn_24 (fun r3 σ4 _ => ?_)
    refine V_if_ne (tgt := 32) (x := r3) dX8_silentIn_27 (by decide) (fun hc5 => ?_) (fun hc5 => ?_)
    · refine V_iload_n (x := v1) dX8_silentIn_30 rfl ?_
      exact V_iret (fun _ => rfl) rfl (Nat.zero_le _) (Nat.zero_le _) dX8_silentIn_31
    · refine V_aload_n (x := v0) dX8_silentIn_32 rfl ?_
      refine V_getR fd_X8_silentIn_16_X8 dX8_silentIn_33 (fun x6 => ?_)
      refine V_callV0 (As := []) (st0 := []) (stI := [va_rf x6]) (fun _ h => by cases h; exact t_X3_beat _ σ4) (q := (RX3, TX3, 8)) rfl rfl rfl (Nat.le_of_ble_eq_true rfl) rfl (fun s args hts => cwV 0 hts gX8_silentIn_X3_beat rfl rfl rfl (by decide +kernel) ⟨Nat.le_of_ble_eq_true rfl, Nat.le_of_ble_eq_true rfl⟩) rfl rfl dX8_silentIn_36 (fun r7 σ8 _ => ?_)
      refine V_pop dX8_silentIn_39 rfl ?_
      refine V_iinc (x := v1) (v := (v1 + 1)) (ls' := [some (va_rf v0), some (.int (v1 + 1))]) dX8_silentIn_40 rfl rfl (by decide) rfl ?_
      refine V_goto (tgt := 13) dX8_silentIn_43 (by decide) ?_
      exact hrec13 v0 ((v1 + 1)) σ8
theorem v_X8_silentIn_L13 {D : DG} {z0 : Nat} {l : Launch} : ∀ (n : Nat) (v0 : Option Nat) (v1 : Int32) (σ : SG), V D z0 l RX8 cX8_silentIn 2 wsX8_silentIn (some .int) rmX8_silentIn false tvI 13 [some (va_rf v0), some (.int v1)] [] σ 0 0 (m_X8_silentIn_L13 n v0 v1 σ) := by
  intro n
  induction n with
  | zero => intros; exact V_none
  | succ n ih => exact v_X8_silentIn_B13  ih
set_option maxRecDepth 100000 in
set_option maxHeartbeats 4000000 in
theorem v_X8_silentIn {D : DG} {z0 : Nat} {l : Launch} : ∀ (a0 : Option Nat) (σ : SG), V D z0 l RX8 cX8_silentIn 2 wsX8_silentIn (some .int) rmX8_silentIn false tvI 0 [some (va_rf a0), none] [] σ 0 0 (m_X8_silentIn a0 σ) := by
  intro a0 σ
  unfold m_X8_silentIn
  refine V_aload_n (x := a0) dX8_silentIn_0 rfl ?_
  refine V_getR fd_X8_silentIn_16_X8 dX8_silentIn_1 (fun x9 => ?_)
  refine V_aload_n (x := a0) dX8_silentIn_4 rfl ?_
  refine V_getR fd_X8_silentIn_10_X8 dX8_silentIn_5 (fun x10 => ?_)
  refine V_callV0 (As := [va_rf x10]) (st0 := []) (stI := [va_rf x10, va_rf x9]) (fun _ h => by cases h; exact t_X3_copyFrom _ x10 σ) (q := (RX3, TX3, 8)) rfl rfl rfl (Nat.le_of_ble_eq_true rfl) rfl (fun s args hts => cwV 1 hts gX8_silentIn_X3_copyFrom rfl rfl rfl (by decide +kernel) ⟨Nat.le_of_ble_eq_true rfl, Nat.le_of_ble_eq_true rfl⟩) rfl rfl dX8_silentIn_8 (fun _ σ11 _ => ?_)
  refine V_iconst (v := (0 : Int32)) dX8_silentIn_11 rfl ?_
  refine V_istore_n (x := (0 : Int32)) (ls' := [some (va_rf a0), some (.int (0 : Int32))]) dX8_silentIn_12 (by decide) rfl ?_
  exact v_X8_silentIn_L13  1000 a0 ((0 : Int32)) σ11
theorem t_X8_silentIn {D : DG} {z0 : Nat} {l : Launch} (a : Nat)  (σ : SG) : MT D z0 l yX8_silentIn wsX8_silentIn rmX8_silentIn tvI [.ref a] σ (m_X8_silentIn (some a) σ) :=
  MT.of (own := RX8) (cc := cX8_silentIn) (nL := 2) (ret := (some .int)) (ct := false) (by decide) rfl rfl (fun h => by cases h) (Nat.le_of_ble_eq_true rfl) (by intro v hv; simp only [List.mem_cons, List.not_mem_nil, or_false] at hv; first | (rcases hv with rfl <;> first | rfl | exact va_rf_cat _) | exact absurd hv (fun h => h)) (v_X8_silentIn (some a) σ)
theorem in_X8_levelIn_X8 : ∀ w ∈ u_ws RX8 TX8 6, w ∈ wsX8_levelIn := by decide +kernel
theorem wd_X8_levelIn_1 : Cond.fieldLink RX8 10 "MainsWords" "now" "LMainsWords$Net;" ∈ wsX8_levelIn := by decide +kernel
theorem fd_X8_levelIn_10_X8 : FD RX8 10 wsX8_levelIn 7 0 := ⟨RX8, "MainsWords", TX8, 6, rfl, in_X8_levelIn_X8, by decide, wd_X8_levelIn_1, Or.inl rfl⟩
theorem wd_X8_levelIn_3 : Cond.fieldLink RX8 16 "MainsWords" "ahead" "LMainsWords$Net;" ∈ wsX8_levelIn := by decide +kernel
theorem fd_X8_levelIn_16_X8 : FD RX8 16 wsX8_levelIn 7 1 := ⟨RX8, "MainsWords", TX8, 6, rfl, in_X8_levelIn_X8, by decide, wd_X8_levelIn_3, Or.inl rfl⟩
theorem in_X8_levelIn_X1 : ∀ w ∈ u_ws RX1 TX1 7, w ∈ wsX8_levelIn := by decide +kernel
theorem wd_X8_levelIn_6 : Cond.fieldLink RX8 215 "MainsWords$Lamp" "level" "I" ∈ wsX8_levelIn := by decide +kernel
theorem fd_X8_levelIn_215_X1 : FD RX8 215 wsX8_levelIn 1 5 := ⟨RX1, "MainsWords$Lamp", TX1, 7, rfl, in_X8_levelIn_X1, by decide, wd_X8_levelIn_6, Or.inl rfl⟩
set_option maxRecDepth 100000 in
set_option maxHeartbeats 4000000 in
theorem v_X8_levelIn {D : DG} {z0 : Nat} {l : Launch} : ∀ (a0 : Option Nat) (a1 : Int32) (a2 : Int32) (σ : SG), V D z0 l RX8 cX8_levelIn 4 wsX8_levelIn (some .int) rmX8_levelIn false tvI 0 [some (va_rf a0), some (.int a1), some (.int a2), none] [] σ 0 0 (m_X8_levelIn a0 a1 a2 σ) := by
  intro a0 a1 a2 σ
  unfold m_X8_levelIn
  refine V_aload_n (x := a0) dX8_levelIn_0 rfl ?_
  refine V_getR fd_X8_levelIn_10_X8 dX8_levelIn_1 (fun x1 => ?_)
  refine V_iload_n (x := a1) dX8_levelIn_4 rfl ?_
  refine V_callV0 (As := [.int a1]) (st0 := []) (stI := [.int a1, va_rf x1]) (fun _ h => by cases h; exact t_X3_lampAt _ a1 σ) (q := (RX3, TX3, 8)) rfl rfl rfl (Nat.le_of_ble_eq_true rfl) rfl (fun s args hts => cwV 1 hts gX8_levelIn_X3_lampAt rfl rfl rfl (by decide +kernel) ⟨Nat.le_of_ble_eq_true rfl, Nat.le_of_ble_eq_true rfl⟩) rfl rfl dX8_levelIn_5 (fun r2 σ3 _ => ?_)
  refine V_ifnonnull (tgt := 13) (x := r2) dX8_levelIn_8 (by decide) (fun hc4 => ?_) (fun hc4 => ?_)
  · refine V_iconst (v := (-1 : Int32)) dX8_levelIn_11 rfl ?_
    exact V_iret (fun _ => rfl) rfl (Nat.zero_le _) (Nat.zero_le _) dX8_levelIn_12
  · refine V_iload_n (x := a2) dX8_levelIn_13 rfl ?_
    refine V_if_lt (tgt := 24) (x := a2) dX8_levelIn_14 (by decide) (fun hc5 => ?_) (fun hc5 => ?_)
    · refine V_bipush (v := (-2 : Int32)) dX8_levelIn_24 rfl ?_
      exact V_iret (fun _ => rfl) rfl (Nat.zero_le _) (Nat.zero_le _) dX8_levelIn_26
    · refine V_iload_n (x := a2) dX8_levelIn_17 rfl ?_
      refine V_sipush (v := (400 : Int32)) dX8_levelIn_18 rfl ?_
      refine V_icmp_le (tgt := 27) (x := a2) (y := (400 : Int32)) dX8_levelIn_21 (by decide) (fun hc6 => ?_) (fun hc6 => ?_)
      · refine V_aload_n (x := a0) dX8_levelIn_27 rfl ?_
        refine V_getR fd_X8_levelIn_16_X8 dX8_levelIn_28 (fun x7 => ?_)
        refine V_aload_n (x := a0) dX8_levelIn_31 rfl ?_
        refine V_getR fd_X8_levelIn_10_X8 dX8_levelIn_32 (fun x8 => ?_)
        refine V_callV0 (As := [va_rf x8]) (st0 := []) (stI := [va_rf x8, va_rf x7]) (fun _ h => by cases h; exact t_X3_copyFrom _ x8 σ3) (q := (RX3, TX3, 8)) rfl rfl rfl (Nat.le_of_ble_eq_true rfl) rfl (fun s args hts => cwV 1 hts gX8_levelIn_X3_copyFrom rfl rfl rfl (by decide +kernel) ⟨Nat.le_of_ble_eq_true rfl, Nat.le_of_ble_eq_true rfl⟩) rfl rfl dX8_levelIn_35 (fun _ σ9 _ => ?_)
        refine V_aload_n (x := a0) dX8_levelIn_38 rfl ?_
        refine V_getR fd_X8_levelIn_16_X8 dX8_levelIn_39 (fun x10 => ?_)
        refine V_iload_n (x := a2) dX8_levelIn_42 rfl ?_
        refine V_callV0 (As := [.int a2]) (st0 := []) (stI := [.int a2, va_rf x10]) (fun _ h => by cases h; exact t_X3_letPass _ a2 σ9) (q := (RX3, TX3, 8)) rfl rfl rfl (Nat.le_of_ble_eq_true rfl) rfl (fun s args hts => cwV 1 hts gX8_levelIn_X3_letPass rfl rfl rfl (by decide +kernel) ⟨Nat.le_of_ble_eq_true rfl, Nat.le_of_ble_eq_true rfl⟩) rfl rfl dX8_levelIn_43 (fun r11 σ12 _ => ?_)
        refine V_pop dX8_levelIn_46 rfl ?_
        refine V_aload_n (x := a0) dX8_levelIn_47 rfl ?_
        refine V_getR fd_X8_levelIn_16_X8 dX8_levelIn_48 (fun x13 => ?_)
        refine V_iload_n (x := a1) dX8_levelIn_51 rfl ?_
        refine V_callV0 (As := [.int a1]) (st0 := []) (stI := [.int a1, va_rf x13]) (fun _ h => by cases h; exact t_X3_lampAt _ a1 σ12) (q := (RX3, TX3, 8)) rfl rfl rfl (Nat.le_of_ble_eq_true rfl) rfl (fun s args hts => cwV 1 hts gX8_levelIn_X3_lampAt rfl rfl rfl (by decide +kernel) ⟨Nat.le_of_ble_eq_true rfl, Nat.le_of_ble_eq_true rfl⟩) rfl rfl dX8_levelIn_52 (fun r14 σ15 _ => ?_)
        refine V_astore_n (x := r14) (ls' := [some (va_rf a0), some (.int a1), some (.int a2), some (va_rf r14)]) dX8_levelIn_55 (by decide) rfl ?_
        refine V_aload_n (x := r14) dX8_levelIn_56 rfl ?_
        refine V_ifnonnull (tgt := 64) (x := r14) dX8_levelIn_57 (by decide) (fun hc16 => ?_) (fun hc16 => ?_)
        · refine V_iconst (v := (-1 : Int32)) dX8_levelIn_60 rfl ?_
          refine V_goto (tgt := 68) dX8_levelIn_61 (by decide) ?_
          exact V_iret (fun _ => rfl) rfl (Nat.zero_le _) (Nat.zero_le _) dX8_levelIn_68
        · refine V_aload_n (x := r14) dX8_levelIn_64 rfl ?_
          refine V_getI fd_X8_levelIn_215_X1 dX8_levelIn_65 (fun x17 => ?_)
          exact V_iret (fun _ => rfl) rfl (Nat.zero_le _) (Nat.zero_le _) dX8_levelIn_68
      · refine V_bipush (v := (-2 : Int32)) dX8_levelIn_24 rfl ?_
        exact V_iret (fun _ => rfl) rfl (Nat.zero_le _) (Nat.zero_le _) dX8_levelIn_26
theorem t_X8_levelIn {D : DG} {z0 : Nat} {l : Launch} (a : Nat) (a1 : Int32) (a2 : Int32) (σ : SG) : MT D z0 l yX8_levelIn wsX8_levelIn rmX8_levelIn tvI [.ref a, .int a1, .int a2] σ (m_X8_levelIn (some a) a1 a2 σ) :=
  MT.of (own := RX8) (cc := cX8_levelIn) (nL := 4) (ret := (some .int)) (ct := false) (by decide) rfl rfl (fun h => by cases h) (Nat.le_of_ble_eq_true rfl) (by intro v hv; simp only [List.mem_cons, List.not_mem_nil, or_false] at hv; first | (rcases hv with rfl | rfl | rfl <;> first | rfl | exact va_rf_cat _) | exact absurd hv (fun h => h)) (v_X8_levelIn (some a) a1 a2 σ)
theorem in_X8_freshness_X8 : ∀ w ∈ u_ws RX8 TX8 6, w ∈ wsX8_freshness := by decide +kernel
theorem wd_X8_freshness_1 : Cond.fieldLink RX8 10 "MainsWords" "now" "LMainsWords$Net;" ∈ wsX8_freshness := by decide +kernel
theorem fd_X8_freshness_10_X8 : FD RX8 10 wsX8_freshness 7 0 := ⟨RX8, "MainsWords", TX8, 6, rfl, in_X8_freshness_X8, by decide, wd_X8_freshness_1, Or.inl rfl⟩
theorem in_X8_freshness_X3 : ∀ w ∈ u_ws RX3 TX3 8, w ∈ wsX8_freshness := by decide +kernel
theorem wd_X8_freshness_4 : Cond.fieldLink RX8 279 "MainsWords$Net" "totals" "[I" ∈ wsX8_freshness := by decide +kernel
theorem fd_X8_freshness_279_X3 : FD RX8 279 wsX8_freshness 3 5 := ⟨RX3, "MainsWords$Net", TX3, 8, rfl, in_X8_freshness_X3, by decide, wd_X8_freshness_4, Or.inl rfl⟩
set_option maxRecDepth 100000 in
set_option maxHeartbeats 4000000 in
theorem v_X8_freshness {D : DG} {z0 : Nat} {l : Launch} : ∀ (a0 : Option Nat) (σ : SG), V D z0 l RX8 cX8_freshness 2 wsX8_freshness (some .float) rmX8_freshness false tvF 0 [some (va_rf a0), none] [] σ 0 0 (m_X8_freshness a0 σ) := by
  intro a0 σ
  unfold m_X8_freshness
  refine V_aload_n (x := a0) dX8_freshness_0 rfl ?_
  refine V_getR fd_X8_freshness_10_X8 dX8_freshness_1 (fun x1 => ?_)
  refine V_getR fd_X8_freshness_279_X3 dX8_freshness_4 (fun x2 => ?_)
  refine V_iconst (v := (2 : Int32)) dX8_freshness_7 rfl ?_
  refine V_iaload dX8_freshness_8 (fun x3 => ?_)
  refine V_aload_n (x := a0) dX8_freshness_9 rfl ?_
  refine V_getR fd_X8_freshness_10_X8 dX8_freshness_10 (fun x4 => ?_)
  refine V_getR fd_X8_freshness_279_X3 dX8_freshness_13 (fun x5 => ?_)
  refine V_iconst (v := (3 : Int32)) dX8_freshness_16 rfl ?_
  refine V_iaload dX8_freshness_17 (fun x6 => ?_)
  refine V_iadd (x := x3) (y := x6) dX8_freshness_18 ?_
  refine V_aload_n (x := a0) dX8_freshness_19 rfl ?_
  refine V_getR fd_X8_freshness_10_X8 dX8_freshness_20 (fun x7 => ?_)
  refine V_getR fd_X8_freshness_279_X3 dX8_freshness_23 (fun x8 => ?_)
  refine V_iconst (v := (4 : Int32)) dX8_freshness_26 rfl ?_
  refine V_iaload dX8_freshness_27 (fun x9 => ?_)
  refine V_iadd (x := (x3 + x6)) (y := x9) dX8_freshness_28 ?_
  refine V_istore_n (x := ((x3 + x6) + x9)) (ls' := [some (va_rf a0), some (.int ((x3 + x6) + x9))]) dX8_freshness_29 (by decide) rfl ?_
  refine V_iload_n (x := ((x3 + x6) + x9)) dX8_freshness_30 rfl ?_
  refine V_if_ne (tgt := 36) (x := ((x3 + x6) + x9)) dX8_freshness_31 (by decide) (fun hc10 => ?_) (fun hc10 => ?_)
  · refine V_fconst0 dX8_freshness_34 ?_
    exact V_fret (fun _ => rfl) rfl (Nat.zero_le _) (Nat.zero_le _) dX8_freshness_35
  · refine V_aload_n (x := a0) dX8_freshness_36 rfl ?_
    refine V_getR fd_X8_freshness_10_X8 dX8_freshness_37 (fun x11 => ?_)
    refine V_getR fd_X8_freshness_279_X3 dX8_freshness_40 (fun x12 => ?_)
    refine V_iconst (v := (2 : Int32)) dX8_freshness_43 rfl ?_
    refine V_iaload dX8_freshness_44 (fun x13 => ?_)
    refine V_i2f (x := x13) dX8_freshness_45 ?_
    refine V_iload_n (x := ((x3 + x6) + x9)) dX8_freshness_46 rfl ?_
    refine V_i2f (x := ((x3 + x6) + x9)) dX8_freshness_47 ?_
    refine V_fdiv dX8_freshness_48 (fun f14 => ?_)
    exact V_fret (fun _ => rfl) rfl (Nat.zero_le _) (Nat.zero_le _) dX8_freshness_49
theorem t_X8_freshness {D : DG} {z0 : Nat} {l : Launch} (a : Nat)  (σ : SG) : MT D z0 l yX8_freshness wsX8_freshness rmX8_freshness tvF [.ref a] σ (m_X8_freshness (some a) σ) :=
  MT.of (own := RX8) (cc := cX8_freshness) (nL := 2) (ret := (some .float)) (ct := false) (by decide) rfl rfl (fun h => by cases h) (Nat.le_of_ble_eq_true rfl) (by intro v hv; simp only [List.mem_cons, List.not_mem_nil, or_false] at hv; first | (rcases hv with rfl <;> first | rfl | exact va_rf_cat _) | exact absurd hv (fun h => h)) (v_X8_freshness (some a) σ)
set_option maxRecDepth 100000 in
set_option maxHeartbeats 4000000 in
theorem v_X9_r {D : DG} {z0 : Nat} {l : Launch} : ∀ (a0 : Int32) (σ : SG), V D z0 l RX9 cX9_r 1 wsX9_r (some .int) rmX9_r false tvI 0 [some (.int a0)] [] σ 0 0 (m_X9_r a0 σ) := by
  intro a0 σ
  unfold m_X9_r
  refine V_sipush (v := (148 : Int32)) dX9_r_0 rfl ?_
  refine V_bipush (v := (7 : Int32)) dX9_r_3 rfl ?_
  refine V_iload_n (x := a0) dX9_r_5 rfl ?_
  refine V_imul (x := (7 : Int32)) (y := a0) dX9_r_6 ?_
  refine V_iadd (x := (148 : Int32)) (y := ((7 : Int32) * a0)) dX9_r_7 ?_
  exact V_iret (fun _ => rfl) rfl (Nat.zero_le _) (Nat.zero_le _) dX9_r_8
theorem t_X9_r {D : DG} {z0 : Nat} {l : Launch} (a0 : Int32) (σ : SG) : MT D z0 l yX9_r wsX9_r rmX9_r tvI [.int a0] σ (m_X9_r a0 σ) :=
  MT.of (own := RX9) (cc := cX9_r) (nL := 1) (ret := (some .int)) (ct := false) (by decide) rfl rfl (fun h => by cases h) (Nat.le_of_ble_eq_true rfl) (by intro v hv; simp only [List.mem_cons, List.not_mem_nil, or_false] at hv; first | (rcases hv with rfl <;> first | rfl | exact va_rf_cat _) | exact absurd hv (fun h => h)) (v_X9_r a0 σ)
theorem in_X9_init_X9 : ∀ w ∈ u_ws RX9 TX9 15, w ∈ wsX9_init := by decide +kernel
theorem wd_X9_init_1 : Cond.fieldLink RX9 7 "MainsWordsModel" "s" "[I" ∈ wsX9_init := by decide +kernel
theorem fd_X9_init_7_X9 : FD RX9 7 wsX9_init 8 0 := ⟨RX9, "MainsWordsModel", TX9, 15, rfl, in_X9_init_X9, by decide, wd_X9_init_1, Or.inl rfl⟩
theorem wd_X9_init_3 : Cond.methodLink RX9 1 objectInit ∈ wsX9_init := by decide +kernel
theorem wd_X9_init_4 : Cond.instanceMethod objectInit ∈ wsX9_init := by decide +kernel
theorem wd_X9_init_5 : Cond.code objectInit ⟨#[0xb1]⟩ 1 none ∈ wsX9_init := by decide +kernel
theorem wd_X9_init_6 : Cond.arrayClass .int ∈ wsX9_init := by decide +kernel
theorem fw_X9_init_X9_0 : FW RX9 wsX9_init 8 0 (.array .int) true := ⟨RX9, TX9, 15, tyX9, rfl, in_X9_init_X9, tyX9_ok, nmX9, rfl, (fun _ => rfl), rfl⟩
theorem wd_X9_init_8 : Cond.fieldLink RX9 13 "MainsWordsModel" "spare" "[I" ∈ wsX9_init := by decide +kernel
theorem fd_X9_init_13_X9 : FD RX9 13 wsX9_init 8 1 := ⟨RX9, "MainsWordsModel", TX9, 15, rfl, in_X9_init_X9, by decide, wd_X9_init_8, Or.inl rfl⟩
theorem fw_X9_init_X9_1 : FW RX9 wsX9_init 8 1 (.array .int) true := ⟨RX9, TX9, 15, tyX9, rfl, in_X9_init_X9, tyX9_ok, nmX9, rfl, (fun _ => rfl), rfl⟩
theorem wd_X9_init_11 : Cond.fieldLink RX9 16 "MainsWordsModel" "trial" "[I" ∈ wsX9_init := by decide +kernel
theorem fd_X9_init_16_X9 : FD RX9 16 wsX9_init 8 2 := ⟨RX9, "MainsWordsModel", TX9, 15, rfl, in_X9_init_X9, by decide, wd_X9_init_11, Or.inl rfl⟩
theorem fw_X9_init_X9_2 : FW RX9 wsX9_init 8 2 (.array .int) true := ⟨RX9, TX9, 15, tyX9, rfl, in_X9_init_X9, tyX9_ok, nmX9, rfl, (fun _ => rfl), rfl⟩
theorem wd_X9_init_14 : Cond.fieldLink RX9 19 "MainsWordsModel" "before" "[I" ∈ wsX9_init := by decide +kernel
theorem fd_X9_init_19_X9 : FD RX9 19 wsX9_init 8 3 := ⟨RX9, "MainsWordsModel", TX9, 15, rfl, in_X9_init_X9, by decide, wd_X9_init_14, Or.inl rfl⟩
theorem fw_X9_init_X9_3 : FW RX9 wsX9_init 8 3 (.array .int) true := ⟨RX9, TX9, 15, tyX9, rfl, in_X9_init_X9, tyX9_ok, nmX9, rfl, (fun _ => rfl), rfl⟩
theorem wd_X9_init_17 : Cond.fieldLink RX9 22 "MainsWordsModel" "saved" "[I" ∈ wsX9_init := by decide +kernel
theorem fd_X9_init_22_X9 : FD RX9 22 wsX9_init 8 4 := ⟨RX9, "MainsWordsModel", TX9, 15, rfl, in_X9_init_X9, by decide, wd_X9_init_17, Or.inl rfl⟩
theorem fw_X9_init_X9_4 : FW RX9 wsX9_init 8 4 (.array .int) true := ⟨RX9, TX9, 15, tyX9, rfl, in_X9_init_X9, tyX9_ok, nmX9, rfl, (fun _ => rfl), rfl⟩
theorem wd_X9_init_20 : Cond.fieldLink RX9 25 "MainsWordsModel" "heard" "[I" ∈ wsX9_init := by decide +kernel
theorem fd_X9_init_25_X9 : FD RX9 25 wsX9_init 8 5 := ⟨RX9, "MainsWordsModel", TX9, 15, rfl, in_X9_init_X9, by decide, wd_X9_init_20, Or.inl rfl⟩
theorem fw_X9_init_X9_5 : FW RX9 wsX9_init 8 5 (.array .int) true := ⟨RX9, TX9, 15, tyX9, rfl, in_X9_init_X9, tyX9_ok, nmX9, rfl, (fun _ => rfl), rfl⟩
theorem wd_X9_init_23 : Cond.fieldLink RX9 28 "MainsWordsModel" "bits" "[I" ∈ wsX9_init := by decide +kernel
theorem fd_X9_init_28_X9 : FD RX9 28 wsX9_init 8 6 := ⟨RX9, "MainsWordsModel", TX9, 15, rfl, in_X9_init_X9, by decide, wd_X9_init_23, Or.inl rfl⟩
theorem fw_X9_init_X9_6 : FW RX9 wsX9_init 8 6 (.array .int) true := ⟨RX9, TX9, 15, tyX9, rfl, in_X9_init_X9, tyX9_ok, nmX9, rfl, (fun _ => rfl), rfl⟩
theorem wd_X9_init_26 : Cond.arrayClass .boolean ∈ wsX9_init := by decide +kernel
theorem wd_X9_init_27 : Cond.fieldLink RX9 31 "MainsWordsModel" "begins" "[Z" ∈ wsX9_init := by decide +kernel
theorem fd_X9_init_31_X9 : FD RX9 31 wsX9_init 8 7 := ⟨RX9, "MainsWordsModel", TX9, 15, rfl, in_X9_init_X9, by decide, wd_X9_init_27, Or.inl rfl⟩
theorem fw_X9_init_X9_7 : FW RX9 wsX9_init 8 7 (.array .boolean) true := ⟨RX9, TX9, 15, tyX9, rfl, in_X9_init_X9, tyX9_ok, nmX9, rfl, (fun _ => rfl), rfl⟩
theorem wd_X9_init_30 : Cond.fieldLink RX9 35 "MainsWordsModel" "read" "[I" ∈ wsX9_init := by decide +kernel
theorem fd_X9_init_35_X9 : FD RX9 35 wsX9_init 8 8 := ⟨RX9, "MainsWordsModel", TX9, 15, rfl, in_X9_init_X9, by decide, wd_X9_init_30, Or.inl rfl⟩
theorem fw_X9_init_X9_8 : FW RX9 wsX9_init 8 8 (.array .int) true := ⟨RX9, TX9, 15, tyX9, rfl, in_X9_init_X9, tyX9_ok, nmX9, rfl, (fun _ => rfl), rfl⟩
theorem wd_X9_init_33 : Cond.arrayClass .char ∈ wsX9_init := by decide +kernel
theorem wd_X9_init_34 : Cond.fieldLink RX9 38 "MainsWordsModel" "text" "[C" ∈ wsX9_init := by decide +kernel
theorem fd_X9_init_38_X9 : FD RX9 38 wsX9_init 8 9 := ⟨RX9, "MainsWordsModel", TX9, 15, rfl, in_X9_init_X9, by decide, wd_X9_init_34, Or.inl rfl⟩
theorem fw_X9_init_X9_9 : FW RX9 wsX9_init 8 9 (.array .char) true := ⟨RX9, TX9, 15, tyX9, rfl, in_X9_init_X9, tyX9_ok, nmX9, rfl, (fun _ => rfl), rfl⟩
set_option maxRecDepth 100000 in
set_option maxHeartbeats 4000000 in
theorem v_X9_init_B118 {D : DG} {z0 : Nat} {l : Launch} {szE lim : Nat} (hlim : lim = szE + rmX9_init.cells) {rec118 : Option Nat → Int32 → SG → Option (Unit × SG)} (hrec118 : ∀ (v0 : Option Nat) (v1 : Int32) (σ : SG) (cells slots : Nat), CB rmX9_init szE σ cells slots → V D z0 l RX9 cX9_init 2 wsX9_init none rmX9_init true tvU 118 [some (va_rf v0), some (.int v1)] [] σ cells slots (rec118 v0 v1 σ)) : ∀ (v0 : Option Nat) (v1 : Int32) (σ : SG) (cells slots : Nat), CB rmX9_init szE σ cells slots → V D z0 l RX9 cX9_init 2 wsX9_init none rmX9_init true tvU 118 [some (va_rf v0), some (.int v1)] [] σ cells slots (m_X9_init_B118 lim rec118 v0 v1 σ) := by
  intro v0 v1 σ cells slots hB
  unfold m_X9_init_B118
  refine V_iload_n (x := v1) dX9_init_118 rfl ?_
  refine V_bipush (v := (6 : Int32)) dX9_init_119 rfl ?_
  refine V_icmp_ge (tgt := 144) (x := v1) (y := (6 : Int32)) dX9_init_121 (by decide) (fun hc1 => ?_) (fun hc1 => ?_)
  · exact V_vretA hB hlim (fun _ => rfl) rfl dX9_init_144
  · refine V_aload_n (x := v0) dX9_init_124 rfl ?_
    refine V_getR fd_X9_init_7_X9 dX9_init_125 (fun x2 => ?_)
    refine V_iload_n (x := v1) dX9_init_128 rfl ?_
    refine V.room hB hlim (fun hr1 hr2 => ?_)
    refine V_callS (As := [.int v1]) (st0 := [va_rf x2]) (stI := [.int v1, va_rf x2]) (t_X9_r v1 σ) rfl (by simp only [List.map_cons, List.map_nil, List.sum_cons, List.sum_nil, va_rf_cat, catI, catF]; decide) rfl (fun s args hts => va_cwS 1 hts gX9_init_X9_r rfl rfl rfl (by decide +kernel) ⟨Nat.le_of_ble_eq_true rfl, Nat.le_of_ble_eq_true rfl⟩) ⟨hr1, hr2⟩ dX9_init_129 (fun r3 σ4 _ => ?_)
    refine V.same (fun hs5 => ?_)
    refine V_bipush (v := (6 : Int32)) dX9_init_132 rfl ?_
    refine V_iadd (x := r3) (y := (6 : Int32)) dX9_init_134 ?_
    refine V_bipush (v := (15 : Int32)) dX9_init_135 rfl ?_
    refine V_iastore dX9_init_137 (fun σ6 hσ6 => ?_)
    refine V_iinc (x := v1) (v := (v1 + 1)) (ls' := [some (va_rf v0), some (.int (v1 + 1))]) dX9_init_138 rfl rfl (by decide) rfl ?_
    refine V_goto (tgt := 118) dX9_init_141 (by decide) ?_
    exact hrec118 v0 ((v1 + 1)) σ6 _ _ (CB.go (CB.call hB rfl rfl hs5) hσ6)
theorem v_X9_init_L118 {D : DG} {z0 : Nat} {l : Launch} {szE lim : Nat} (hlim : lim = szE + rmX9_init.cells) : ∀ (n : Nat) (v0 : Option Nat) (v1 : Int32) (σ : SG) (cells slots : Nat), CB rmX9_init szE σ cells slots → V D z0 l RX9 cX9_init 2 wsX9_init none rmX9_init true tvU 118 [some (va_rf v0), some (.int v1)] [] σ cells slots (m_X9_init_L118 lim n v0 v1 σ) := by
  intro n
  induction n with
  | zero => intros; exact V_none
  | succ n ih => exact v_X9_init_B118 hlim  ih
set_option maxRecDepth 100000 in
set_option maxHeartbeats 4000000 in
theorem v_X9_init_e {D : DG} {z0 : Nat} {l : Launch} {szE lim : Nat} (hlim : lim = szE + rmX9_init.cells) : ∀ (a0 : Option Nat) (σ : SG) (cells slots : Nat), CB rmX9_init szE σ cells slots → V D z0 l RX9 cX9_init 2 wsX9_init none rmX9_init true tvU 0 [some (va_rf a0), none] [] σ cells slots (m_X9_init_e lim a0 σ) := by
  intro a0 σ cells slots hB
  unfold m_X9_init_e
  refine V_aload_n (x := a0) dX9_init_0 rfl ?_
  refine V_objinitN wd_X9_init_3 wd_X9_init_4 wd_X9_init_5 (by decide) (by decide) dX9_init_1 ?_
  refine V_aload_n (x := a0) dX9_init_4 rfl ?_
  refine V_sipush (v := (190 : Int32)) dX9_init_5 rfl ?_
  refine V_newA (at0 := .int) (ty := .int) hB hlim rfl rfl (by decide) rfl (fun _ _ => rfl) wd_X9_init_6 dX9_init_8 (fun x7 σ8 _ _ hB9 => ?_)
  refine V_putA fd_X9_init_7_X9 fw_X9_init_X9_0 (fun _ => rfl) dX9_init_10 (fun σ10 hσ10 => ?_)
  refine V_aload_n (x := a0) dX9_init_13 rfl ?_
  refine V_sipush (v := (190 : Int32)) dX9_init_14 rfl ?_
  refine V_newA (at0 := .int) (ty := .int) (CB.go hB9 hσ10) hlim rfl rfl (by decide) rfl (fun _ _ => rfl) wd_X9_init_6 dX9_init_17 (fun x11 σ12 _ _ hB13 => ?_)
  refine V_putA fd_X9_init_13_X9 fw_X9_init_X9_1 (fun _ => rfl) dX9_init_19 (fun σ14 hσ14 => ?_)
  refine V_aload_n (x := a0) dX9_init_22 rfl ?_
  refine V_sipush (v := (190 : Int32)) dX9_init_23 rfl ?_
  refine V_newA (at0 := .int) (ty := .int) (CB.go hB13 hσ14) hlim rfl rfl (by decide) rfl (fun _ _ => rfl) wd_X9_init_6 dX9_init_26 (fun x15 σ16 _ _ hB17 => ?_)
  refine V_putA fd_X9_init_16_X9 fw_X9_init_X9_2 (fun _ => rfl) dX9_init_28 (fun σ18 hσ18 => ?_)
  refine V_aload_n (x := a0) dX9_init_31 rfl ?_
  refine V_sipush (v := (760 : Int32)) dX9_init_32 rfl ?_
  refine V_newA (at0 := .int) (ty := .int) (CB.go hB17 hσ18) hlim rfl rfl (by decide) rfl (fun _ _ => rfl) wd_X9_init_6 dX9_init_35 (fun x19 σ20 _ _ hB21 => ?_)
  refine V_putA fd_X9_init_19_X9 fw_X9_init_X9_3 (fun _ => rfl) dX9_init_37 (fun σ22 hσ22 => ?_)
  refine V_aload_n (x := a0) dX9_init_40 rfl ?_
  refine V_sipush (v := (190 : Int32)) dX9_init_41 rfl ?_
  refine V_newA (at0 := .int) (ty := .int) (CB.go hB21 hσ22) hlim rfl rfl (by decide) rfl (fun _ _ => rfl) wd_X9_init_6 dX9_init_44 (fun x23 σ24 _ _ hB25 => ?_)
  refine V_putA fd_X9_init_22_X9 fw_X9_init_X9_4 (fun _ => rfl) dX9_init_46 (fun σ26 hσ26 => ?_)
  refine V_aload_n (x := a0) dX9_init_49 rfl ?_
  refine V_bipush (v := (6 : Int32)) dX9_init_50 rfl ?_
  refine V_newA (at0 := .int) (ty := .int) (CB.go hB25 hσ26) hlim rfl rfl (by decide) rfl (fun _ _ => rfl) wd_X9_init_6 dX9_init_52 (fun x27 σ28 _ _ hB29 => ?_)
  refine V_putA fd_X9_init_25_X9 fw_X9_init_X9_5 (fun _ => rfl) dX9_init_54 (fun σ30 hσ30 => ?_)
  refine V_aload_n (x := a0) dX9_init_57 rfl ?_
  refine V_iconst (v := (5 : Int32)) dX9_init_58 rfl ?_
  refine V_newA (at0 := .int) (ty := .int) (CB.go hB29 hσ30) hlim rfl rfl (by decide) rfl (fun _ _ => rfl) wd_X9_init_6 dX9_init_59 (fun x31 σ32 _ _ hB33 => ?_)
  refine V_putA fd_X9_init_28_X9 fw_X9_init_X9_6 (fun _ => rfl) dX9_init_61 (fun σ34 hσ34 => ?_)
  refine V_aload_n (x := a0) dX9_init_64 rfl ?_
  refine V_iconst (v := (5 : Int32)) dX9_init_65 rfl ?_
  refine V_newA (at0 := .boolean) (ty := .boolean) (CB.go hB33 hσ34) hlim rfl rfl (by decide) rfl (fun _ _ => rfl) wd_X9_init_26 dX9_init_66 (fun x35 σ36 _ _ hB37 => ?_)
  refine V_putA fd_X9_init_31_X9 fw_X9_init_X9_7 (fun _ => rfl) dX9_init_68 (fun σ38 hσ38 => ?_)
  refine V_aload_n (x := a0) dX9_init_71 rfl ?_
  refine V_bipush (v := (82 : Int32)) dX9_init_72 rfl ?_
  refine V_newA (at0 := .int) (ty := .int) (CB.go hB37 hσ38) hlim rfl rfl (by decide) rfl (fun _ _ => rfl) wd_X9_init_6 dX9_init_74 (fun x39 σ40 _ _ hB41 => ?_)
  refine V_putA fd_X9_init_35_X9 fw_X9_init_X9_8 (fun _ => rfl) dX9_init_76 (fun σ42 hσ42 => ?_)
  refine V_aload_n (x := a0) dX9_init_79 rfl ?_
  refine V_bipush (v := (80 : Int32)) dX9_init_80 rfl ?_
  refine V_newA (at0 := .char) (ty := .char) (CB.go hB41 hσ42) hlim rfl rfl (by decide) rfl (fun _ _ => rfl) wd_X9_init_33 dX9_init_82 (fun x43 σ44 _ _ hB45 => ?_)
  refine V_putA fd_X9_init_38_X9 fw_X9_init_X9_9 (fun _ => rfl) dX9_init_84 (fun σ46 hσ46 => ?_)
  refine V_aload_n (x := a0) dX9_init_87 rfl ?_
  refine V_getR fd_X9_init_7_X9 dX9_init_88 (fun x47 => ?_)
  refine V_iconst (v := (0 : Int32)) dX9_init_91 rfl ?_
  refine V_bipush (v := (6 : Int32)) dX9_init_92 rfl ?_
  refine V_iastore dX9_init_94 (fun σ48 hσ48 => ?_)
  refine V_aload_n (x := a0) dX9_init_95 rfl ?_
  refine V_getR fd_X9_init_7_X9 dX9_init_96 (fun x49 => ?_)
  refine V_iconst (v := (1 : Int32)) dX9_init_99 rfl ?_
  refine V_iconst (v := (5 : Int32)) dX9_init_100 rfl ?_
  refine V_iastore dX9_init_101 (fun σ50 hσ50 => ?_)
  refine V_aload_n (x := a0) dX9_init_102 rfl ?_
  refine V_getR fd_X9_init_7_X9 dX9_init_103 (fun x51 => ?_)
  refine V_iconst (v := (2 : Int32)) dX9_init_106 rfl ?_
  refine V_iconst (v := (4 : Int32)) dX9_init_107 rfl ?_
  refine V_iastore dX9_init_108 (fun σ52 hσ52 => ?_)
  refine V_aload_n (x := a0) dX9_init_109 rfl ?_
  refine V_getR fd_X9_init_7_X9 dX9_init_110 (fun x53 => ?_)
  refine V_iconst (v := (3 : Int32)) dX9_init_113 rfl ?_
  refine V_iconst (v := (2 : Int32)) dX9_init_114 rfl ?_
  refine V_iastore dX9_init_115 (fun σ54 hσ54 => ?_)
  refine V_iconst (v := (0 : Int32)) dX9_init_116 rfl ?_
  refine V_istore_n (x := (0 : Int32)) (ls' := [some (va_rf a0), some (.int (0 : Int32))]) dX9_init_117 (by decide) rfl ?_
  exact v_X9_init_L118 hlim  1000 a0 ((0 : Int32)) σ54 _ _ (CB.go (CB.go (CB.go (CB.go (CB.go hB45 hσ46) hσ48) hσ50) hσ52) hσ54)
theorem t_X9_init {D : DG} {z0 : Nat} {l : Launch} (a : Nat)  (σ : SG) : MT D z0 l yX9_init wsX9_init rmX9_init tvU [.ref a] σ (m_X9_init (some a) σ) :=
  MT.of (own := RX9) (cc := cX9_init) (nL := 2) (ret := none) (ct := true) (by decide) rfl rfl (fun _ => rfl) (Nat.le_of_ble_eq_true rfl) (by intro v hv; simp only [List.mem_cons, List.not_mem_nil, or_false] at hv; first | (rcases hv with rfl <;> first | rfl | exact va_rf_cat _) | exact absurd hv (fun h => h)) (v_X9_init_e rfl (some a) σ 0 0 (CB.start rfl))
set_option maxRecDepth 100000 in
set_option maxHeartbeats 4000000 in
theorem v_X9_in {D : DG} {z0 : Nat} {l : Launch} : ∀ (a0 : Int32) (a1 : Int32) (a2 : Int32) (σ : SG), V D z0 l RX9 cX9_in 3 wsX9_in (some .boolean) rmX9_in false tvI 0 [some (.int a0), some (.int a1), some (.int a2)] [] σ 0 0 (m_X9_in a0 a1 a2 σ) := by
  intro a0 a1 a2 σ
  unfold m_X9_in
  refine V_iload_n (x := a0) dX9_in_0 rfl ?_
  refine V_iload_n (x := a1) dX9_in_1 rfl ?_
  refine V_icmp_lt (tgt := 14) (x := a0) (y := a1) dX9_in_2 (by decide) (fun hc1 => ?_) (fun hc1 => ?_)
  · refine V_iconst (v := (0 : Int32)) dX9_in_14 rfl ?_
    exact V_zret (fun _ => rfl) rfl (Nat.zero_le _) (Nat.zero_le _) dX9_in_15
  · refine V_iload_n (x := a0) dX9_in_5 rfl ?_
    refine V_iload_n (x := a2) dX9_in_6 rfl ?_
    refine V_icmp_gt (tgt := 14) (x := a0) (y := a2) dX9_in_7 (by decide) (fun hc2 => ?_) (fun hc2 => ?_)
    · refine V_iconst (v := (0 : Int32)) dX9_in_14 rfl ?_
      exact V_zret (fun _ => rfl) rfl (Nat.zero_le _) (Nat.zero_le _) dX9_in_15
    · refine V_iconst (v := (1 : Int32)) dX9_in_10 rfl ?_
      refine V_goto (tgt := 15) dX9_in_11 (by decide) ?_
      exact V_zret (fun _ => rfl) rfl (Nat.zero_le _) (Nat.zero_le _) dX9_in_15
theorem t_X9_in {D : DG} {z0 : Nat} {l : Launch} (a0 : Int32) (a1 : Int32) (a2 : Int32) (σ : SG) : MT D z0 l yX9_in wsX9_in rmX9_in tvI [.int a0, .int a1, .int a2] σ (m_X9_in a0 a1 a2 σ) :=
  MT.of (own := RX9) (cc := cX9_in) (nL := 3) (ret := (some .boolean)) (ct := false) (by decide) rfl rfl (fun h => by cases h) (Nat.le_of_ble_eq_true rfl) (by intro v hv; simp only [List.mem_cons, List.not_mem_nil, or_false] at hv; first | (rcases hv with rfl | rfl | rfl <;> first | rfl | exact va_rf_cat _) | exact absurd hv (fun h => h)) (v_X9_in a0 a1 a2 σ)
set_option maxRecDepth 100000 in
set_option maxHeartbeats 4000000 in
theorem v_X9_n {D : DG} {z0 : Nat} {l : Launch} : ∀ (a0 : Int32) (σ : SG), V D z0 l RX9 cX9_n 1 wsX9_n (some .int) rmX9_n false tvI 0 [some (.int a0)] [] σ 0 0 (m_X9_n a0 σ) := by
  intro a0 σ
  unfold m_X9_n
  refine V_bipush (v := (10 : Int32)) dX9_n_0 rfl ?_
  refine V_bipush (v := (14 : Int32)) dX9_n_2 rfl ?_
  refine V_iload_n (x := a0) dX9_n_4 rfl ?_
  refine V_imul (x := (14 : Int32)) (y := a0) dX9_n_5 ?_
  refine V_iadd (x := (10 : Int32)) (y := ((14 : Int32) * a0)) dX9_n_6 ?_
  exact V_iret (fun _ => rfl) rfl (Nat.zero_le _) (Nat.zero_le _) dX9_n_7
theorem t_X9_n {D : DG} {z0 : Nat} {l : Launch} (a0 : Int32) (σ : SG) : MT D z0 l yX9_n wsX9_n rmX9_n tvI [.int a0] σ (m_X9_n a0 σ) :=
  MT.of (own := RX9) (cc := cX9_n) (nL := 1) (ret := (some .int)) (ct := false) (by decide) rfl rfl (fun h => by cases h) (Nat.le_of_ble_eq_true rfl) (by intro v hv; simp only [List.mem_cons, List.not_mem_nil, or_false] at hv; first | (rcases hv with rfl <;> first | rfl | exact va_rf_cat _) | exact absurd hv (fun h => h)) (v_X9_n a0 σ)
set_option maxRecDepth 100000 in
set_option maxHeartbeats 4000000 in
theorem v_X9_m {D : DG} {z0 : Nat} {l : Launch} : ∀ (a0 : Int32) (σ : SG), V D z0 l RX9 cX9_m 1 wsX9_m (some .int) rmX9_m false tvI 0 [some (.int a0)] [] σ 0 0 (m_X9_m a0 σ) := by
  intro a0 σ
  unfold m_X9_m
  refine V_bipush (v := (80 : Int32)) dX9_m_0 rfl ?_
  refine V_iconst (v := (5 : Int32)) dX9_m_2 rfl ?_
  refine V_iload_n (x := a0) dX9_m_3 rfl ?_
  refine V_imul (x := (5 : Int32)) (y := a0) dX9_m_4 ?_
  refine V_iadd (x := (80 : Int32)) (y := ((5 : Int32) * a0)) dX9_m_5 ?_
  exact V_iret (fun _ => rfl) rfl (Nat.zero_le _) (Nat.zero_le _) dX9_m_6
theorem t_X9_m {D : DG} {z0 : Nat} {l : Launch} (a0 : Int32) (σ : SG) : MT D z0 l yX9_m wsX9_m rmX9_m tvI [.int a0] σ (m_X9_m a0 σ) :=
  MT.of (own := RX9) (cc := cX9_m) (nL := 1) (ret := (some .int)) (ct := false) (by decide) rfl rfl (fun h => by cases h) (Nat.le_of_ble_eq_true rfl) (by intro v hv; simp only [List.mem_cons, List.not_mem_nil, or_false] at hv; first | (rcases hv with rfl <;> first | rfl | exact va_rf_cat _) | exact absurd hv (fun h => h)) (v_X9_m a0 σ)
set_option maxRecDepth 100000 in
set_option maxHeartbeats 4000000 in
theorem v_X9_l {D : DG} {z0 : Nat} {l : Launch} : ∀ (a0 : Int32) (σ : SG), V D z0 l RX9 cX9_l 1 wsX9_l (some .int) rmX9_l false tvI 0 [some (.int a0)] [] σ 0 0 (m_X9_l a0 σ) := by
  intro a0 σ
  unfold m_X9_l
  refine V_bipush (v := (100 : Int32)) dX9_l_0 rfl ?_
  refine V_bipush (v := (6 : Int32)) dX9_l_2 rfl ?_
  refine V_iload_n (x := a0) dX9_l_4 rfl ?_
  refine V_imul (x := (6 : Int32)) (y := a0) dX9_l_5 ?_
  refine V_iadd (x := (100 : Int32)) (y := ((6 : Int32) * a0)) dX9_l_6 ?_
  exact V_iret (fun _ => rfl) rfl (Nat.zero_le _) (Nat.zero_le _) dX9_l_7
theorem t_X9_l {D : DG} {z0 : Nat} {l : Launch} (a0 : Int32) (σ : SG) : MT D z0 l yX9_l wsX9_l rmX9_l tvI [.int a0] σ (m_X9_l a0 σ) :=
  MT.of (own := RX9) (cc := cX9_l) (nL := 1) (ret := (some .int)) (ct := false) (by decide) rfl rfl (fun h => by cases h) (Nat.le_of_ble_eq_true rfl) (by intro v hv; simp only [List.mem_cons, List.not_mem_nil, or_false] at hv; first | (rcases hv with rfl <;> first | rfl | exact va_rf_cat _) | exact absurd hv (fun h => h)) (v_X9_l a0 σ)
set_option maxRecDepth 100000 in
set_option maxHeartbeats 4000000 in
theorem v_X9_isWire {D : DG} {z0 : Nat} {l : Launch} : ∀ (a0 : Int32) (σ : SG), V D z0 l RX9 cX9_isWire 1 wsX9_isWire (some .boolean) rmX9_isWire false tvI 0 [some (.int a0)] [] σ 0 0 (m_X9_isWire a0 σ) := by
  intro a0 σ
  unfold m_X9_isWire
  refine V_iload_n (x := a0) dX9_isWire_0 rfl ?_
  refine V_iconst (v := (0 : Int32)) dX9_isWire_1 rfl ?_
  refine V_iconst (v := (5 : Int32)) dX9_isWire_2 rfl ?_
  refine V_callS0 (As := [.int a0, .int (0 : Int32), .int (5 : Int32)]) (st0 := []) (stI := [.int (5 : Int32), .int (0 : Int32), .int a0]) (t_X9_in a0 (0 : Int32) (5 : Int32) σ) rfl (Nat.le_of_ble_eq_true rfl) rfl (fun s args hts => va_cwS 3 hts gX9_isWire_X9_in rfl rfl rfl (by decide +kernel) ⟨Nat.le_of_ble_eq_true rfl, Nat.le_of_ble_eq_true rfl⟩) rfl rfl dX9_isWire_3 (fun r1 σ2 _ => ?_)
  exact V_zret (fun _ => rfl) rfl (Nat.zero_le _) (Nat.zero_le _) dX9_isWire_6
theorem t_X9_isWire {D : DG} {z0 : Nat} {l : Launch} (a0 : Int32) (σ : SG) : MT D z0 l yX9_isWire wsX9_isWire rmX9_isWire tvI [.int a0] σ (m_X9_isWire a0 σ) :=
  MT.of (own := RX9) (cc := cX9_isWire) (nL := 1) (ret := (some .boolean)) (ct := false) (by decide) rfl rfl (fun h => by cases h) (Nat.le_of_ble_eq_true rfl) (by intro v hv; simp only [List.mem_cons, List.not_mem_nil, or_false] at hv; first | (rcases hv with rfl <;> first | rfl | exact va_rf_cat _) | exact absurd hv (fun h => h)) (v_X9_isWire a0 σ)
theorem in_X9_isSender_X9 : ∀ w ∈ u_ws RX9 TX9 15, w ∈ wsX9_isSender := by decide +kernel
theorem wd_X9_isSender_1 : Cond.fieldLink RX9 7 "MainsWordsModel" "s" "[I" ∈ wsX9_isSender := by decide +kernel
theorem fd_X9_isSender_7_X9 : FD RX9 7 wsX9_isSender 8 0 := ⟨RX9, "MainsWordsModel", TX9, 15, rfl, in_X9_isSender_X9, by decide, wd_X9_isSender_1, Or.inl rfl⟩
set_option maxRecDepth 100000 in
set_option maxHeartbeats 4000000 in
theorem v_X9_isSender {D : DG} {z0 : Nat} {l : Launch} : ∀ (a0 : Option Nat) (a1 : Int32) (σ : SG), V D z0 l RX9 cX9_isSender 2 wsX9_isSender (some .boolean) rmX9_isSender false tvI 0 [some (va_rf a0), some (.int a1)] [] σ 0 0 (m_X9_isSender a0 a1 σ) := by
  intro a0 a1 σ
  unfold m_X9_isSender
  refine V_iload_n (x := a1) dX9_isSender_0 rfl ?_
  refine V_iconst (v := (0 : Int32)) dX9_isSender_1 rfl ?_
  refine V_iconst (v := (4 : Int32)) dX9_isSender_2 rfl ?_
  refine V_callS0 (As := [.int a1, .int (0 : Int32), .int (4 : Int32)]) (st0 := []) (stI := [.int (4 : Int32), .int (0 : Int32), .int a1]) (t_X9_in a1 (0 : Int32) (4 : Int32) σ) rfl (Nat.le_of_ble_eq_true rfl) rfl (fun s args hts => va_cwS 3 hts gX9_isSender_X9_in rfl rfl rfl (by decide +kernel) ⟨Nat.le_of_ble_eq_true rfl, Nat.le_of_ble_eq_true rfl⟩) rfl rfl dX9_isSender_3 (fun r1 σ2 _ => ?_)
  refine V_if_eq (tgt := 26) (x := r1) dX9_isSender_6 (by decide) (fun hc3 => ?_) (fun hc3 => ?_)
  · refine V_iconst (v := (0 : Int32)) dX9_isSender_26 rfl ?_
    exact V_zret (fun _ => rfl) rfl (Nat.zero_le _) (Nat.zero_le _) dX9_isSender_27
  · refine V_aload_n (x := a0) dX9_isSender_9 rfl ?_
    refine V_getR fd_X9_isSender_7_X9 dX9_isSender_10 (fun x4 => ?_)
    refine V_iload_n (x := a1) dX9_isSender_13 rfl ?_
    refine V_callS0 (As := [.int a1]) (st0 := [va_rf x4]) (stI := [.int a1, va_rf x4]) (t_X9_n a1 σ2) rfl (by simp only [List.map_cons, List.map_nil, List.sum_cons, List.sum_nil, va_rf_cat, catI, catF]; decide) rfl (fun s args hts => va_cwS 1 hts gX9_isSender_X9_n rfl rfl rfl (by decide +kernel) ⟨Nat.le_of_ble_eq_true rfl, Nat.le_of_ble_eq_true rfl⟩) rfl rfl dX9_isSender_14 (fun r5 σ6 _ => ?_)
    refine V_iaload dX9_isSender_17 (fun x7 => ?_)
    refine V_iconst (v := (1 : Int32)) dX9_isSender_18 rfl ?_
    refine V_icmp_ne (tgt := 26) (x := x7) (y := (1 : Int32)) dX9_isSender_19 (by decide) (fun hc8 => ?_) (fun hc8 => ?_)
    · refine V_iconst (v := (1 : Int32)) dX9_isSender_22 rfl ?_
      refine V_goto (tgt := 27) dX9_isSender_23 (by decide) ?_
      exact V_zret (fun _ => rfl) rfl (Nat.zero_le _) (Nat.zero_le _) dX9_isSender_27
    · refine V_iconst (v := (0 : Int32)) dX9_isSender_26 rfl ?_
      exact V_zret (fun _ => rfl) rfl (Nat.zero_le _) (Nat.zero_le _) dX9_isSender_27
theorem t_X9_isSender {D : DG} {z0 : Nat} {l : Launch} (a : Nat) (a1 : Int32) (σ : SG) : MT D z0 l yX9_isSender wsX9_isSender rmX9_isSender tvI [.ref a, .int a1] σ (m_X9_isSender (some a) a1 σ) :=
  MT.of (own := RX9) (cc := cX9_isSender) (nL := 2) (ret := (some .boolean)) (ct := false) (by decide) rfl rfl (fun h => by cases h) (Nat.le_of_ble_eq_true rfl) (by intro v hv; simp only [List.mem_cons, List.not_mem_nil, or_false] at hv; first | (rcases hv with rfl | rfl <;> first | rfl | exact va_rf_cat _) | exact absurd hv (fun h => h)) (v_X9_isSender (some a) a1 σ)
theorem in_X9_isMachine_X9 : ∀ w ∈ u_ws RX9 TX9 15, w ∈ wsX9_isMachine := by decide +kernel
theorem wd_X9_isMachine_1 : Cond.fieldLink RX9 7 "MainsWordsModel" "s" "[I" ∈ wsX9_isMachine := by decide +kernel
theorem fd_X9_isMachine_7_X9 : FD RX9 7 wsX9_isMachine 8 0 := ⟨RX9, "MainsWordsModel", TX9, 15, rfl, in_X9_isMachine_X9, by decide, wd_X9_isMachine_1, Or.inl rfl⟩
set_option maxRecDepth 100000 in
set_option maxHeartbeats 4000000 in
theorem v_X9_isMachine {D : DG} {z0 : Nat} {l : Launch} : ∀ (a0 : Option Nat) (a1 : Int32) (σ : SG), V D z0 l RX9 cX9_isMachine 2 wsX9_isMachine (some .boolean) rmX9_isMachine false tvI 0 [some (va_rf a0), some (.int a1)] [] σ 0 0 (m_X9_isMachine a0 a1 σ) := by
  intro a0 a1 σ
  unfold m_X9_isMachine
  refine V_iload_n (x := a1) dX9_isMachine_0 rfl ?_
  refine V_iconst (v := (0 : Int32)) dX9_isMachine_1 rfl ?_
  refine V_iconst (v := (3 : Int32)) dX9_isMachine_2 rfl ?_
  refine V_callS0 (As := [.int a1, .int (0 : Int32), .int (3 : Int32)]) (st0 := []) (stI := [.int (3 : Int32), .int (0 : Int32), .int a1]) (t_X9_in a1 (0 : Int32) (3 : Int32) σ) rfl (Nat.le_of_ble_eq_true rfl) rfl (fun s args hts => va_cwS 3 hts gX9_isMachine_X9_in rfl rfl rfl (by decide +kernel) ⟨Nat.le_of_ble_eq_true rfl, Nat.le_of_ble_eq_true rfl⟩) rfl rfl dX9_isMachine_3 (fun r1 σ2 _ => ?_)
  refine V_if_eq (tgt := 26) (x := r1) dX9_isMachine_6 (by decide) (fun hc3 => ?_) (fun hc3 => ?_)
  · refine V_iconst (v := (0 : Int32)) dX9_isMachine_26 rfl ?_
    exact V_zret (fun _ => rfl) rfl (Nat.zero_le _) (Nat.zero_le _) dX9_isMachine_27
  · refine V_aload_n (x := a0) dX9_isMachine_9 rfl ?_
    refine V_getR fd_X9_isMachine_7_X9 dX9_isMachine_10 (fun x4 => ?_)
    refine V_iload_n (x := a1) dX9_isMachine_13 rfl ?_
    refine V_callS0 (As := [.int a1]) (st0 := [va_rf x4]) (stI := [.int a1, va_rf x4]) (t_X9_m a1 σ2) rfl (by simp only [List.map_cons, List.map_nil, List.sum_cons, List.sum_nil, va_rf_cat, catI, catF]; decide) rfl (fun s args hts => va_cwS 1 hts gX9_isMachine_X9_m rfl rfl rfl (by decide +kernel) ⟨Nat.le_of_ble_eq_true rfl, Nat.le_of_ble_eq_true rfl⟩) rfl rfl dX9_isMachine_14 (fun r5 σ6 _ => ?_)
    refine V_iaload dX9_isMachine_17 (fun x7 => ?_)
    refine V_iconst (v := (1 : Int32)) dX9_isMachine_18 rfl ?_
    refine V_icmp_ne (tgt := 26) (x := x7) (y := (1 : Int32)) dX9_isMachine_19 (by decide) (fun hc8 => ?_) (fun hc8 => ?_)
    · refine V_iconst (v := (1 : Int32)) dX9_isMachine_22 rfl ?_
      refine V_goto (tgt := 27) dX9_isMachine_23 (by decide) ?_
      exact V_zret (fun _ => rfl) rfl (Nat.zero_le _) (Nat.zero_le _) dX9_isMachine_27
    · refine V_iconst (v := (0 : Int32)) dX9_isMachine_26 rfl ?_
      exact V_zret (fun _ => rfl) rfl (Nat.zero_le _) (Nat.zero_le _) dX9_isMachine_27
theorem t_X9_isMachine {D : DG} {z0 : Nat} {l : Launch} (a : Nat) (a1 : Int32) (σ : SG) : MT D z0 l yX9_isMachine wsX9_isMachine rmX9_isMachine tvI [.ref a, .int a1] σ (m_X9_isMachine (some a) a1 σ) :=
  MT.of (own := RX9) (cc := cX9_isMachine) (nL := 2) (ret := (some .boolean)) (ct := false) (by decide) rfl rfl (fun h => by cases h) (Nat.le_of_ble_eq_true rfl) (by intro v hv; simp only [List.mem_cons, List.not_mem_nil, or_false] at hv; first | (rcases hv with rfl | rfl <;> first | rfl | exact va_rf_cat _) | exact absurd hv (fun h => h)) (v_X9_isMachine (some a) a1 σ)
theorem in_X9_isLamp_X9 : ∀ w ∈ u_ws RX9 TX9 15, w ∈ wsX9_isLamp := by decide +kernel
theorem wd_X9_isLamp_1 : Cond.fieldLink RX9 7 "MainsWordsModel" "s" "[I" ∈ wsX9_isLamp := by decide +kernel
theorem fd_X9_isLamp_7_X9 : FD RX9 7 wsX9_isLamp 8 0 := ⟨RX9, "MainsWordsModel", TX9, 15, rfl, in_X9_isLamp_X9, by decide, wd_X9_isLamp_1, Or.inl rfl⟩
set_option maxRecDepth 100000 in
set_option maxHeartbeats 4000000 in
theorem v_X9_isLamp {D : DG} {z0 : Nat} {l : Launch} : ∀ (a0 : Option Nat) (a1 : Int32) (σ : SG), V D z0 l RX9 cX9_isLamp 2 wsX9_isLamp (some .boolean) rmX9_isLamp false tvI 0 [some (va_rf a0), some (.int a1)] [] σ 0 0 (m_X9_isLamp a0 a1 σ) := by
  intro a0 a1 σ
  unfold m_X9_isLamp
  refine V_iload_n (x := a1) dX9_isLamp_0 rfl ?_
  refine V_iconst (v := (0 : Int32)) dX9_isLamp_1 rfl ?_
  refine V_bipush (v := (7 : Int32)) dX9_isLamp_2 rfl ?_
  refine V_callS0 (As := [.int a1, .int (0 : Int32), .int (7 : Int32)]) (st0 := []) (stI := [.int (7 : Int32), .int (0 : Int32), .int a1]) (t_X9_in a1 (0 : Int32) (7 : Int32) σ) rfl (Nat.le_of_ble_eq_true rfl) rfl (fun s args hts => va_cwS 3 hts gX9_isLamp_X9_in rfl rfl rfl (by decide +kernel) ⟨Nat.le_of_ble_eq_true rfl, Nat.le_of_ble_eq_true rfl⟩) rfl rfl dX9_isLamp_4 (fun r1 σ2 _ => ?_)
  refine V_if_eq (tgt := 27) (x := r1) dX9_isLamp_7 (by decide) (fun hc3 => ?_) (fun hc3 => ?_)
  · refine V_iconst (v := (0 : Int32)) dX9_isLamp_27 rfl ?_
    exact V_zret (fun _ => rfl) rfl (Nat.zero_le _) (Nat.zero_le _) dX9_isLamp_28
  · refine V_aload_n (x := a0) dX9_isLamp_10 rfl ?_
    refine V_getR fd_X9_isLamp_7_X9 dX9_isLamp_11 (fun x4 => ?_)
    refine V_iload_n (x := a1) dX9_isLamp_14 rfl ?_
    refine V_callS0 (As := [.int a1]) (st0 := [va_rf x4]) (stI := [.int a1, va_rf x4]) (t_X9_l a1 σ2) rfl (by simp only [List.map_cons, List.map_nil, List.sum_cons, List.sum_nil, va_rf_cat, catI, catF]; decide) rfl (fun s args hts => va_cwS 1 hts gX9_isLamp_X9_l rfl rfl rfl (by decide +kernel) ⟨Nat.le_of_ble_eq_true rfl, Nat.le_of_ble_eq_true rfl⟩) rfl rfl dX9_isLamp_15 (fun r5 σ6 _ => ?_)
    refine V_iaload dX9_isLamp_18 (fun x7 => ?_)
    refine V_iconst (v := (1 : Int32)) dX9_isLamp_19 rfl ?_
    refine V_icmp_ne (tgt := 27) (x := x7) (y := (1 : Int32)) dX9_isLamp_20 (by decide) (fun hc8 => ?_) (fun hc8 => ?_)
    · refine V_iconst (v := (1 : Int32)) dX9_isLamp_23 rfl ?_
      refine V_goto (tgt := 28) dX9_isLamp_24 (by decide) ?_
      exact V_zret (fun _ => rfl) rfl (Nat.zero_le _) (Nat.zero_le _) dX9_isLamp_28
    · refine V_iconst (v := (0 : Int32)) dX9_isLamp_27 rfl ?_
      exact V_zret (fun _ => rfl) rfl (Nat.zero_le _) (Nat.zero_le _) dX9_isLamp_28
theorem t_X9_isLamp {D : DG} {z0 : Nat} {l : Launch} (a : Nat) (a1 : Int32) (σ : SG) : MT D z0 l yX9_isLamp wsX9_isLamp rmX9_isLamp tvI [.ref a, .int a1] σ (m_X9_isLamp (some a) a1 σ) :=
  MT.of (own := RX9) (cc := cX9_isLamp) (nL := 2) (ret := (some .boolean)) (ct := false) (by decide) rfl rfl (fun h => by cases h) (Nat.le_of_ble_eq_true rfl) (by intro v hv; simp only [List.mem_cons, List.not_mem_nil, or_false] at hv; first | (rcases hv with rfl | rfl <;> first | rfl | exact va_rf_cat _) | exact absurd hv (fun h => h)) (v_X9_isLamp (some a) a1 σ)
theorem in_X9_hold_X9 : ∀ w ∈ u_ws RX9 TX9 15, w ∈ wsX9_hold := by decide +kernel
theorem wd_X9_hold_1 : Cond.fieldLink RX9 13 "MainsWordsModel" "spare" "[I" ∈ wsX9_hold := by decide +kernel
theorem fd_X9_hold_13_X9 : FD RX9 13 wsX9_hold 8 1 := ⟨RX9, "MainsWordsModel", TX9, 15, rfl, in_X9_hold_X9, by decide, wd_X9_hold_1, Or.inl rfl⟩
theorem wd_X9_hold_3 : Cond.fieldLink RX9 7 "MainsWordsModel" "s" "[I" ∈ wsX9_hold := by decide +kernel
theorem fd_X9_hold_7_X9 : FD RX9 7 wsX9_hold 8 0 := ⟨RX9, "MainsWordsModel", TX9, 15, rfl, in_X9_hold_X9, by decide, wd_X9_hold_3, Or.inl rfl⟩
set_option maxRecDepth 100000 in
set_option maxHeartbeats 4000000 in
theorem v_X9_hold_B2 {D : DG} {z0 : Nat} {l : Launch} {rec2 : Option Nat → Int32 → SG → Option (Unit × SG)} (hrec2 : ∀ (v0 : Option Nat) (v1 : Int32) (σ : SG), V D z0 l RX9 cX9_hold 2 wsX9_hold none rmX9_hold false tvU 2 [some (va_rf v0), some (.int v1)] [] σ 0 0 (rec2 v0 v1 σ)) : ∀ (v0 : Option Nat) (v1 : Int32) (σ : SG), V D z0 l RX9 cX9_hold 2 wsX9_hold none rmX9_hold false tvU 2 [some (va_rf v0), some (.int v1)] [] σ 0 0 (m_X9_hold_B2 rec2 v0 v1 σ) := by
  intro v0 v1 σ
  unfold m_X9_hold_B2
  refine V_iload_n (x := v1) dX9_hold_2 rfl ?_
  refine V_sipush (v := (190 : Int32)) dX9_hold_3 rfl ?_
  refine V_icmp_ge (tgt := 27) (x := v1) (y := (190 : Int32)) dX9_hold_6 (by decide) (fun hc1 => ?_) (fun hc1 => ?_)
  · exact V_vret (fun _ => rfl) rfl (Nat.zero_le _) (Nat.zero_le _) dX9_hold_27
  · refine V_aload_n (x := v0) dX9_hold_9 rfl ?_
    refine V_getR fd_X9_hold_13_X9 dX9_hold_10 (fun x2 => ?_)
    refine V_iload_n (x := v1) dX9_hold_13 rfl ?_
    refine V_aload_n (x := v0) dX9_hold_14 rfl ?_
    refine V_getR fd_X9_hold_7_X9 dX9_hold_15 (fun x3 => ?_)
    refine V_iload_n (x := v1) dX9_hold_18 rfl ?_
    refine V_iaload dX9_hold_19 (fun x4 => ?_)
    refine V_iastore dX9_hold_20 (fun σ5 hσ5 => ?_)
    refine V_iinc (x := v1) (v := (v1 + 1)) (ls' := [some (va_rf v0), some (.int (v1 + 1))]) dX9_hold_21 rfl rfl (by decide) rfl ?_
    refine V_goto (tgt := 2) dX9_hold_24 (by decide) ?_
    exact hrec2 v0 ((v1 + 1)) σ5
theorem v_X9_hold_L2 {D : DG} {z0 : Nat} {l : Launch} : ∀ (n : Nat) (v0 : Option Nat) (v1 : Int32) (σ : SG), V D z0 l RX9 cX9_hold 2 wsX9_hold none rmX9_hold false tvU 2 [some (va_rf v0), some (.int v1)] [] σ 0 0 (m_X9_hold_L2 n v0 v1 σ) := by
  intro n
  induction n with
  | zero => intros; exact V_none
  | succ n ih => exact v_X9_hold_B2  ih
set_option maxRecDepth 100000 in
set_option maxHeartbeats 4000000 in
theorem v_X9_hold {D : DG} {z0 : Nat} {l : Launch} : ∀ (a0 : Option Nat) (σ : SG), V D z0 l RX9 cX9_hold 2 wsX9_hold none rmX9_hold false tvU 0 [some (va_rf a0), none] [] σ 0 0 (m_X9_hold a0 σ) := by
  intro a0 σ
  unfold m_X9_hold
  refine V_iconst (v := (0 : Int32)) dX9_hold_0 rfl ?_
  refine V_istore_n (x := (0 : Int32)) (ls' := [some (va_rf a0), some (.int (0 : Int32))]) dX9_hold_1 (by decide) rfl ?_
  exact v_X9_hold_L2  1000 a0 ((0 : Int32)) σ
theorem t_X9_hold {D : DG} {z0 : Nat} {l : Launch} (a : Nat)  (σ : SG) : MT D z0 l yX9_hold wsX9_hold rmX9_hold tvU [.ref a] σ (m_X9_hold (some a) σ) :=
  MT.of (own := RX9) (cc := cX9_hold) (nL := 2) (ret := none) (ct := false) (by decide) rfl rfl (fun h => by cases h) (Nat.le_of_ble_eq_true rfl) (by intro v hv; simp only [List.mem_cons, List.not_mem_nil, or_false] at hv; first | (rcases hv with rfl <;> first | rfl | exact va_rf_cat _) | exact absurd hv (fun h => h)) (v_X9_hold (some a) σ)
theorem in_X9_recorded_X9 : ∀ w ∈ u_ws RX9 TX9 15, w ∈ wsX9_recorded := by decide +kernel
theorem wd_X9_recorded_1 : Cond.fieldLink RX9 59 "MainsWordsModel" "states" "I" ∈ wsX9_recorded := by decide +kernel
theorem fd_X9_recorded_59_X9 : FD RX9 59 wsX9_recorded 8 12 := ⟨RX9, "MainsWordsModel", TX9, 15, rfl, in_X9_recorded_X9, by decide, wd_X9_recorded_1, Or.inl rfl⟩
theorem fw_X9_recorded_X9_12 : FW RX9 wsX9_recorded 8 12 .int false := ⟨RX9, TX9, 15, tyX9, rfl, in_X9_recorded_X9, tyX9_ok, nmX9, rfl, (fun h => by cases h), rfl⟩
theorem wd_X9_recorded_4 : Cond.fieldLink RX9 19 "MainsWordsModel" "before" "[I" ∈ wsX9_recorded := by decide +kernel
theorem fd_X9_recorded_19_X9 : FD RX9 19 wsX9_recorded 8 3 := ⟨RX9, "MainsWordsModel", TX9, 15, rfl, in_X9_recorded_X9, by decide, wd_X9_recorded_4, Or.inl rfl⟩
theorem wd_X9_recorded_6 : Cond.fieldLink RX9 13 "MainsWordsModel" "spare" "[I" ∈ wsX9_recorded := by decide +kernel
theorem fd_X9_recorded_13_X9 : FD RX9 13 wsX9_recorded 8 1 := ⟨RX9, "MainsWordsModel", TX9, 15, rfl, in_X9_recorded_X9, by decide, wd_X9_recorded_6, Or.inl rfl⟩
set_option maxRecDepth 100000 in
set_option maxHeartbeats 4000000 in
theorem v_X9_recorded_B51 {D : DG} {z0 : Nat} {l : Launch} {rec51 : Option Nat → Int32 → Int32 → SG → Option (Int32 × SG)} (hrec51 : ∀ (v0 : Option Nat) (v1 : Int32) (v2 : Int32) (σ : SG), V D z0 l RX9 cX9_recorded 3 wsX9_recorded (some .int) rmX9_recorded false tvI 51 [some (va_rf v0), some (.int v1), some (.int v2)] [] σ 0 0 (rec51 v0 v1 v2 σ)) : ∀ (v0 : Option Nat) (v1 : Int32) (v2 : Int32) (σ : SG), V D z0 l RX9 cX9_recorded 3 wsX9_recorded (some .int) rmX9_recorded false tvI 51 [some (va_rf v0), some (.int v1), some (.int v2)] [] σ 0 0 (m_X9_recorded_B51 rec51 v0 v1 v2 σ) := by
  intro v0 v1 v2 σ
  unfold m_X9_recorded_B51
  refine V_iload_n (x := v2) dX9_recorded_51 rfl ?_
  refine V_sipush (v := (190 : Int32)) dX9_recorded_52 rfl ?_
  refine V_icmp_ge (tgt := 85) (x := v2) (y := (190 : Int32)) dX9_recorded_55 (by decide) (fun hc1 => ?_) (fun hc1 => ?_)
  · refine V_aload_n (x := v0) dX9_recorded_85 rfl ?_
    refine V_dup dX9_recorded_86 (va_rf_cat _) ?_
    refine V_getI fd_X9_recorded_59_X9 dX9_recorded_87 (fun x2 => ?_)
    refine V_iconst (v := (1 : Int32)) dX9_recorded_90 rfl ?_
    refine V_iadd (x := x2) (y := (1 : Int32)) dX9_recorded_91 ?_
    refine V_putI fd_X9_recorded_59_X9 fw_X9_recorded_X9_12 (fun h => by cases h) dX9_recorded_92 (fun σ3 hσ3 => ?_)
    refine V_iload_n (x := v1) dX9_recorded_95 rfl ?_
    exact V_iret (fun _ => rfl) rfl (Nat.zero_le _) (Nat.zero_le _) dX9_recorded_96
  · refine V_aload_n (x := v0) dX9_recorded_58 rfl ?_
    refine V_getR fd_X9_recorded_19_X9 dX9_recorded_59 (fun x4 => ?_)
    refine V_sipush (v := (190 : Int32)) dX9_recorded_62 rfl ?_
    refine V_aload_n (x := v0) dX9_recorded_65 rfl ?_
    refine V_getI fd_X9_recorded_59_X9 dX9_recorded_66 (fun x5 => ?_)
    refine V_imul (x := (190 : Int32)) (y := x5) dX9_recorded_69 ?_
    refine V_iload_n (x := v2) dX9_recorded_70 rfl ?_
    refine V_iadd (x := ((190 : Int32) * x5)) (y := v2) dX9_recorded_71 ?_
    refine V_aload_n (x := v0) dX9_recorded_72 rfl ?_
    refine V_getR fd_X9_recorded_13_X9 dX9_recorded_73 (fun x6 => ?_)
    refine V_iload_n (x := v2) dX9_recorded_76 rfl ?_
    refine V_iaload dX9_recorded_77 (fun x7 => ?_)
    refine V_iastore dX9_recorded_78 (fun σ8 hσ8 => ?_)
    refine V_iinc (x := v2) (v := (v2 + 1)) (ls' := [some (va_rf v0), some (.int v1), some (.int (v2 + 1))]) dX9_recorded_79 rfl rfl (by decide) rfl ?_
    refine V_goto (tgt := 51) dX9_recorded_82 (by decide) ?_
    exact hrec51 v0 v1 ((v2 + 1)) σ8
theorem v_X9_recorded_L51 {D : DG} {z0 : Nat} {l : Launch} : ∀ (n : Nat) (v0 : Option Nat) (v1 : Int32) (v2 : Int32) (σ : SG), V D z0 l RX9 cX9_recorded 3 wsX9_recorded (some .int) rmX9_recorded false tvI 51 [some (va_rf v0), some (.int v1), some (.int v2)] [] σ 0 0 (m_X9_recorded_L51 n v0 v1 v2 σ) := by
  intro n
  induction n with
  | zero => intros; exact V_none
  | succ n ih => exact v_X9_recorded_B51  ih
set_option maxRecDepth 100000 in
set_option maxHeartbeats 4000000 in
theorem v_X9_recorded_b49 {D : DG} {z0 : Nat} {l : Launch} : ∀ (v0 : Option Nat) (v1 : Int32) (σ : SG), V D z0 l RX9 cX9_recorded 3 wsX9_recorded (some .int) rmX9_recorded false tvI 49 [some (va_rf v0), some (.int v1), none] [] σ 0 0 (m_X9_recorded_b49 v0 v1 σ) := by
  intro v0 v1 σ
  unfold m_X9_recorded_b49
  refine V_iconst (v := (0 : Int32)) dX9_recorded_49 rfl ?_
  refine V_istore_n (x := (0 : Int32)) (ls' := [some (va_rf v0), some (.int v1), some (.int (0 : Int32))]) dX9_recorded_50 (by decide) rfl ?_
  exact v_X9_recorded_L51  1000 v0 v1 ((0 : Int32)) σ
set_option maxRecDepth 100000 in
set_option maxHeartbeats 4000000 in
theorem v_X9_recorded_B10 {D : DG} {z0 : Nat} {l : Launch} {rec10 : Option Nat → Int32 → Int32 → SG → Option (Int32 × SG)} (hrec10 : ∀ (v0 : Option Nat) (v1 : Int32) (v2 : Int32) (σ : SG), V D z0 l RX9 cX9_recorded 3 wsX9_recorded (some .int) rmX9_recorded false tvI 10 [some (va_rf v0), some (.int v1), some (.int v2)] [] σ 0 0 (rec10 v0 v1 v2 σ)) : ∀ (v0 : Option Nat) (v1 : Int32) (v2 : Int32) (σ : SG), V D z0 l RX9 cX9_recorded 3 wsX9_recorded (some .int) rmX9_recorded false tvI 10 [some (va_rf v0), some (.int v1), some (.int v2)] [] σ 0 0 (m_X9_recorded_B10 rec10 v0 v1 v2 σ) := by
  intro v0 v1 v2 σ
  unfold m_X9_recorded_B10
  refine V_iload_n (x := v2) dX9_recorded_10 rfl ?_
  refine V_sipush (v := (570 : Int32)) dX9_recorded_11 rfl ?_
  refine V_icmp_ge (tgt := 39) (x := v2) (y := (570 : Int32)) dX9_recorded_14 (by decide) (fun hc9 => ?_) (fun hc9 => ?_)
  · refine V_aload_n (x := v0) dX9_recorded_39 rfl ?_
    refine V_dup dX9_recorded_40 (va_rf_cat _) ?_
    refine V_getI fd_X9_recorded_59_X9 dX9_recorded_41 (fun x10 => ?_)
    refine V_iconst (v := (1 : Int32)) dX9_recorded_44 rfl ?_
    refine V_isub (x := x10) (y := (1 : Int32)) dX9_recorded_45 ?_
    refine V_putI fd_X9_recorded_59_X9 fw_X9_recorded_X9_12 (fun h => by cases h) dX9_recorded_46 (fun σ11 hσ11 => ?_)
    exact V_sub (LE.s (LE.s (LE.n LE.e))) (v_X9_recorded_b49  v0 v1 σ11)
  · refine V_aload_n (x := v0) dX9_recorded_17 rfl ?_
    refine V_getR fd_X9_recorded_19_X9 dX9_recorded_18 (fun x12 => ?_)
    refine V_iload_n (x := v2) dX9_recorded_21 rfl ?_
    refine V_aload_n (x := v0) dX9_recorded_22 rfl ?_
    refine V_getR fd_X9_recorded_19_X9 dX9_recorded_23 (fun x13 => ?_)
    refine V_sipush (v := (190 : Int32)) dX9_recorded_26 rfl ?_
    refine V_iload_n (x := v2) dX9_recorded_29 rfl ?_
    refine V_iadd (x := (190 : Int32)) (y := v2) dX9_recorded_30 ?_
    refine V_iaload dX9_recorded_31 (fun x14 => ?_)
    refine V_iastore dX9_recorded_32 (fun σ15 hσ15 => ?_)
    refine V_iinc (x := v2) (v := (v2 + 1)) (ls' := [some (va_rf v0), some (.int v1), some (.int (v2 + 1))]) dX9_recorded_33 rfl rfl (by decide) rfl ?_
    refine V_goto (tgt := 10) dX9_recorded_36 (by decide) ?_
    exact hrec10 v0 v1 ((v2 + 1)) σ15
theorem v_X9_recorded_L10 {D : DG} {z0 : Nat} {l : Launch} : ∀ (n : Nat) (v0 : Option Nat) (v1 : Int32) (v2 : Int32) (σ : SG), V D z0 l RX9 cX9_recorded 3 wsX9_recorded (some .int) rmX9_recorded false tvI 10 [some (va_rf v0), some (.int v1), some (.int v2)] [] σ 0 0 (m_X9_recorded_L10 n v0 v1 v2 σ) := by
  intro n
  induction n with
  | zero => intros; exact V_none
  | succ n ih => exact v_X9_recorded_B10  ih
set_option maxRecDepth 100000 in
set_option maxHeartbeats 4000000 in
theorem v_X9_recorded {D : DG} {z0 : Nat} {l : Launch} : ∀ (a0 : Option Nat) (a1 : Int32) (σ : SG), V D z0 l RX9 cX9_recorded 3 wsX9_recorded (some .int) rmX9_recorded false tvI 0 [some (va_rf a0), some (.int a1), none] [] σ 0 0 (m_X9_recorded a0 a1 σ) := by
  intro a0 a1 σ
  unfold m_X9_recorded
  refine V_aload_n (x := a0) dX9_recorded_0 rfl ?_
  refine V_getI fd_X9_recorded_59_X9 dX9_recorded_1 (fun x16 => ?_)
  refine V_iconst (v := (4 : Int32)) dX9_recorded_4 rfl ?_
  refine V_icmp_ne (tgt := 49) (x := x16) (y := (4 : Int32)) dX9_recorded_5 (by decide) (fun hc17 => ?_) (fun hc17 => ?_)
  · refine V_iconst (v := (0 : Int32)) dX9_recorded_8 rfl ?_
    refine V_istore_n (x := (0 : Int32)) (ls' := [some (va_rf a0), some (.int a1), some (.int (0 : Int32))]) dX9_recorded_9 (by decide) rfl ?_
    exact v_X9_recorded_L10  1000 a0 a1 ((0 : Int32)) σ
  · exact v_X9_recorded_b49  a0 a1 σ
theorem t_X9_recorded {D : DG} {z0 : Nat} {l : Launch} (a : Nat) (a1 : Int32) (σ : SG) : MT D z0 l yX9_recorded wsX9_recorded rmX9_recorded tvI [.ref a, .int a1] σ (m_X9_recorded (some a) a1 σ) :=
  MT.of (own := RX9) (cc := cX9_recorded) (nL := 3) (ret := (some .int)) (ct := false) (by decide) rfl rfl (fun h => by cases h) (Nat.le_of_ble_eq_true rfl) (by intro v hv; simp only [List.mem_cons, List.not_mem_nil, or_false] at hv; first | (rcases hv with rfl | rfl <;> first | rfl | exact va_rf_cat _) | exact absurd hv (fun h => h)) (v_X9_recorded (some a) a1 σ)
theorem in_X9_keepTrial_X9 : ∀ w ∈ u_ws RX9 TX9 15, w ∈ wsX9_keepTrial := by decide +kernel
theorem wd_X9_keepTrial_1 : Cond.fieldLink RX9 16 "MainsWordsModel" "trial" "[I" ∈ wsX9_keepTrial := by decide +kernel
theorem fd_X9_keepTrial_16_X9 : FD RX9 16 wsX9_keepTrial 8 2 := ⟨RX9, "MainsWordsModel", TX9, 15, rfl, in_X9_keepTrial_X9, by decide, wd_X9_keepTrial_1, Or.inl rfl⟩
theorem wd_X9_keepTrial_3 : Cond.fieldLink RX9 7 "MainsWordsModel" "s" "[I" ∈ wsX9_keepTrial := by decide +kernel
theorem fd_X9_keepTrial_7_X9 : FD RX9 7 wsX9_keepTrial 8 0 := ⟨RX9, "MainsWordsModel", TX9, 15, rfl, in_X9_keepTrial_X9, by decide, wd_X9_keepTrial_3, Or.inl rfl⟩
set_option maxRecDepth 100000 in
set_option maxHeartbeats 4000000 in
theorem v_X9_keepTrial_B2 {D : DG} {z0 : Nat} {l : Launch} {rec2 : Option Nat → Int32 → SG → Option (Unit × SG)} (hrec2 : ∀ (v0 : Option Nat) (v1 : Int32) (σ : SG), V D z0 l RX9 cX9_keepTrial 2 wsX9_keepTrial none rmX9_keepTrial false tvU 2 [some (va_rf v0), some (.int v1)] [] σ 0 0 (rec2 v0 v1 σ)) : ∀ (v0 : Option Nat) (v1 : Int32) (σ : SG), V D z0 l RX9 cX9_keepTrial 2 wsX9_keepTrial none rmX9_keepTrial false tvU 2 [some (va_rf v0), some (.int v1)] [] σ 0 0 (m_X9_keepTrial_B2 rec2 v0 v1 σ) := by
  intro v0 v1 σ
  unfold m_X9_keepTrial_B2
  refine V_iload_n (x := v1) dX9_keepTrial_2 rfl ?_
  refine V_sipush (v := (190 : Int32)) dX9_keepTrial_3 rfl ?_
  refine V_icmp_ge (tgt := 27) (x := v1) (y := (190 : Int32)) dX9_keepTrial_6 (by decide) (fun hc1 => ?_) (fun hc1 => ?_)
  · exact V_vret (fun _ => rfl) rfl (Nat.zero_le _) (Nat.zero_le _) dX9_keepTrial_27
  · refine V_aload_n (x := v0) dX9_keepTrial_9 rfl ?_
    refine V_getR fd_X9_keepTrial_16_X9 dX9_keepTrial_10 (fun x2 => ?_)
    refine V_iload_n (x := v1) dX9_keepTrial_13 rfl ?_
    refine V_aload_n (x := v0) dX9_keepTrial_14 rfl ?_
    refine V_getR fd_X9_keepTrial_7_X9 dX9_keepTrial_15 (fun x3 => ?_)
    refine V_iload_n (x := v1) dX9_keepTrial_18 rfl ?_
    refine V_iaload dX9_keepTrial_19 (fun x4 => ?_)
    refine V_iastore dX9_keepTrial_20 (fun σ5 hσ5 => ?_)
    refine V_iinc (x := v1) (v := (v1 + 1)) (ls' := [some (va_rf v0), some (.int (v1 + 1))]) dX9_keepTrial_21 rfl rfl (by decide) rfl ?_
    refine V_goto (tgt := 2) dX9_keepTrial_24 (by decide) ?_
    exact hrec2 v0 ((v1 + 1)) σ5
theorem v_X9_keepTrial_L2 {D : DG} {z0 : Nat} {l : Launch} : ∀ (n : Nat) (v0 : Option Nat) (v1 : Int32) (σ : SG), V D z0 l RX9 cX9_keepTrial 2 wsX9_keepTrial none rmX9_keepTrial false tvU 2 [some (va_rf v0), some (.int v1)] [] σ 0 0 (m_X9_keepTrial_L2 n v0 v1 σ) := by
  intro n
  induction n with
  | zero => intros; exact V_none
  | succ n ih => exact v_X9_keepTrial_B2  ih
set_option maxRecDepth 100000 in
set_option maxHeartbeats 4000000 in
theorem v_X9_keepTrial {D : DG} {z0 : Nat} {l : Launch} : ∀ (a0 : Option Nat) (σ : SG), V D z0 l RX9 cX9_keepTrial 2 wsX9_keepTrial none rmX9_keepTrial false tvU 0 [some (va_rf a0), none] [] σ 0 0 (m_X9_keepTrial a0 σ) := by
  intro a0 σ
  unfold m_X9_keepTrial
  refine V_iconst (v := (0 : Int32)) dX9_keepTrial_0 rfl ?_
  refine V_istore_n (x := (0 : Int32)) (ls' := [some (va_rf a0), some (.int (0 : Int32))]) dX9_keepTrial_1 (by decide) rfl ?_
  exact v_X9_keepTrial_L2  1000 a0 ((0 : Int32)) σ
theorem t_X9_keepTrial {D : DG} {z0 : Nat} {l : Launch} (a : Nat)  (σ : SG) : MT D z0 l yX9_keepTrial wsX9_keepTrial rmX9_keepTrial tvU [.ref a] σ (m_X9_keepTrial (some a) σ) :=
  MT.of (own := RX9) (cc := cX9_keepTrial) (nL := 2) (ret := none) (ct := false) (by decide) rfl rfl (fun h => by cases h) (Nat.le_of_ble_eq_true rfl) (by intro v hv; simp only [List.mem_cons, List.not_mem_nil, or_false] at hv; first | (rcases hv with rfl <;> first | rfl | exact va_rf_cat _) | exact absurd hv (fun h => h)) (v_X9_keepTrial (some a) σ)
theorem in_X9_putBack_X9 : ∀ w ∈ u_ws RX9 TX9 15, w ∈ wsX9_putBack := by decide +kernel
theorem wd_X9_putBack_1 : Cond.fieldLink RX9 7 "MainsWordsModel" "s" "[I" ∈ wsX9_putBack := by decide +kernel
theorem fd_X9_putBack_7_X9 : FD RX9 7 wsX9_putBack 8 0 := ⟨RX9, "MainsWordsModel", TX9, 15, rfl, in_X9_putBack_X9, by decide, wd_X9_putBack_1, Or.inl rfl⟩
theorem wd_X9_putBack_3 : Cond.fieldLink RX9 16 "MainsWordsModel" "trial" "[I" ∈ wsX9_putBack := by decide +kernel
theorem fd_X9_putBack_16_X9 : FD RX9 16 wsX9_putBack 8 2 := ⟨RX9, "MainsWordsModel", TX9, 15, rfl, in_X9_putBack_X9, by decide, wd_X9_putBack_3, Or.inl rfl⟩
set_option maxRecDepth 100000 in
set_option maxHeartbeats 4000000 in
theorem v_X9_putBack_B2 {D : DG} {z0 : Nat} {l : Launch} {rec2 : Option Nat → Int32 → SG → Option (Unit × SG)} (hrec2 : ∀ (v0 : Option Nat) (v1 : Int32) (σ : SG), V D z0 l RX9 cX9_putBack 2 wsX9_putBack none rmX9_putBack false tvU 2 [some (va_rf v0), some (.int v1)] [] σ 0 0 (rec2 v0 v1 σ)) : ∀ (v0 : Option Nat) (v1 : Int32) (σ : SG), V D z0 l RX9 cX9_putBack 2 wsX9_putBack none rmX9_putBack false tvU 2 [some (va_rf v0), some (.int v1)] [] σ 0 0 (m_X9_putBack_B2 rec2 v0 v1 σ) := by
  intro v0 v1 σ
  unfold m_X9_putBack_B2
  refine V_iload_n (x := v1) dX9_putBack_2 rfl ?_
  refine V_sipush (v := (190 : Int32)) dX9_putBack_3 rfl ?_
  refine V_icmp_ge (tgt := 27) (x := v1) (y := (190 : Int32)) dX9_putBack_6 (by decide) (fun hc1 => ?_) (fun hc1 => ?_)
  · exact V_vret (fun _ => rfl) rfl (Nat.zero_le _) (Nat.zero_le _) dX9_putBack_27
  · refine V_aload_n (x := v0) dX9_putBack_9 rfl ?_
    refine V_getR fd_X9_putBack_7_X9 dX9_putBack_10 (fun x2 => ?_)
    refine V_iload_n (x := v1) dX9_putBack_13 rfl ?_
    refine V_aload_n (x := v0) dX9_putBack_14 rfl ?_
    refine V_getR fd_X9_putBack_16_X9 dX9_putBack_15 (fun x3 => ?_)
    refine V_iload_n (x := v1) dX9_putBack_18 rfl ?_
    refine V_iaload dX9_putBack_19 (fun x4 => ?_)
    refine V_iastore dX9_putBack_20 (fun σ5 hσ5 => ?_)
    refine V_iinc (x := v1) (v := (v1 + 1)) (ls' := [some (va_rf v0), some (.int (v1 + 1))]) dX9_putBack_21 rfl rfl (by decide) rfl ?_
    refine V_goto (tgt := 2) dX9_putBack_24 (by decide) ?_
    exact hrec2 v0 ((v1 + 1)) σ5
theorem v_X9_putBack_L2 {D : DG} {z0 : Nat} {l : Launch} : ∀ (n : Nat) (v0 : Option Nat) (v1 : Int32) (σ : SG), V D z0 l RX9 cX9_putBack 2 wsX9_putBack none rmX9_putBack false tvU 2 [some (va_rf v0), some (.int v1)] [] σ 0 0 (m_X9_putBack_L2 n v0 v1 σ) := by
  intro n
  induction n with
  | zero => intros; exact V_none
  | succ n ih => exact v_X9_putBack_B2  ih
set_option maxRecDepth 100000 in
set_option maxHeartbeats 4000000 in
theorem v_X9_putBack {D : DG} {z0 : Nat} {l : Launch} : ∀ (a0 : Option Nat) (σ : SG), V D z0 l RX9 cX9_putBack 2 wsX9_putBack none rmX9_putBack false tvU 0 [some (va_rf a0), none] [] σ 0 0 (m_X9_putBack a0 σ) := by
  intro a0 σ
  unfold m_X9_putBack
  refine V_iconst (v := (0 : Int32)) dX9_putBack_0 rfl ?_
  refine V_istore_n (x := (0 : Int32)) (ls' := [some (va_rf a0), some (.int (0 : Int32))]) dX9_putBack_1 (by decide) rfl ?_
  exact v_X9_putBack_L2  1000 a0 ((0 : Int32)) σ
theorem t_X9_putBack {D : DG} {z0 : Nat} {l : Launch} (a : Nat)  (σ : SG) : MT D z0 l yX9_putBack wsX9_putBack rmX9_putBack tvU [.ref a] σ (m_X9_putBack (some a) σ) :=
  MT.of (own := RX9) (cc := cX9_putBack) (nL := 2) (ret := none) (ct := false) (by decide) rfl rfl (fun h => by cases h) (Nat.le_of_ble_eq_true rfl) (by intro v hv; simp only [List.mem_cons, List.not_mem_nil, or_false] at hv; first | (rcases hv with rfl <;> first | rfl | exact va_rf_cat _) | exact absurd hv (fun h => h)) (v_X9_putBack (some a) σ)
set_option maxRecDepth 100000 in
set_option maxHeartbeats 4000000 in
theorem v_X9_frameBit {D : DG} {z0 : Nat} {l : Launch} : ∀ (a0 : Int32) (a1 : Int32) (σ : SG), V D z0 l RX9 cX9_frameBit 3 wsX9_frameBit (some .int) rmX9_frameBit false tvI 0 [some (.int a0), some (.int a1), none] [] σ 0 0 (m_X9_frameBit a0 a1 σ) := by
  intro a0 a1 σ
  unfold m_X9_frameBit
  refine V_iload_n (x := a1) dX9_frameBit_0 rfl ?_
  refine V_iconst (v := (4 : Int32)) dX9_frameBit_1 rfl ?_
  refine V_icmp_ge (tgt := 16) (x := a1) (y := (4 : Int32)) dX9_frameBit_2 (by decide) (fun hc1 => ?_) (fun hc1 => ?_)
  · refine V_iload_n (x := a0) dX9_frameBit_16 rfl ?_
    refine V_iconst (v := (4 : Int32)) dX9_frameBit_17 rfl ?_
    refine V_iload_n (x := a1) dX9_frameBit_18 rfl ?_
    refine V_iconst (v := (4 : Int32)) dX9_frameBit_19 rfl ?_
    refine V_isub (x := a1) (y := (4 : Int32)) dX9_frameBit_20 ?_
    refine V_iconst (v := (2 : Int32)) dX9_frameBit_21 rfl ?_
    refine V_idiv (x := (a1 - (4 : Int32))) (y := (2 : Int32)) dX9_frameBit_22 ?_
    refine V_isub (x := (4 : Int32)) (y := ((a1 - (4 : Int32)) / (2 : Int32))) dX9_frameBit_23 ?_
    refine V_ishr (x := a0) (y := ((4 : Int32) - ((a1 - (4 : Int32)) / (2 : Int32)))) dX9_frameBit_24 ?_
    refine V_iconst (v := (1 : Int32)) dX9_frameBit_25 rfl ?_
    refine V_iand (x := (a0 >>> (((4 : Int32) - ((a1 - (4 : Int32)) / (2 : Int32))) &&& 31))) (y := (1 : Int32)) dX9_frameBit_26 ?_
    refine V_istore_n (x := ((a0 >>> (((4 : Int32) - ((a1 - (4 : Int32)) / (2 : Int32))) &&& 31)) &&& (1 : Int32))) (ls' := [some (.int a0), some (.int a1), some (.int ((a0 >>> (((4 : Int32) - ((a1 - (4 : Int32)) / (2 : Int32))) &&& 31)) &&& (1 : Int32)))]) dX9_frameBit_27 (by decide) rfl ?_
    refine V_iload_n (x := a1) dX9_frameBit_28 rfl ?_
    refine V_iconst (v := (2 : Int32)) dX9_frameBit_29 rfl ?_
    refine V_irem (x := a1) (y := (2 : Int32)) dX9_frameBit_30 ?_
    refine V_if_ne (tgt := 38) (x := (a1 - a1 / (2 : Int32) * (2 : Int32))) dX9_frameBit_31 (by decide) (fun hc2 => ?_) (fun hc2 => ?_)
    · refine V_iload_n (x := ((a0 >>> (((4 : Int32) - ((a1 - (4 : Int32)) / (2 : Int32))) &&& 31)) &&& (1 : Int32))) dX9_frameBit_34 rfl ?_
      refine V_goto (tgt := 41) dX9_frameBit_35 (by decide) ?_
      exact V_iret (fun _ => rfl) rfl (Nat.zero_le _) (Nat.zero_le _) dX9_frameBit_41
    · refine V_iconst (v := (1 : Int32)) dX9_frameBit_38 rfl ?_
      refine V_iload_n (x := ((a0 >>> (((4 : Int32) - ((a1 - (4 : Int32)) / (2 : Int32))) &&& 31)) &&& (1 : Int32))) dX9_frameBit_39 rfl ?_
      refine V_isub (x := (1 : Int32)) (y := ((a0 >>> (((4 : Int32) - ((a1 - (4 : Int32)) / (2 : Int32))) &&& 31)) &&& (1 : Int32))) dX9_frameBit_40 ?_
      exact V_iret (fun _ => rfl) rfl (Nat.zero_le _) (Nat.zero_le _) dX9_frameBit_41
  · refine V_iload_n (x := a1) dX9_frameBit_5 rfl ?_
    refine V_iconst (v := (3 : Int32)) dX9_frameBit_6 rfl ?_
    refine V_icmp_ge (tgt := 14) (x := a1) (y := (3 : Int32)) dX9_frameBit_7 (by decide) (fun hc3 => ?_) (fun hc3 => ?_)
    · refine V_iconst (v := (0 : Int32)) dX9_frameBit_14 rfl ?_
      exact V_iret (fun _ => rfl) rfl (Nat.zero_le _) (Nat.zero_le _) dX9_frameBit_15
    · refine V_iconst (v := (1 : Int32)) dX9_frameBit_10 rfl ?_
      refine V_goto (tgt := 15) dX9_frameBit_11 (by decide) ?_
      exact V_iret (fun _ => rfl) rfl (Nat.zero_le _) (Nat.zero_le _) dX9_frameBit_15
theorem t_X9_frameBit {D : DG} {z0 : Nat} {l : Launch} (a0 : Int32) (a1 : Int32) (σ : SG) : MT D z0 l yX9_frameBit wsX9_frameBit rmX9_frameBit tvI [.int a0, .int a1] σ (m_X9_frameBit a0 a1 σ) :=
  MT.of (own := RX9) (cc := cX9_frameBit) (nL := 3) (ret := (some .int)) (ct := false) (by decide) rfl rfl (fun h => by cases h) (Nat.le_of_ble_eq_true rfl) (by intro v hv; simp only [List.mem_cons, List.not_mem_nil, or_false] at hv; first | (rcases hv with rfl | rfl <;> first | rfl | exact va_rf_cat _) | exact absurd hv (fun h => h)) (v_X9_frameBit a0 a1 σ)
theorem in_X9_lossOf_X9 : ∀ w ∈ u_ws RX9 TX9 15, w ∈ wsX9_lossOf := by decide +kernel
theorem wd_X9_lossOf_1 : Cond.fieldLink RX9 7 "MainsWordsModel" "s" "[I" ∈ wsX9_lossOf := by decide +kernel
theorem fd_X9_lossOf_7_X9 : FD RX9 7 wsX9_lossOf 8 0 := ⟨RX9, "MainsWordsModel", TX9, 15, rfl, in_X9_lossOf_X9, by decide, wd_X9_lossOf_1, Or.inl rfl⟩
set_option maxRecDepth 100000 in
set_option maxHeartbeats 4000000 in
theorem v_X9_lossOf_b40 {D : DG} {z0 : Nat} {l : Launch} : ∀ (s0 : Int32) (s1 : Int32) (σ : SG), V D z0 l RX9 cX9_lossOf 4 wsX9_lossOf (some .int) rmX9_lossOf false tvI 40 [none, none, none, none] [.int s1, .int s0] σ 0 0 (m_X9_lossOf_b40 s0 s1 σ) := by
  intro s0 s1 σ
  unfold m_X9_lossOf_b40
  refine V_iadd (x := s0) (y := s1) dX9_lossOf_40 ?_
  exact V_iret (fun _ => rfl) rfl (Nat.zero_le _) (Nat.zero_le _) dX9_lossOf_41
set_option maxRecDepth 100000 in
set_option maxHeartbeats 4000000 in
theorem v_X9_lossOf_b19 {D : DG} {z0 : Nat} {l : Launch} : ∀ (v0 : Option Nat) (v1 : Int32) (v2 : Int32) (s0 : Int32) (σ : SG), V D z0 l RX9 cX9_lossOf 4 wsX9_lossOf (some .int) rmX9_lossOf false tvI 19 [some (va_rf v0), some (.int v1), some (.int v2), none] [.int s0] σ 0 0 (m_X9_lossOf_b19 v0 v1 v2 s0 σ) := by
  intro v0 v1 v2 s0 σ
  unfold m_X9_lossOf_b19
  refine V_istore_n (x := s0) (ls' := [some (va_rf v0), some (.int v1), some (.int v2), some (.int s0)]) dX9_lossOf_19 (by decide) rfl ?_
  refine V_iload_n (x := s0) dX9_lossOf_20 rfl ?_
  refine V_iload_n (x := v1) dX9_lossOf_21 rfl ?_
  refine V_iconst (v := (3 : Int32)) dX9_lossOf_22 rfl ?_
  refine V_idiv (x := v1) (y := (3 : Int32)) dX9_lossOf_23 ?_
  refine V_iload_n (x := v2) dX9_lossOf_24 rfl ?_
  refine V_iconst (v := (3 : Int32)) dX9_lossOf_25 rfl ?_
  refine V_idiv (x := v2) (y := (3 : Int32)) dX9_lossOf_26 ?_
  refine V_icmp_ne (tgt := 34) (x := (v1 / (3 : Int32))) (y := (v2 / (3 : Int32))) dX9_lossOf_27 (by decide) (fun hc1 => ?_) (fun hc1 => ?_)
  · refine V_iconst (v := (0 : Int32)) dX9_lossOf_30 rfl ?_
    refine V_goto (tgt := 40) dX9_lossOf_31 (by decide) ?_
    exact V_sub (LE.n (LE.n (LE.n (LE.n LE.e)))) (v_X9_lossOf_b40  s0 ((0 : Int32)) σ)
  · refine V_aload_n (x := v0) dX9_lossOf_34 rfl ?_
    refine V_getR fd_X9_lossOf_7_X9 dX9_lossOf_35 (fun x2 => ?_)
    refine V_iconst (v := (1 : Int32)) dX9_lossOf_38 rfl ?_
    refine V_iaload dX9_lossOf_39 (fun x3 => ?_)
    exact V_sub (LE.n (LE.n (LE.n (LE.n LE.e)))) (v_X9_lossOf_b40  s0 x3 σ)
set_option maxRecDepth 100000 in
set_option maxHeartbeats 4000000 in
theorem v_X9_lossOf {D : DG} {z0 : Nat} {l : Launch} : ∀ (a0 : Option Nat) (a1 : Int32) (a2 : Int32) (σ : SG), V D z0 l RX9 cX9_lossOf 4 wsX9_lossOf (some .int) rmX9_lossOf false tvI 0 [some (va_rf a0), some (.int a1), some (.int a2), none] [] σ 0 0 (m_X9_lossOf a0 a1 a2 σ) := by
  intro a0 a1 a2 σ
  unfold m_X9_lossOf
  refine V_iload_n (x := a1) dX9_lossOf_0 rfl ?_
  refine V_iconst (v := (3 : Int32)) dX9_lossOf_1 rfl ?_
  refine V_irem (x := a1) (y := (3 : Int32)) dX9_lossOf_2 ?_
  refine V_iload_n (x := a2) dX9_lossOf_3 rfl ?_
  refine V_iconst (v := (3 : Int32)) dX9_lossOf_4 rfl ?_
  refine V_irem (x := a2) (y := (3 : Int32)) dX9_lossOf_5 ?_
  refine V_icmp_ne (tgt := 13) (x := (a1 - a1 / (3 : Int32) * (3 : Int32))) (y := (a2 - a2 / (3 : Int32) * (3 : Int32))) dX9_lossOf_6 (by decide) (fun hc4 => ?_) (fun hc4 => ?_)
  · refine V_iconst (v := (0 : Int32)) dX9_lossOf_9 rfl ?_
    refine V_goto (tgt := 19) dX9_lossOf_10 (by decide) ?_
    exact v_X9_lossOf_b19  a0 a1 a2 ((0 : Int32)) σ
  · refine V_aload_n (x := a0) dX9_lossOf_13 rfl ?_
    refine V_getR fd_X9_lossOf_7_X9 dX9_lossOf_14 (fun x5 => ?_)
    refine V_iconst (v := (0 : Int32)) dX9_lossOf_17 rfl ?_
    refine V_iaload dX9_lossOf_18 (fun x6 => ?_)
    exact v_X9_lossOf_b19  a0 a1 a2 x6 σ
theorem t_X9_lossOf {D : DG} {z0 : Nat} {l : Launch} (a : Nat) (a1 : Int32) (a2 : Int32) (σ : SG) : MT D z0 l yX9_lossOf wsX9_lossOf rmX9_lossOf tvI [.ref a, .int a1, .int a2] σ (m_X9_lossOf (some a) a1 a2 σ) :=
  MT.of (own := RX9) (cc := cX9_lossOf) (nL := 4) (ret := (some .int)) (ct := false) (by decide) rfl rfl (fun h => by cases h) (Nat.le_of_ble_eq_true rfl) (by intro v hv; simp only [List.mem_cons, List.not_mem_nil, or_false] at hv; first | (rcases hv with rfl | rfl | rfl <;> first | rfl | exact va_rf_cat _) | exact absurd hv (fun h => h)) (v_X9_lossOf (some a) a1 a2 σ)
theorem in_X9_bitOf_X9 : ∀ w ∈ u_ws RX9 TX9 15, w ∈ wsX9_bitOf := by decide +kernel
theorem wd_X9_bitOf_1 : Cond.fieldLink RX9 7 "MainsWordsModel" "s" "[I" ∈ wsX9_bitOf := by decide +kernel
theorem fd_X9_bitOf_7_X9 : FD RX9 7 wsX9_bitOf 8 0 := ⟨RX9, "MainsWordsModel", TX9, 15, rfl, in_X9_bitOf_X9, by decide, wd_X9_bitOf_1, Or.inl rfl⟩
set_option maxRecDepth 100000 in
set_option maxHeartbeats 4000000 in
theorem v_X9_bitOf {D : DG} {z0 : Nat} {l : Launch} : ∀ (a0 : Option Nat) (a1 : Int32) (σ : SG), V D z0 l RX9 cX9_bitOf 2 wsX9_bitOf (some .int) rmX9_bitOf false tvI 0 [some (va_rf a0), some (.int a1)] [] σ 0 0 (m_X9_bitOf a0 a1 σ) := by
  intro a0 a1 σ
  unfold m_X9_bitOf
  refine V_aload_n (x := a0) dX9_bitOf_0 rfl ?_
  refine V_getR fd_X9_bitOf_7_X9 dX9_bitOf_1 (fun x1 => ?_)
  refine V_iload_n (x := a1) dX9_bitOf_4 rfl ?_
  refine V_callS0 (As := [.int a1]) (st0 := [va_rf x1]) (stI := [.int a1, va_rf x1]) (t_X9_n a1 σ) rfl (by simp only [List.map_cons, List.map_nil, List.sum_cons, List.sum_nil, va_rf_cat, catI, catF]; decide) rfl (fun s args hts => va_cwS 1 hts gX9_bitOf_X9_n rfl rfl rfl (by decide +kernel) ⟨Nat.le_of_ble_eq_true rfl, Nat.le_of_ble_eq_true rfl⟩) rfl rfl dX9_bitOf_5 (fun r2 σ3 _ => ?_)
  refine V_bipush (v := (6 : Int32)) dX9_bitOf_8 rfl ?_
  refine V_iadd (x := r2) (y := (6 : Int32)) dX9_bitOf_10 ?_
  refine V_iaload dX9_bitOf_11 (fun x4 => ?_)
  refine V_bipush (v := (14 : Int32)) dX9_bitOf_12 rfl ?_
  refine V_icmp_ge (tgt := 47) (x := x4) (y := (14 : Int32)) dX9_bitOf_14 (by decide) (fun hc5 => ?_) (fun hc5 => ?_)
  · refine V_iconst (v := (0 : Int32)) dX9_bitOf_47 rfl ?_
    exact V_iret (fun _ => rfl) rfl (Nat.zero_le _) (Nat.zero_le _) dX9_bitOf_48
  · refine V_aload_n (x := a0) dX9_bitOf_17 rfl ?_
    refine V_getR fd_X9_bitOf_7_X9 dX9_bitOf_18 (fun x6 => ?_)
    refine V_iload_n (x := a1) dX9_bitOf_21 rfl ?_
    refine V_callS0 (As := [.int a1]) (st0 := [va_rf x6]) (stI := [.int a1, va_rf x6]) (t_X9_n a1 σ3) rfl (by simp only [List.map_cons, List.map_nil, List.sum_cons, List.sum_nil, va_rf_cat, catI, catF]; decide) rfl (fun s args hts => va_cwS 1 hts gX9_bitOf_X9_n rfl rfl rfl (by decide +kernel) ⟨Nat.le_of_ble_eq_true rfl, Nat.le_of_ble_eq_true rfl⟩) rfl rfl dX9_bitOf_22 (fun r7 σ8 _ => ?_)
    refine V_bipush (v := (8 : Int32)) dX9_bitOf_25 rfl ?_
    refine V_iadd (x := r7) (y := (8 : Int32)) dX9_bitOf_27 ?_
    refine V_iaload dX9_bitOf_28 (fun x9 => ?_)
    refine V_aload_n (x := a0) dX9_bitOf_29 rfl ?_
    refine V_getR fd_X9_bitOf_7_X9 dX9_bitOf_30 (fun x10 => ?_)
    refine V_iload_n (x := a1) dX9_bitOf_33 rfl ?_
    refine V_callS0 (As := [.int a1]) (st0 := [va_rf x10, .int x9]) (stI := [.int a1, va_rf x10, .int x9]) (t_X9_n a1 σ8) rfl (by simp only [List.map_cons, List.map_nil, List.sum_cons, List.sum_nil, va_rf_cat, catI, catF]; decide) rfl (fun s args hts => va_cwS 1 hts gX9_bitOf_X9_n rfl rfl rfl (by decide +kernel) ⟨Nat.le_of_ble_eq_true rfl, Nat.le_of_ble_eq_true rfl⟩) rfl rfl dX9_bitOf_34 (fun r11 σ12 _ => ?_)
    refine V_bipush (v := (6 : Int32)) dX9_bitOf_37 rfl ?_
    refine V_iadd (x := r11) (y := (6 : Int32)) dX9_bitOf_39 ?_
    refine V_iaload dX9_bitOf_40 (fun x13 => ?_)
    refine V_callS0 (As := [.int x9, .int x13]) (st0 := []) (stI := [.int x13, .int x9]) (t_X9_frameBit x9 x13 σ12) rfl (Nat.le_of_ble_eq_true rfl) rfl (fun s args hts => va_cwS 2 hts gX9_bitOf_X9_frameBit rfl rfl rfl (by decide +kernel) ⟨Nat.le_of_ble_eq_true rfl, Nat.le_of_ble_eq_true rfl⟩) rfl rfl dX9_bitOf_41 (fun r14 σ15 _ => ?_)
    refine V_goto (tgt := 48) dX9_bitOf_44 (by decide) ?_
    exact V_iret (fun _ => rfl) rfl (Nat.zero_le _) (Nat.zero_le _) dX9_bitOf_48
theorem t_X9_bitOf {D : DG} {z0 : Nat} {l : Launch} (a : Nat) (a1 : Int32) (σ : SG) : MT D z0 l yX9_bitOf wsX9_bitOf rmX9_bitOf tvI [.ref a, .int a1] σ (m_X9_bitOf (some a) a1 σ) :=
  MT.of (own := RX9) (cc := cX9_bitOf) (nL := 2) (ret := (some .int)) (ct := false) (by decide) rfl rfl (fun h => by cases h) (Nat.le_of_ble_eq_true rfl) (by intro v hv; simp only [List.mem_cons, List.not_mem_nil, or_false] at hv; first | (rcases hv with rfl | rfl <;> first | rfl | exact va_rf_cat _) | exact absurd hv (fun h => h)) (v_X9_bitOf (some a) a1 σ)
theorem in_X9_begin_X9 : ∀ w ∈ u_ws RX9 TX9 15, w ∈ wsX9_begin := by decide +kernel
theorem wd_X9_begin_1 : Cond.fieldLink RX9 31 "MainsWordsModel" "begins" "[Z" ∈ wsX9_begin := by decide +kernel
theorem fd_X9_begin_31_X9 : FD RX9 31 wsX9_begin 8 7 := ⟨RX9, "MainsWordsModel", TX9, 15, rfl, in_X9_begin_X9, by decide, wd_X9_begin_1, Or.inl rfl⟩
theorem wd_X9_begin_3 : Cond.fieldLink RX9 7 "MainsWordsModel" "s" "[I" ∈ wsX9_begin := by decide +kernel
theorem fd_X9_begin_7_X9 : FD RX9 7 wsX9_begin 8 0 := ⟨RX9, "MainsWordsModel", TX9, 15, rfl, in_X9_begin_X9, by decide, wd_X9_begin_3, Or.inl rfl⟩
set_option maxRecDepth 100000 in
set_option maxHeartbeats 4000000 in
theorem v_X9_begin_b204 {D : DG} {z0 : Nat} {l : Launch} {rec153 : Option Nat → Int32 → SG → Option (Unit × SG)} (hrec153 : ∀ (v0 : Option Nat) (v1 : Int32) (σ : SG), V D z0 l RX9 cX9_begin 5 wsX9_begin none rmX9_begin false tvU 153 [some (va_rf v0), some (.int v1), none, none, none] [] σ 0 0 (rec153 v0 v1 σ)) : ∀ (v0 : Option Nat) (v1 : Int32) (σ : SG), V D z0 l RX9 cX9_begin 5 wsX9_begin none rmX9_begin false tvU 204 [some (va_rf v0), some (.int v1), none, none, none] [] σ 0 0 (m_X9_begin_b204 rec153 v0 v1 σ) := by
  intro v0 v1 σ
  unfold m_X9_begin_b204
  refine V_iinc (x := v1) (v := (v1 + 1)) (ls' := [some (va_rf v0), some (.int (v1 + 1)), none, none, none]) dX9_begin_204 rfl rfl (by decide) rfl ?_
  refine V_goto (tgt := 153) dX9_begin_207 (by decide) ?_
  exact hrec153 v0 ((v1 + 1)) σ
set_option maxRecDepth 100000 in
set_option maxHeartbeats 4000000 in
theorem v_X9_begin_B153 {D : DG} {z0 : Nat} {l : Launch} {rec153 : Option Nat → Int32 → SG → Option (Unit × SG)} (hrec153 : ∀ (v0 : Option Nat) (v1 : Int32) (σ : SG), V D z0 l RX9 cX9_begin 5 wsX9_begin none rmX9_begin false tvU 153 [some (va_rf v0), some (.int v1), none, none, none] [] σ 0 0 (rec153 v0 v1 σ)) : ∀ (v0 : Option Nat) (v1 : Int32) (σ : SG), V D z0 l RX9 cX9_begin 5 wsX9_begin none rmX9_begin false tvU 153 [some (va_rf v0), some (.int v1), none, none, none] [] σ 0 0 (m_X9_begin_B153 rec153 v0 v1 σ) := by
  intro v0 v1 σ
  unfold m_X9_begin_B153
  refine V_iload_n (x := v1) dX9_begin_153 rfl ?_
  refine V_iconst (v := (5 : Int32)) dX9_begin_154 rfl ?_
  refine V_icmp_ge (tgt := 210) (x := v1) (y := (5 : Int32)) dX9_begin_155 (by decide) (fun hc1 => ?_) (fun hc1 => ?_)
  · exact V_vret (fun _ => rfl) rfl (Nat.zero_le _) (Nat.zero_le _) dX9_begin_210
  · refine V_aload_n (x := v0) dX9_begin_158 rfl ?_
    refine V_getR fd_X9_begin_31_X9 dX9_begin_159 (fun x2 => ?_)
    refine V_iload_n (x := v1) dX9_begin_162 rfl ?_
    refine V_zaload dX9_begin_163 (fun x3 => ?_)
    refine V_if_eq (tgt := 204) (x := x3) dX9_begin_164 (by decide) (fun hc4 => ?_) (fun hc4 => ?_)
    · exact v_X9_begin_b204 hrec153 v0 v1 σ
    · refine V_aload_n (x := v0) dX9_begin_167 rfl ?_
      refine V_getR fd_X9_begin_7_X9 dX9_begin_168 (fun x5 => ?_)
      refine V_iload_n (x := v1) dX9_begin_171 rfl ?_
      refine V_callS0 (As := [.int v1]) (st0 := [va_rf x5]) (stI := [.int v1, va_rf x5]) (t_X9_n v1 σ) rfl (by simp only [List.map_cons, List.map_nil, List.sum_cons, List.sum_nil, va_rf_cat, catI, catF]; decide) rfl (fun s args hts => va_cwS 1 hts gX9_begin_X9_n rfl rfl rfl (by decide +kernel) ⟨Nat.le_of_ble_eq_true rfl, Nat.le_of_ble_eq_true rfl⟩) rfl rfl dX9_begin_172 (fun r6 σ7 _ => ?_)
      refine V_iconst (v := (4 : Int32)) dX9_begin_175 rfl ?_
      refine V_iadd (x := r6) (y := (4 : Int32)) dX9_begin_176 ?_
      refine V_iconst (v := (1 : Int32)) dX9_begin_177 rfl ?_
      refine V_iastore dX9_begin_178 (fun σ8 hσ8 => ?_)
      refine V_aload_n (x := v0) dX9_begin_179 rfl ?_
      refine V_getR fd_X9_begin_7_X9 dX9_begin_180 (fun x9 => ?_)
      refine V_iload_n (x := v1) dX9_begin_183 rfl ?_
      refine V_callS0 (As := [.int v1]) (st0 := [va_rf x9]) (stI := [.int v1, va_rf x9]) (t_X9_n v1 σ8) rfl (by simp only [List.map_cons, List.map_nil, List.sum_cons, List.sum_nil, va_rf_cat, catI, catF]; decide) rfl (fun s args hts => va_cwS 1 hts gX9_begin_X9_n rfl rfl rfl (by decide +kernel) ⟨Nat.le_of_ble_eq_true rfl, Nat.le_of_ble_eq_true rfl⟩) rfl rfl dX9_begin_184 (fun r10 σ11 _ => ?_)
      refine V_iconst (v := (5 : Int32)) dX9_begin_187 rfl ?_
      refine V_iadd (x := r10) (y := (5 : Int32)) dX9_begin_188 ?_
      refine V_iconst (v := (0 : Int32)) dX9_begin_189 rfl ?_
      refine V_iastore dX9_begin_190 (fun σ12 hσ12 => ?_)
      refine V_aload_n (x := v0) dX9_begin_191 rfl ?_
      refine V_getR fd_X9_begin_7_X9 dX9_begin_192 (fun x13 => ?_)
      refine V_iload_n (x := v1) dX9_begin_195 rfl ?_
      refine V_callS0 (As := [.int v1]) (st0 := [va_rf x13]) (stI := [.int v1, va_rf x13]) (t_X9_n v1 σ12) rfl (by simp only [List.map_cons, List.map_nil, List.sum_cons, List.sum_nil, va_rf_cat, catI, catF]; decide) rfl (fun s args hts => va_cwS 1 hts gX9_begin_X9_n rfl rfl rfl (by decide +kernel) ⟨Nat.le_of_ble_eq_true rfl, Nat.le_of_ble_eq_true rfl⟩) rfl rfl dX9_begin_196 (fun r14 σ15 _ => ?_)
      refine V_bipush (v := (6 : Int32)) dX9_begin_199 rfl ?_
      refine V_iadd (x := r14) (y := (6 : Int32)) dX9_begin_201 ?_
      refine V_iconst (v := (0 : Int32)) dX9_begin_202 rfl ?_
      refine V_iastore dX9_begin_203 (fun σ16 hσ16 => ?_)
      exact v_X9_begin_b204 hrec153 v0 v1 σ16
theorem v_X9_begin_L153 {D : DG} {z0 : Nat} {l : Launch} : ∀ (n : Nat) (v0 : Option Nat) (v1 : Int32) (σ : SG), V D z0 l RX9 cX9_begin 5 wsX9_begin none rmX9_begin false tvU 153 [some (va_rf v0), some (.int v1), none, none, none] [] σ 0 0 (m_X9_begin_L153 n v0 v1 σ) := by
  intro n
  induction n with
  | zero => intros; exact V_none
  | succ n ih => exact v_X9_begin_B153  ih
set_option maxRecDepth 100000 in
set_option maxHeartbeats 4000000 in
theorem v_X9_begin_b143 {D : DG} {z0 : Nat} {l : Launch} {rec2 : Option Nat → Int32 → SG → Option (Unit × SG)} (hrec2 : ∀ (v0 : Option Nat) (v1 : Int32) (σ : SG), V D z0 l RX9 cX9_begin 5 wsX9_begin none rmX9_begin false tvU 2 [some (va_rf v0), some (.int v1), none, none, none] [] σ 0 0 (rec2 v0 v1 σ)) : ∀ (v0 : Option Nat) (v1 : Int32) (s0 : Option Nat) (s1 : Int32) (s2 : Int32) (s3 : Int32) (σ : SG), V D z0 l RX9 cX9_begin 5 wsX9_begin none rmX9_begin false tvU 143 [some (va_rf v0), some (.int v1), none, none, none] [.int s3, .int s2, .int s1, va_rf s0] σ 0 0 (m_X9_begin_b143 rec2 v0 v1 s0 s1 s2 s3 σ) := by
  intro v0 v1 s0 s1 s2 s3 σ
  unfold m_X9_begin_b143
  refine V_isub (x := s2) (y := s3) dX9_begin_143 ?_
  refine V_iastore dX9_begin_144 (fun σ17 hσ17 => ?_)
  refine V_iinc (x := v1) (v := (v1 + 1)) (ls' := [some (va_rf v0), some (.int (v1 + 1)), none, none, none]) dX9_begin_145 rfl rfl (by decide) rfl ?_
  refine V_goto (tgt := 2) dX9_begin_148 (by decide) ?_
  exact hrec2 v0 ((v1 + 1)) σ17
set_option maxRecDepth 100000 in
set_option maxHeartbeats 4000000 in
theorem v_X9_begin_b142 {D : DG} {z0 : Nat} {l : Launch} {rec2 : Option Nat → Int32 → SG → Option (Unit × SG)} (hrec2 : ∀ (v0 : Option Nat) (v1 : Int32) (σ : SG), V D z0 l RX9 cX9_begin 5 wsX9_begin none rmX9_begin false tvU 2 [some (va_rf v0), some (.int v1), none, none, none] [] σ 0 0 (rec2 v0 v1 σ)) : ∀ (v0 : Option Nat) (v1 : Int32) (s0 : Option Nat) (s1 : Int32) (s2 : Int32) (σ : SG), V D z0 l RX9 cX9_begin 5 wsX9_begin none rmX9_begin false tvU 142 [some (va_rf v0), some (.int v1), none, none, none] [.int s2, .int s1, va_rf s0] σ 0 0 (m_X9_begin_b142 rec2 v0 v1 s0 s1 s2 σ) := by
  intro v0 v1 s0 s1 s2 σ
  unfold m_X9_begin_b142
  refine V_iconst (v := (0 : Int32)) dX9_begin_142 rfl ?_
  exact v_X9_begin_b143 hrec2 v0 v1 s0 s1 s2 ((0 : Int32)) σ
set_option maxRecDepth 100000 in
set_option maxHeartbeats 4000000 in
theorem v_X9_begin_b110 {D : DG} {z0 : Nat} {l : Launch} {rec2 : Option Nat → Int32 → SG → Option (Unit × SG)} (hrec2 : ∀ (v0 : Option Nat) (v1 : Int32) (σ : SG), V D z0 l RX9 cX9_begin 5 wsX9_begin none rmX9_begin false tvU 2 [some (va_rf v0), some (.int v1), none, none, none] [] σ 0 0 (rec2 v0 v1 σ)) : ∀ (v0 : Option Nat) (v1 : Int32) (v2 : Int32) (v4 : Int32) (s0 : Option Nat) (s1 : Int32) (s2 : Int32) (σ : SG), V D z0 l RX9 cX9_begin 5 wsX9_begin none rmX9_begin false tvU 110 [some (va_rf v0), some (.int v1), some (.int v2), none, some (.int v4)] [.int s2, .int s1, va_rf s0] σ 0 0 (m_X9_begin_b110 rec2 v0 v1 v2 v4 s0 s1 s2 σ) := by
  intro v0 v1 v2 v4 s0 s1 s2 σ
  unfold m_X9_begin_b110
  refine V_zastore dX9_begin_110 (fun σ18 hσ18 => ?_)
  refine V_aload_n (x := v0) dX9_begin_111 rfl ?_
  refine V_getR fd_X9_begin_7_X9 dX9_begin_112 (fun x19 => ?_)
  refine V_iload_n (x := v2) dX9_begin_115 rfl ?_
  refine V_bipush (v := (7 : Int32)) dX9_begin_116 rfl ?_
  refine V_iadd (x := v2) (y := (7 : Int32)) dX9_begin_118 ?_
  refine V_dup2 dX9_begin_119 rfl (va_rf_cat _) ?_
  refine V_iaload dX9_begin_120 (fun x20 => ?_)
  refine V_iload (x := v4) dX9_begin_121 rfl ?_
  refine V_if_eq (tgt := 142) (x := v4) dX9_begin_123 (by decide) (fun hc21 => ?_) (fun hc21 => ?_)
  · exact V_sub (LE.s (LE.s (LE.n (LE.s (LE.n LE.e))))) (v_X9_begin_b142 hrec2 v0 v1 x19 ((v2 + (7 : Int32))) x20 σ18)
  · refine V_aload_n (x := v0) dX9_begin_126 rfl ?_
    refine V_getR fd_X9_begin_7_X9 dX9_begin_127 (fun x22 => ?_)
    refine V_iload_n (x := v2) dX9_begin_130 rfl ?_
    refine V_bipush (v := (7 : Int32)) dX9_begin_131 rfl ?_
    refine V_iadd (x := v2) (y := (7 : Int32)) dX9_begin_133 ?_
    refine V_iaload dX9_begin_134 (fun x23 => ?_)
    refine V_if_le (tgt := 142) (x := x23) dX9_begin_135 (by decide) (fun hc24 => ?_) (fun hc24 => ?_)
    · exact V_sub (LE.s (LE.s (LE.n (LE.s (LE.n LE.e))))) (v_X9_begin_b142 hrec2 v0 v1 x19 ((v2 + (7 : Int32))) x20 σ18)
    · refine V_iconst (v := (1 : Int32)) dX9_begin_138 rfl ?_
      refine V_goto (tgt := 143) dX9_begin_139 (by decide) ?_
      exact V_sub (LE.s (LE.s (LE.n (LE.s (LE.n LE.e))))) (v_X9_begin_b143 hrec2 v0 v1 x19 ((v2 + (7 : Int32))) x20 ((1 : Int32)) σ18)
set_option maxRecDepth 100000 in
set_option maxHeartbeats 4000000 in
theorem v_X9_begin_b109 {D : DG} {z0 : Nat} {l : Launch} {rec2 : Option Nat → Int32 → SG → Option (Unit × SG)} (hrec2 : ∀ (v0 : Option Nat) (v1 : Int32) (σ : SG), V D z0 l RX9 cX9_begin 5 wsX9_begin none rmX9_begin false tvU 2 [some (va_rf v0), some (.int v1), none, none, none] [] σ 0 0 (rec2 v0 v1 σ)) : ∀ (v0 : Option Nat) (v1 : Int32) (v2 : Int32) (v4 : Int32) (s0 : Option Nat) (s1 : Int32) (σ : SG), V D z0 l RX9 cX9_begin 5 wsX9_begin none rmX9_begin false tvU 109 [some (va_rf v0), some (.int v1), some (.int v2), none, some (.int v4)] [.int s1, va_rf s0] σ 0 0 (m_X9_begin_b109 rec2 v0 v1 v2 v4 s0 s1 σ) := by
  intro v0 v1 v2 v4 s0 s1 σ
  unfold m_X9_begin_b109
  refine V_iconst (v := (0 : Int32)) dX9_begin_109 rfl ?_
  exact v_X9_begin_b110 hrec2 v0 v1 v2 v4 s0 s1 ((0 : Int32)) σ
set_option maxRecDepth 100000 in
set_option maxHeartbeats 4000000 in
theorem v_X9_begin_b48 {D : DG} {z0 : Nat} {l : Launch} {rec2 : Option Nat → Int32 → SG → Option (Unit × SG)} (hrec2 : ∀ (v0 : Option Nat) (v1 : Int32) (σ : SG), V D z0 l RX9 cX9_begin 5 wsX9_begin none rmX9_begin false tvU 2 [some (va_rf v0), some (.int v1), none, none, none] [] σ 0 0 (rec2 v0 v1 σ)) : ∀ (v0 : Option Nat) (v1 : Int32) (v2 : Int32) (v3 : Int32) (s0 : Int32) (σ : SG), V D z0 l RX9 cX9_begin 5 wsX9_begin none rmX9_begin false tvU 48 [some (va_rf v0), some (.int v1), some (.int v2), some (.int v3), none] [.int s0] σ 0 0 (m_X9_begin_b48 rec2 v0 v1 v2 v3 s0 σ) := by
  intro v0 v1 v2 v3 s0 σ
  unfold m_X9_begin_b48
  refine V_istore (x := s0) (ls' := [some (va_rf v0), some (.int v1), some (.int v2), some (.int v3), some (.int s0)]) dX9_begin_48 (by decide) rfl ?_
  refine V_aload_n (x := v0) dX9_begin_50 rfl ?_
  refine V_getR fd_X9_begin_31_X9 dX9_begin_51 (fun x25 => ?_)
  refine V_iload_n (x := v1) dX9_begin_54 rfl ?_
  refine V_iload (x := s0) dX9_begin_55 rfl ?_
  refine V_if_eq (tgt := 109) (x := s0) dX9_begin_57 (by decide) (fun hc26 => ?_) (fun hc26 => ?_)
  · exact V_sub (LE.s (LE.s (LE.s (LE.n (LE.s LE.e))))) (v_X9_begin_b109 hrec2 v0 v1 v2 s0 x25 v1 σ)
  · refine V_aload_n (x := v0) dX9_begin_60 rfl ?_
    refine V_getR fd_X9_begin_7_X9 dX9_begin_61 (fun x27 => ?_)
    refine V_iload_n (x := v2) dX9_begin_64 rfl ?_
    refine V_iconst (v := (3 : Int32)) dX9_begin_65 rfl ?_
    refine V_iadd (x := v2) (y := (3 : Int32)) dX9_begin_66 ?_
    refine V_iaload dX9_begin_67 (fun x28 => ?_)
    refine V_if_le (tgt := 109) (x := x28) dX9_begin_68 (by decide) (fun hc29 => ?_) (fun hc29 => ?_)
    · exact V_sub (LE.s (LE.s (LE.s (LE.n (LE.s LE.e))))) (v_X9_begin_b109 hrec2 v0 v1 v2 s0 x25 v1 σ)
    · refine V_aload_n (x := v0) dX9_begin_71 rfl ?_
      refine V_getR fd_X9_begin_7_X9 dX9_begin_72 (fun x30 => ?_)
      refine V_iload_n (x := v2) dX9_begin_75 rfl ?_
      refine V_bipush (v := (7 : Int32)) dX9_begin_76 rfl ?_
      refine V_iadd (x := v2) (y := (7 : Int32)) dX9_begin_78 ?_
      refine V_iaload dX9_begin_79 (fun x31 => ?_)
      refine V_if_ne (tgt := 109) (x := x31) dX9_begin_80 (by decide) (fun hc32 => ?_) (fun hc32 => ?_)
      · refine V_aload_n (x := v0) dX9_begin_83 rfl ?_
        refine V_getR fd_X9_begin_7_X9 dX9_begin_84 (fun x33 => ?_)
        refine V_iload_n (x := v3) dX9_begin_87 rfl ?_
        refine V_iconst (v := (0 : Int32)) dX9_begin_88 rfl ?_
        refine V_iadd (x := v3) (y := (0 : Int32)) dX9_begin_89 ?_
        refine V_iaload dX9_begin_90 (fun x34 => ?_)
        refine V_if_ne (tgt := 109) (x := x34) dX9_begin_91 (by decide) (fun hc35 => ?_) (fun hc35 => ?_)
        · refine V_aload_n (x := v0) dX9_begin_94 rfl ?_
          refine V_getR fd_X9_begin_7_X9 dX9_begin_95 (fun x36 => ?_)
          refine V_iload_n (x := v3) dX9_begin_98 rfl ?_
          refine V_iconst (v := (1 : Int32)) dX9_begin_99 rfl ?_
          refine V_iadd (x := v3) (y := (1 : Int32)) dX9_begin_100 ?_
          refine V_iaload dX9_begin_101 (fun x37 => ?_)
          refine V_if_ne (tgt := 109) (x := x37) dX9_begin_102 (by decide) (fun hc38 => ?_) (fun hc38 => ?_)
          · refine V_iconst (v := (1 : Int32)) dX9_begin_105 rfl ?_
            refine V_goto (tgt := 110) dX9_begin_106 (by decide) ?_
            exact V_sub (LE.s (LE.s (LE.s (LE.n (LE.s LE.e))))) (v_X9_begin_b110 hrec2 v0 v1 v2 s0 x25 v1 ((1 : Int32)) σ)
          · exact V_sub (LE.s (LE.s (LE.s (LE.n (LE.s LE.e))))) (v_X9_begin_b109 hrec2 v0 v1 v2 s0 x25 v1 σ)
        · exact V_sub (LE.s (LE.s (LE.s (LE.n (LE.s LE.e))))) (v_X9_begin_b109 hrec2 v0 v1 v2 s0 x25 v1 σ)
      · exact V_sub (LE.s (LE.s (LE.s (LE.n (LE.s LE.e))))) (v_X9_begin_b109 hrec2 v0 v1 v2 s0 x25 v1 σ)
set_option maxRecDepth 100000 in
set_option maxHeartbeats 4000000 in
theorem v_X9_begin_b47 {D : DG} {z0 : Nat} {l : Launch} {rec2 : Option Nat → Int32 → SG → Option (Unit × SG)} (hrec2 : ∀ (v0 : Option Nat) (v1 : Int32) (σ : SG), V D z0 l RX9 cX9_begin 5 wsX9_begin none rmX9_begin false tvU 2 [some (va_rf v0), some (.int v1), none, none, none] [] σ 0 0 (rec2 v0 v1 σ)) : ∀ (v0 : Option Nat) (v1 : Int32) (v2 : Int32) (v3 : Int32) (σ : SG), V D z0 l RX9 cX9_begin 5 wsX9_begin none rmX9_begin false tvU 47 [some (va_rf v0), some (.int v1), some (.int v2), some (.int v3), none] [] σ 0 0 (m_X9_begin_b47 rec2 v0 v1 v2 v3 σ) := by
  intro v0 v1 v2 v3 σ
  unfold m_X9_begin_b47
  refine V_iconst (v := (0 : Int32)) dX9_begin_47 rfl ?_
  exact v_X9_begin_b48 hrec2 v0 v1 v2 v3 ((0 : Int32)) σ
set_option maxRecDepth 100000 in
set_option maxHeartbeats 4000000 in
theorem v_X9_begin_B2 {D : DG} {z0 : Nat} {l : Launch} {rec2 : Option Nat → Int32 → SG → Option (Unit × SG)} (hrec2 : ∀ (v0 : Option Nat) (v1 : Int32) (σ : SG), V D z0 l RX9 cX9_begin 5 wsX9_begin none rmX9_begin false tvU 2 [some (va_rf v0), some (.int v1), none, none, none] [] σ 0 0 (rec2 v0 v1 σ)) : ∀ (v0 : Option Nat) (v1 : Int32) (σ : SG), V D z0 l RX9 cX9_begin 5 wsX9_begin none rmX9_begin false tvU 2 [some (va_rf v0), some (.int v1), none, none, none] [] σ 0 0 (m_X9_begin_B2 rec2 v0 v1 σ) := by
  intro v0 v1 σ
  unfold m_X9_begin_B2
  refine V_iload_n (x := v1) dX9_begin_2 rfl ?_
  refine V_iconst (v := (5 : Int32)) dX9_begin_3 rfl ?_
  refine V_icmp_ge (tgt := 151) (x := v1) (y := (5 : Int32)) dX9_begin_4 (by decide) (fun hc39 => ?_) (fun hc39 => ?_)
  · refine V_iconst (v := (0 : Int32)) dX9_begin_151 rfl ?_
    refine V_istore_n (x := (0 : Int32)) (ls' := [some (va_rf v0), some (.int (0 : Int32)), none, none, none]) dX9_begin_152 (by decide) rfl ?_
    exact v_X9_begin_L153  1000 v0 ((0 : Int32)) σ
  · refine V_iload_n (x := v1) dX9_begin_7 rfl ?_
    refine V_callS0 (As := [.int v1]) (st0 := []) (stI := [.int v1]) (t_X9_n v1 σ) rfl (Nat.le_of_ble_eq_true rfl) rfl (fun s args hts => va_cwS 1 hts gX9_begin_X9_n rfl rfl rfl (by decide +kernel) ⟨Nat.le_of_ble_eq_true rfl, Nat.le_of_ble_eq_true rfl⟩) rfl rfl dX9_begin_8 (fun r40 σ41 _ => ?_)
    refine V_istore_n (x := r40) (ls' := [some (va_rf v0), some (.int v1), some (.int r40), none, none]) dX9_begin_11 (by decide) rfl ?_
    refine V_aload_n (x := v0) dX9_begin_12 rfl ?_
    refine V_getR fd_X9_begin_7_X9 dX9_begin_13 (fun x42 => ?_)
    refine V_iload_n (x := r40) dX9_begin_16 rfl ?_
    refine V_iconst (v := (1 : Int32)) dX9_begin_17 rfl ?_
    refine V_iadd (x := r40) (y := (1 : Int32)) dX9_begin_18 ?_
    refine V_iaload dX9_begin_19 (fun x43 => ?_)
    refine V_callS0 (As := [.int x43]) (st0 := []) (stI := [.int x43]) (t_X9_r x43 σ41) rfl (Nat.le_of_ble_eq_true rfl) rfl (fun s args hts => va_cwS 1 hts gX9_begin_X9_r rfl rfl rfl (by decide +kernel) ⟨Nat.le_of_ble_eq_true rfl, Nat.le_of_ble_eq_true rfl⟩) rfl rfl dX9_begin_20 (fun r44 σ45 _ => ?_)
    refine V_istore_n (x := r44) (ls' := [some (va_rf v0), some (.int v1), some (.int r40), some (.int r44), none]) dX9_begin_23 (by decide) rfl ?_
    refine V_aload_n (x := v0) dX9_begin_24 rfl ?_
    refine V_iload_n (x := v1) dX9_begin_25 rfl ?_
    refine V_callV0 (As := [.int v1]) (st0 := []) (stI := [.int v1, va_rf v0]) (fun _ h => by cases h; exact t_X9_isSender _ v1 σ45) (q := (RX9, TX9, 15)) rfl rfl rfl (Nat.le_of_ble_eq_true rfl) rfl (fun s args hts => cwV 1 hts gX9_begin_X9_isSender rfl rfl rfl (by decide +kernel) ⟨Nat.le_of_ble_eq_true rfl, Nat.le_of_ble_eq_true rfl⟩) rfl rfl dX9_begin_26 (fun r46 σ47 _ => ?_)
    refine V_if_eq (tgt := 47) (x := r46) dX9_begin_29 (by decide) (fun hc48 => ?_) (fun hc48 => ?_)
    · exact v_X9_begin_b47 hrec2 v0 v1 r40 r44 σ47
    · refine V_aload_n (x := v0) dX9_begin_32 rfl ?_
      refine V_getR fd_X9_begin_7_X9 dX9_begin_33 (fun x49 => ?_)
      refine V_iload_n (x := r40) dX9_begin_36 rfl ?_
      refine V_iconst (v := (4 : Int32)) dX9_begin_37 rfl ?_
      refine V_iadd (x := r40) (y := (4 : Int32)) dX9_begin_38 ?_
      refine V_iaload dX9_begin_39 (fun x50 => ?_)
      refine V_if_ne (tgt := 47) (x := x50) dX9_begin_40 (by decide) (fun hc51 => ?_) (fun hc51 => ?_)
      · refine V_iconst (v := (1 : Int32)) dX9_begin_43 rfl ?_
        refine V_goto (tgt := 48) dX9_begin_44 (by decide) ?_
        exact v_X9_begin_b48 hrec2 v0 v1 r40 r44 ((1 : Int32)) σ47
      · exact v_X9_begin_b47 hrec2 v0 v1 r40 r44 σ47
theorem v_X9_begin_L2 {D : DG} {z0 : Nat} {l : Launch} : ∀ (n : Nat) (v0 : Option Nat) (v1 : Int32) (σ : SG), V D z0 l RX9 cX9_begin 5 wsX9_begin none rmX9_begin false tvU 2 [some (va_rf v0), some (.int v1), none, none, none] [] σ 0 0 (m_X9_begin_L2 n v0 v1 σ) := by
  intro n
  induction n with
  | zero => intros; exact V_none
  | succ n ih => exact v_X9_begin_B2  ih
set_option maxRecDepth 100000 in
set_option maxHeartbeats 4000000 in
theorem v_X9_begin {D : DG} {z0 : Nat} {l : Launch} : ∀ (a0 : Option Nat) (σ : SG), V D z0 l RX9 cX9_begin 5 wsX9_begin none rmX9_begin false tvU 0 [some (va_rf a0), none, none, none, none] [] σ 0 0 (m_X9_begin a0 σ) := by
  intro a0 σ
  unfold m_X9_begin
  refine V_iconst (v := (0 : Int32)) dX9_begin_0 rfl ?_
  refine V_istore_n (x := (0 : Int32)) (ls' := [some (va_rf a0), some (.int (0 : Int32)), none, none, none]) dX9_begin_1 (by decide) rfl ?_
  exact v_X9_begin_L2  1000 a0 ((0 : Int32)) σ
theorem t_X9_begin {D : DG} {z0 : Nat} {l : Launch} (a : Nat)  (σ : SG) : MT D z0 l yX9_begin wsX9_begin rmX9_begin tvU [.ref a] σ (m_X9_begin (some a) σ) :=
  MT.of (own := RX9) (cc := cX9_begin) (nL := 5) (ret := none) (ct := false) (by decide) rfl rfl (fun h => by cases h) (Nat.le_of_ble_eq_true rfl) (by intro v hv; simp only [List.mem_cons, List.not_mem_nil, or_false] at hv; first | (rcases hv with rfl <;> first | rfl | exact va_rf_cat _) | exact absurd hv (fun h => h)) (v_X9_begin (some a) σ)
theorem in_X9_sound_X9 : ∀ w ∈ u_ws RX9 TX9 15, w ∈ wsX9_sound := by decide +kernel
theorem wd_X9_sound_1 : Cond.fieldLink RX9 25 "MainsWordsModel" "heard" "[I" ∈ wsX9_sound := by decide +kernel
theorem fd_X9_sound_25_X9 : FD RX9 25 wsX9_sound 8 5 := ⟨RX9, "MainsWordsModel", TX9, 15, rfl, in_X9_sound_X9, by decide, wd_X9_sound_1, Or.inl rfl⟩
theorem wd_X9_sound_3 : Cond.fieldLink RX9 7 "MainsWordsModel" "s" "[I" ∈ wsX9_sound := by decide +kernel
theorem fd_X9_sound_7_X9 : FD RX9 7 wsX9_sound 8 0 := ⟨RX9, "MainsWordsModel", TX9, 15, rfl, in_X9_sound_X9, by decide, wd_X9_sound_3, Or.inl rfl⟩
set_option maxRecDepth 100000 in
set_option maxHeartbeats 4000000 in
theorem v_X9_sound_b40 {D : DG} {z0 : Nat} {l : Launch} {rec2 : Option Nat → Int32 → Int32 → Int32 → SG → Option (Unit × SG)} (hrec2 : ∀ (v0 : Option Nat) (v1 : Int32) (v2 : Int32) (v3 : Int32) (σ : SG), V D z0 l RX9 cX9_sound 4 wsX9_sound none rmX9_sound false tvU 2 [some (va_rf v0), some (.int v1), some (.int v2), some (.int v3)] [] σ 0 0 (rec2 v0 v1 v2 v3 σ)) : ∀ (v0 : Option Nat) (v1 : Int32) (v2 : Int32) (v3 : Int32) (s0 : Option Nat) (s1 : Int32) (s2 : Int32) (σ : SG), V D z0 l RX9 cX9_sound 4 wsX9_sound none rmX9_sound false tvU 40 [some (va_rf v0), some (.int v1), some (.int v2), some (.int v3)] [.int s2, .int s1, va_rf s0] σ 0 0 (m_X9_sound_b40 rec2 v0 v1 v2 v3 s0 s1 s2 σ) := by
  intro v0 v1 v2 v3 s0 s1 s2 σ
  unfold m_X9_sound_b40
  refine V_iastore dX9_sound_40 (fun σ1 hσ1 => ?_)
  refine V_iinc (x := v3) (v := (v3 + 1)) (ls' := [some (va_rf v0), some (.int v1), some (.int v2), some (.int (v3 + 1))]) dX9_sound_41 rfl rfl (by decide) rfl ?_
  refine V_goto (tgt := 2) dX9_sound_44 (by decide) ?_
  exact hrec2 v0 v1 v2 ((v3 + 1)) σ1
set_option maxRecDepth 100000 in
set_option maxHeartbeats 4000000 in
theorem v_X9_sound_B2 {D : DG} {z0 : Nat} {l : Launch} {rec2 : Option Nat → Int32 → Int32 → Int32 → SG → Option (Unit × SG)} (hrec2 : ∀ (v0 : Option Nat) (v1 : Int32) (v2 : Int32) (v3 : Int32) (σ : SG), V D z0 l RX9 cX9_sound 4 wsX9_sound none rmX9_sound false tvU 2 [some (va_rf v0), some (.int v1), some (.int v2), some (.int v3)] [] σ 0 0 (rec2 v0 v1 v2 v3 σ)) : ∀ (v0 : Option Nat) (v1 : Int32) (v2 : Int32) (v3 : Int32) (σ : SG), V D z0 l RX9 cX9_sound 4 wsX9_sound none rmX9_sound false tvU 2 [some (va_rf v0), some (.int v1), some (.int v2), some (.int v3)] [] σ 0 0 (m_X9_sound_B2 rec2 v0 v1 v2 v3 σ) := by
  intro v0 v1 v2 v3 σ
  unfold m_X9_sound_B2
  refine V_iload_n (x := v3) dX9_sound_2 rfl ?_
  refine V_bipush (v := (6 : Int32)) dX9_sound_3 rfl ?_
  refine V_icmp_ge (tgt := 47) (x := v3) (y := (6 : Int32)) dX9_sound_5 (by decide) (fun hc2 => ?_) (fun hc2 => ?_)
  · exact V_vret (fun _ => rfl) rfl (Nat.zero_le _) (Nat.zero_le _) dX9_sound_47
  · refine V_aload_n (x := v0) dX9_sound_8 rfl ?_
    refine V_getR fd_X9_sound_25_X9 dX9_sound_9 (fun x3 => ?_)
    refine V_iload_n (x := v3) dX9_sound_12 rfl ?_
    refine V_iload_n (x := v2) dX9_sound_13 rfl ?_
    refine V_aload_n (x := v0) dX9_sound_14 rfl ?_
    refine V_iload_n (x := v1) dX9_sound_15 rfl ?_
    refine V_iload_n (x := v3) dX9_sound_16 rfl ?_
    refine V_callV0 (As := [.int v1, .int v3]) (st0 := [.int v2, .int v3, va_rf x3]) (stI := [.int v3, .int v1, va_rf v0, .int v2, .int v3, va_rf x3]) (fun _ h => by cases h; exact t_X9_lossOf _ v1 v3 σ) (q := (RX9, TX9, 15)) rfl rfl rfl (by simp only [List.map_cons, List.map_nil, List.sum_cons, List.sum_nil, va_rf_cat, catI, catF]; decide) rfl (fun s args hts => cwV 2 hts gX9_sound_X9_lossOf rfl rfl rfl (by decide +kernel) ⟨Nat.le_of_ble_eq_true rfl, Nat.le_of_ble_eq_true rfl⟩) rfl rfl dX9_sound_17 (fun r4 σ5 _ => ?_)
    refine V_isub (x := v2) (y := r4) dX9_sound_20 ?_
    refine V_aload_n (x := v0) dX9_sound_21 rfl ?_
    refine V_getR fd_X9_sound_7_X9 dX9_sound_22 (fun x6 => ?_)
    refine V_iconst (v := (2 : Int32)) dX9_sound_25 rfl ?_
    refine V_iaload dX9_sound_26 (fun x7 => ?_)
    refine V_icmp_lt (tgt := 34) (x := (v2 - r4)) (y := x7) dX9_sound_27 (by decide) (fun hc8 => ?_) (fun hc8 => ?_)
    · refine V_aload_n (x := v0) dX9_sound_34 rfl ?_
      refine V_getR fd_X9_sound_25_X9 dX9_sound_35 (fun x9 => ?_)
      refine V_iload_n (x := v3) dX9_sound_38 rfl ?_
      refine V_iaload dX9_sound_39 (fun x10 => ?_)
      exact v_X9_sound_b40 hrec2 v0 v1 v2 v3 x3 v3 x10 σ5
    · refine V_iconst (v := (1 : Int32)) dX9_sound_30 rfl ?_
      refine V_goto (tgt := 40) dX9_sound_31 (by decide) ?_
      exact v_X9_sound_b40 hrec2 v0 v1 v2 v3 x3 v3 ((1 : Int32)) σ5
theorem v_X9_sound_L2 {D : DG} {z0 : Nat} {l : Launch} : ∀ (n : Nat) (v0 : Option Nat) (v1 : Int32) (v2 : Int32) (v3 : Int32) (σ : SG), V D z0 l RX9 cX9_sound 4 wsX9_sound none rmX9_sound false tvU 2 [some (va_rf v0), some (.int v1), some (.int v2), some (.int v3)] [] σ 0 0 (m_X9_sound_L2 n v0 v1 v2 v3 σ) := by
  intro n
  induction n with
  | zero => intros; exact V_none
  | succ n ih => exact v_X9_sound_B2  ih
set_option maxRecDepth 100000 in
set_option maxHeartbeats 4000000 in
theorem v_X9_sound {D : DG} {z0 : Nat} {l : Launch} : ∀ (a0 : Option Nat) (a1 : Int32) (a2 : Int32) (σ : SG), V D z0 l RX9 cX9_sound 4 wsX9_sound none rmX9_sound false tvU 0 [some (va_rf a0), some (.int a1), some (.int a2), none] [] σ 0 0 (m_X9_sound a0 a1 a2 σ) := by
  intro a0 a1 a2 σ
  unfold m_X9_sound
  refine V_iconst (v := (0 : Int32)) dX9_sound_0 rfl ?_
  refine V_istore_n (x := (0 : Int32)) (ls' := [some (va_rf a0), some (.int a1), some (.int a2), some (.int (0 : Int32))]) dX9_sound_1 (by decide) rfl ?_
  exact v_X9_sound_L2  1000 a0 a1 a2 ((0 : Int32)) σ
theorem t_X9_sound {D : DG} {z0 : Nat} {l : Launch} (a : Nat) (a1 : Int32) (a2 : Int32) (σ : SG) : MT D z0 l yX9_sound wsX9_sound rmX9_sound tvU [.ref a, .int a1, .int a2] σ (m_X9_sound (some a) a1 a2 σ) :=
  MT.of (own := RX9) (cc := cX9_sound) (nL := 4) (ret := none) (ct := false) (by decide) rfl rfl (fun h => by cases h) (Nat.le_of_ble_eq_true rfl) (by intro v hv; simp only [List.mem_cons, List.not_mem_nil, or_false] at hv; first | (rcases hv with rfl | rfl | rfl <;> first | rfl | exact va_rf_cat _) | exact absurd hv (fun h => h)) (v_X9_sound (some a) a1 a2 σ)
