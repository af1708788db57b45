theorem in_X8_say_X8 : ∀ w ∈ u_ws RX8 TX8 6, w ∈ wsX8_say := by decide +kernel
theorem wd_X8_say_1 : Cond.fieldLink RX8 10 "MainsWords" "now" "LMainsWords$Net;" ∈ wsX8_say := by decide +kernel
theorem fd_X8_say_10_X8 : FD RX8 10 wsX8_say 7 0 := ⟨RX8, "MainsWords", TX8, 6, rfl, in_X8_say_X8, by decide, wd_X8_say_1, Or.inl rfl⟩
theorem wd_X8_say_3 : Cond.fieldLink RX8 29 "MainsWords" "history" "LMainsWords$History;" ∈ wsX8_say := by decide +kernel
theorem fd_X8_say_29_X8 : FD RX8 29 wsX8_say 7 4 := ⟨RX8, "MainsWords", TX8, 6, rfl, in_X8_say_X8, by decide, wd_X8_say_3, Or.inl rfl⟩
set_option maxRecDepth 100000 in
set_option maxHeartbeats 4000000 in
theorem v_X8_say {D : DG} {z0 : Nat} {l : Launch} : ∀ (a0 : Option Nat) (a1 : Int32) (a2 : Int32) (σ : SG), V D z0 l RX8 cX8_say 4 wsX8_say (some .int) rmX8_say false tvI 0 [some (va_rf a0), some (.int a1), some (.int a2), none] [] σ 0 0 (m_X8_say a0 a1 a2 σ) := by
  intro a0 a1 a2 σ
  unfold m_X8_say
  refine V_aload_n (x := a0) dX8_say_0 rfl ?_
  refine V_getR fd_X8_say_10_X8 dX8_say_1 (fun x1 => ?_)
  refine V_iload_n (x := a1) dX8_say_4 rfl ?_
  refine V_iload_n (x := a2) dX8_say_5 rfl ?_
  refine V_callV0 (As := [.int a1, .int a2]) (st0 := []) (stI := [.int a2, .int a1, va_rf x1]) (fun _ h => by cases h; exact t_X3_refusalOfWord _ a1 a2 σ) (q := (RX3, TX3, 8)) rfl rfl rfl (Nat.le_of_ble_eq_true rfl) rfl (fun s args hts => cwV 2 hts gX8_say_X3_refusalOfWord rfl rfl rfl (by decide +kernel) ⟨Nat.le_of_ble_eq_true rfl, Nat.le_of_ble_eq_true rfl⟩) rfl rfl dX8_say_6 (fun r2 σ3 _ => ?_)
  refine V_istore_n (x := r2) (ls' := [some (va_rf a0), some (.int a1), some (.int a2), some (.int r2)]) dX8_say_9 (by decide) rfl ?_
  refine V_iload_n (x := r2) dX8_say_10 rfl ?_
  refine V_if_ge (tgt := 16) (x := r2) dX8_say_11 (by decide) (fun hc4 => ?_) (fun hc4 => ?_)
  · refine V_aload_n (x := a0) dX8_say_16 rfl ?_
    refine V_getR fd_X8_say_29_X8 dX8_say_17 (fun x5 => ?_)
    refine V_aload_n (x := a0) dX8_say_20 rfl ?_
    refine V_getR fd_X8_say_10_X8 dX8_say_21 (fun x6 => ?_)
    refine V_callV0 (As := [va_rf x6]) (st0 := []) (stI := [va_rf x6, va_rf x5]) (fun _ h => by cases h; exact t_X0_keep _ x6 σ3) (q := (RX0, TX0, 2)) rfl rfl rfl (Nat.le_of_ble_eq_true rfl) rfl (fun s args hts => cwV 1 hts gX8_say_X0_keep rfl rfl rfl (by decide +kernel) ⟨Nat.le_of_ble_eq_true rfl, Nat.le_of_ble_eq_true rfl⟩) rfl rfl dX8_say_24 (fun _ σ7 _ => ?_)
    refine V_aload_n (x := a0) dX8_say_27 rfl ?_
    refine V_getR fd_X8_say_10_X8 dX8_say_28 (fun x8 => ?_)
    refine V_iload_n (x := a1) dX8_say_31 rfl ?_
    refine V_iload_n (x := a2) dX8_say_32 rfl ?_
    refine V_callV0 (As := [.int a1, .int a2]) (st0 := []) (stI := [.int a2, .int a1, va_rf x8]) (fun _ h => by cases h; exact t_X3_giveWord _ a1 a2 σ7) (q := (RX3, TX3, 8)) rfl rfl rfl (Nat.le_of_ble_eq_true rfl) rfl (fun s args hts => cwV 2 hts gX8_say_X3_giveWord rfl rfl rfl (by decide +kernel) ⟨Nat.le_of_ble_eq_true rfl, Nat.le_of_ble_eq_true rfl⟩) rfl rfl dX8_say_33 (fun r9 σ10 _ => ?_)
    exact V_iret (fun _ => rfl) rfl (Nat.zero_le _) (Nat.zero_le _) dX8_say_36
  · refine V_iload_n (x := r2) dX8_say_14 rfl ?_
    exact V_iret (fun _ => rfl) rfl (Nat.zero_le _) (Nat.zero_le _) dX8_say_15
theorem t_X8_say {D : DG} {z0 : Nat} {l : Launch} (a : Nat) (a1 : Int32) (a2 : Int32) (σ : SG) : MT D z0 l yX8_say wsX8_say rmX8_say tvI [.ref a, .int a1, .int a2] σ (m_X8_say (some a) a1 a2 σ) :=
  MT.of (own := RX8) (cc := cX8_say) (nL := 4) (ret := (some .int)) (ct := false) (by decide) rfl rfl (fun h => by cases h) (Nat.le_of_ble_eq_true rfl) (by intro v hv; simp only [List.mem_cons, List.not_mem_nil, or_false] at hv; first | (rcases hv with rfl | rfl | rfl <;> first | rfl | exact va_rf_cat _) | exact absurd hv (fun h => h)) (v_X8_say (some a) a1 a2 σ)
theorem in_X8_run_X8 : ∀ w ∈ u_ws RX8 TX8 6, w ∈ wsX8_run := by decide +kernel
theorem wd_X8_run_1 : Cond.fieldLink RX8 10 "MainsWords" "now" "LMainsWords$Net;" ∈ wsX8_run := by decide +kernel
theorem fd_X8_run_10_X8 : FD RX8 10 wsX8_run 7 0 := ⟨RX8, "MainsWords", TX8, 6, rfl, in_X8_run_X8, by decide, wd_X8_run_1, Or.inl rfl⟩
theorem wd_X8_run_3 : Cond.fieldLink RX8 29 "MainsWords" "history" "LMainsWords$History;" ∈ wsX8_run := by decide +kernel
theorem fd_X8_run_29_X8 : FD RX8 29 wsX8_run 7 4 := ⟨RX8, "MainsWords", TX8, 6, rfl, in_X8_run_X8, by decide, wd_X8_run_3, Or.inl rfl⟩
theorem in_X8_run_X2 : ∀ w ∈ u_ws RX2 TX2 6, w ∈ wsX8_run := by decide +kernel
theorem wd_X8_run_6 : Cond.fieldLink RX8 107 "MainsWords$Machine" "isOn" "Z" ∈ wsX8_run := by decide +kernel
theorem fd_X8_run_107_X2 : FD RX8 107 wsX8_run 2 5 := ⟨RX2, "MainsWords$Machine", TX2, 6, rfl, in_X8_run_X2, by decide, wd_X8_run_6, Or.inl rfl⟩
theorem fw_X8_run_X2_5 : FW RX8 wsX8_run 2 5 .boolean false := ⟨RX2, TX2, 6, tyX2, rfl, in_X8_run_X2, tyX2_ok, nmX2, rfl, (fun h => by cases h), rfl⟩
set_option maxRecDepth 100000 in
set_option maxHeartbeats 4000000 in
theorem v_X8_run {D : DG} {z0 : Nat} {l : Launch} : ∀ (a0 : Option Nat) (a1 : Int32) (a2 : Int32) (σ : SG), V D z0 l RX8 cX8_run 5 wsX8_run (some .int) rmX8_run false tvI 0 [some (va_rf a0), some (.int a1), some (.int a2), none, none] [] σ 0 0 (m_X8_run a0 a1 a2 σ) := by
  intro a0 a1 a2 σ
  unfold m_X8_run
  refine V_aload_n (x := a0) dX8_run_0 rfl ?_
  refine V_getR fd_X8_run_10_X8 dX8_run_1 (fun x1 => ?_)
  refine V_iload_n (x := a1) dX8_run_4 rfl ?_
  refine V_callV0 (As := [.int a1]) (st0 := []) (stI := [.int a1, va_rf x1]) (fun _ h => by cases h; exact t_X3_machineAt _ a1 σ) (q := (RX3, TX3, 8)) rfl rfl rfl (Nat.le_of_ble_eq_true rfl) rfl (fun s args hts => cwV 1 hts gX8_run_X3_machineAt rfl rfl rfl (by decide +kernel) ⟨Nat.le_of_ble_eq_true rfl, Nat.le_of_ble_eq_true rfl⟩) rfl rfl dX8_run_5 (fun r2 σ3 _ => ?_)
  refine V_astore_n (x := r2) (ls' := [some (va_rf a0), some (.int a1), some (.int a2), some (va_rf r2), none]) dX8_run_8 (by decide) rfl ?_
  refine V_aload_n (x := r2) dX8_run_9 rfl ?_
  refine V_ifnonnull (tgt := 15) (x := r2) dX8_run_10 (by decide) (fun hc4 => ?_) (fun hc4 => ?_)
  · refine V_iconst (v := (-1 : Int32)) dX8_run_13 rfl ?_
    exact V_iret (fun _ => rfl) rfl (Nat.zero_le _) (Nat.zero_le _) dX8_run_14
  · refine V_aload_n (x := a0) dX8_run_15 rfl ?_
    refine V_getR fd_X8_run_29_X8 dX8_run_16 (fun x5 => ?_)
    refine V_aload_n (x := a0) dX8_run_19 rfl ?_
    refine V_getR fd_X8_run_10_X8 dX8_run_20 (fun x6 => ?_)
    refine V_callV0 (As := [va_rf x6]) (st0 := []) (stI := [va_rf x6, va_rf x5]) (fun _ h => by cases h; exact t_X0_keep _ x6 σ3) (q := (RX0, TX0, 2)) rfl rfl rfl (Nat.le_of_ble_eq_true rfl) rfl (fun s args hts => cwV 1 hts gX8_run_X0_keep rfl rfl rfl (by decide +kernel) ⟨Nat.le_of_ble_eq_true rfl, Nat.le_of_ble_eq_true rfl⟩) rfl rfl dX8_run_23 (fun _ σ7 _ => ?_)
    refine V_aload_n (x := r2) dX8_run_26 rfl ?_
    refine V_getI fd_X8_run_107_X2 dX8_run_27 (fun x8 => ?_)
    refine V_callS0 (As := [.int x8]) (st0 := []) (stI := [.int x8]) (t_X8_asNumber x8 σ7) rfl (Nat.le_of_ble_eq_true rfl) rfl (fun s args hts => va_cwS 1 hts gX8_run_X8_asNumber rfl rfl rfl (by decide +kernel) ⟨Nat.le_of_ble_eq_true rfl, Nat.le_of_ble_eq_true rfl⟩) rfl rfl dX8_run_30 (fun r9 σ10 _ => ?_)
    refine V_istore (x := r9) (ls' := [some (va_rf a0), some (.int a1), some (.int a2), some (va_rf r2), some (.int r9)]) dX8_run_33 (by decide) rfl ?_
    refine V_aload_n (x := r2) dX8_run_35 rfl ?_
    refine V_iload_n (x := a2) dX8_run_36 rfl ?_
    refine V_putZ fd_X8_run_107_X2 fw_X8_run_X2_5 (fun h => by cases h) dX8_run_37 (fun σ11 hσ11 => ?_)
    refine V_iload (x := r9) dX8_run_40 rfl ?_
    exact V_iret (fun _ => rfl) rfl (Nat.zero_le _) (Nat.zero_le _) dX8_run_42
theorem t_X8_run {D : DG} {z0 : Nat} {l : Launch} (a : Nat) (a1 : Int32) (a2 : Int32) (σ : SG) : MT D z0 l yX8_run wsX8_run rmX8_run tvI [.ref a, .int a1, .int a2] σ (m_X8_run (some a) a1 a2 σ) :=
  MT.of (own := RX8) (cc := cX8_run) (nL := 5) (ret := (some .int)) (ct := false) (by decide) rfl rfl (fun h => by cases h) (Nat.le_of_ble_eq_true rfl) (by intro v hv; simp only [List.mem_cons, List.not_mem_nil, or_false] at hv; first | (rcases hv with rfl | rfl | rfl <;> first | rfl | exact va_rf_cat _) | exact absurd hv (fun h => h)) (v_X8_run (some a) a1 a2 σ)
theorem wd_X8_set_0 : Cond.fieldLink RX8 114 "MainsWords" "LEAST_SETTING" "[I" ∈ wsX8_set := by decide +kernel
theorem wd_X8_set_1 : Cond.fieldLink RX8 118 "MainsWords" "MOST_SETTING" "[I" ∈ wsX8_set := by decide +kernel
theorem in_X8_set_X8 : ∀ w ∈ u_ws RX8 TX8 6, w ∈ wsX8_set := by decide +kernel
theorem wd_X8_set_3 : Cond.fieldLink RX8 29 "MainsWords" "history" "LMainsWords$History;" ∈ wsX8_set := by decide +kernel
theorem fd_X8_set_29_X8 : FD RX8 29 wsX8_set 7 4 := ⟨RX8, "MainsWords", TX8, 6, rfl, in_X8_set_X8, by decide, wd_X8_set_3, Or.inl rfl⟩
theorem wd_X8_set_5 : Cond.fieldLink RX8 10 "MainsWords" "now" "LMainsWords$Net;" ∈ wsX8_set := by decide +kernel
theorem fd_X8_set_10_X8 : FD RX8 10 wsX8_set 7 0 := ⟨RX8, "MainsWords", TX8, 6, rfl, in_X8_set_X8, by decide, wd_X8_set_5, Or.inl rfl⟩
theorem in_X8_set_X3 : ∀ w ∈ u_ws RX3 TX3 8, w ∈ wsX8_set := by decide +kernel
theorem wd_X8_set_8 : Cond.fieldLink RX8 121 "MainsWords$Net" "settings" "[I" ∈ wsX8_set := by decide +kernel
theorem fd_X8_set_121_X3 : FD RX8 121 wsX8_set 3 4 := ⟨RX3, "MainsWords$Net", TX3, 8, rfl, in_X8_set_X3, by decide, wd_X8_set_8, Or.inl rfl⟩
set_option maxRecDepth 100000 in
set_option maxHeartbeats 4000000 in
theorem v_X8_set {D : DG} {z0 : Nat} {l : Launch} : ∀ (a0 : Option Nat) (a1 : Int32) (a2 : Int32) (σ : SG), V D z0 l RX8 cX8_set 4 wsX8_set (some .int) rmX8_set false tvI 0 [some (va_rf a0), some (.int a1), some (.int a2), none] [] σ 0 0 (m_X8_set a0 a1 a2 σ) := by
  intro a0 a1 a2 σ
  unfold m_X8_set
  refine V_iload_n (x := a1) dX8_set_0 rfl ?_
  refine V_if_lt (tgt := 9) (x := a1) dX8_set_1 (by decide) (fun hc1 => ?_) (fun hc1 => ?_)
  · refine V_iconst (v := (-1 : Int32)) dX8_set_9 rfl ?_
    exact V_iret (fun _ => rfl) rfl (Nat.zero_le _) (Nat.zero_le _) dX8_set_10
  · refine V_iload_n (x := a1) dX8_set_4 rfl ?_
    refine V_iconst (v := (4 : Int32)) dX8_set_5 rfl ?_
    refine V_icmp_lt (tgt := 11) (x := a1) (y := (4 : Int32)) dX8_set_6 (by decide) (fun hc2 => ?_) (fun hc2 => ?_)
    · refine V_iload_n (x := a2) dX8_set_11 rfl ?_
      refine V_sld (x := a1) (Or.inl ⟨rfl, rfl⟩) wd_X8_set_0 dX8_set_12 dX8_set_15 dX8_set_16 rfl (fun x3 => ?_)
      refine V_icmp_lt (tgt := 29) (x := a2) (y := x3) dX8_set_17 (by decide) (fun hc4 => ?_) (fun hc4 => ?_)
      · refine V_bipush (v := (-2 : Int32)) dX8_set_29 rfl ?_
        exact V_iret (fun _ => rfl) rfl (Nat.zero_le _) (Nat.zero_le _) dX8_set_31
      · refine V_iload_n (x := a2) dX8_set_20 rfl ?_
        refine V_sld (x := a1) (Or.inr ⟨rfl, rfl⟩) wd_X8_set_1 dX8_set_21 dX8_set_24 dX8_set_25 rfl (fun x5 => ?_)
        refine V_icmp_le (tgt := 32) (x := a2) (y := x5) dX8_set_26 (by decide) (fun hc6 => ?_) (fun hc6 => ?_)
        · refine V_aload_n (x := a0) dX8_set_32 rfl ?_
          refine V_getR fd_X8_set_29_X8 dX8_set_33 (fun x7 => ?_)
          refine V_aload_n (x := a0) dX8_set_36 rfl ?_
          refine V_getR fd_X8_set_10_X8 dX8_set_37 (fun x8 => ?_)
          refine V_callV0 (As := [va_rf x8]) (st0 := []) (stI := [va_rf x8, va_rf x7]) (fun _ h => by cases h; exact t_X0_keep _ x8 σ) (q := (RX0, TX0, 2)) rfl rfl rfl (Nat.le_of_ble_eq_true rfl) rfl (fun s args hts => cwV 1 hts gX8_set_X0_keep rfl rfl rfl (by decide +kernel) ⟨Nat.le_of_ble_eq_true rfl, Nat.le_of_ble_eq_true rfl⟩) rfl rfl dX8_set_40 (fun _ σ9 _ => ?_)
          refine V_aload_n (x := a0) dX8_set_43 rfl ?_
          refine V_getR fd_X8_set_10_X8 dX8_set_44 (fun x10 => ?_)
          refine V_getR fd_X8_set_121_X3 dX8_set_47 (fun x11 => ?_)
          refine V_iload_n (x := a1) dX8_set_50 rfl ?_
          refine V_iaload dX8_set_51 (fun x12 => ?_)
          refine V_istore_n (x := x12) (ls' := [some (va_rf a0), some (.int a1), some (.int a2), some (.int x12)]) dX8_set_52 (by decide) rfl ?_
          refine V_aload_n (x := a0) dX8_set_53 rfl ?_
          refine V_getR fd_X8_set_10_X8 dX8_set_54 (fun x13 => ?_)
          refine V_getR fd_X8_set_121_X3 dX8_set_57 (fun x14 => ?_)
          refine V_iload_n (x := a1) dX8_set_60 rfl ?_
          refine V_iload_n (x := a2) dX8_set_61 rfl ?_
          refine V_iastore dX8_set_62 (fun σ15 hσ15 => ?_)
          refine V_iload_n (x := x12) dX8_set_63 rfl ?_
          exact V_iret (fun _ => rfl) rfl (Nat.zero_le _) (Nat.zero_le _) dX8_set_64
        · refine V_bipush (v := (-2 : Int32)) dX8_set_29 rfl ?_
          exact V_iret (fun _ => rfl) rfl (Nat.zero_le _) (Nat.zero_le _) dX8_set_31
    · refine V_iconst (v := (-1 : Int32)) dX8_set_9 rfl ?_
      exact V_iret (fun _ => rfl) rfl (Nat.zero_le _) (Nat.zero_le _) dX8_set_10
theorem t_X8_set {D : DG} {z0 : Nat} {l : Launch} (a : Nat) (a1 : Int32) (a2 : Int32) (σ : SG) : MT D z0 l yX8_set wsX8_set rmX8_set tvI [.ref a, .int a1, .int a2] σ (m_X8_set (some a) a1 a2 σ) :=
  MT.of (own := RX8) (cc := cX8_set) (nL := 4) (ret := (some .int)) (ct := false) (by decide) rfl rfl (fun h => by cases h) (Nat.le_of_ble_eq_true rfl) (by intro v hv; simp only [List.mem_cons, List.not_mem_nil, or_false] at hv; first | (rcases hv with rfl | rfl | rfl <;> first | rfl | exact va_rf_cat _) | exact absurd hv (fun h => h)) (v_X8_set (some a) a1 a2 σ)
theorem in_X8_pass_X8 : ∀ w ∈ u_ws RX8 TX8 6, w ∈ wsX8_pass := by decide +kernel
theorem wd_X8_pass_1 : Cond.fieldLink RX8 29 "MainsWords" "history" "LMainsWords$History;" ∈ wsX8_pass := by decide +kernel
theorem fd_X8_pass_29_X8 : FD RX8 29 wsX8_pass 7 4 := ⟨RX8, "MainsWords", TX8, 6, rfl, in_X8_pass_X8, by decide, wd_X8_pass_1, Or.inl rfl⟩
theorem wd_X8_pass_3 : Cond.fieldLink RX8 10 "MainsWords" "now" "LMainsWords$Net;" ∈ wsX8_pass := by decide +kernel
theorem fd_X8_pass_10_X8 : FD RX8 10 wsX8_pass 7 0 := ⟨RX8, "MainsWords", TX8, 6, rfl, in_X8_pass_X8, by decide, wd_X8_pass_3, Or.inl rfl⟩
set_option maxRecDepth 100000 in
set_option maxHeartbeats 4000000 in
theorem v_X8_pass {D : DG} {z0 : Nat} {l : Launch} : ∀ (a0 : Option Nat) (a1 : Int32) (σ : SG), V D z0 l RX8 cX8_pass 2 wsX8_pass (some .int) rmX8_pass false tvI 0 [some (va_rf a0), some (.int a1)] [] σ 0 0 (m_X8_pass a0 a1 σ) := by
  intro a0 a1 σ
  unfold m_X8_pass
  refine V_iload_n (x := a1) dX8_pass_0 rfl ?_
  refine V_iconst (v := (1 : Int32)) dX8_pass_1 rfl ?_
  refine V_icmp_lt (tgt := 11) (x := a1) (y := (1 : Int32)) dX8_pass_2 (by decide) (fun hc1 => ?_) (fun hc1 => ?_)
  · refine V_bipush (v := (-2 : Int32)) dX8_pass_11 rfl ?_
    exact V_iret (fun _ => rfl) rfl (Nat.zero_le _) (Nat.zero_le _) dX8_pass_13
  · refine V_iload_n (x := a1) dX8_pass_5 rfl ?_
    refine V_bipush (v := (99 : Int32)) dX8_pass_6 rfl ?_
    refine V_icmp_le (tgt := 14) (x := a1) (y := (99 : Int32)) dX8_pass_8 (by decide) (fun hc2 => ?_) (fun hc2 => ?_)
    · refine V_aload_n (x := a0) dX8_pass_14 rfl ?_
      refine V_getR fd_X8_pass_29_X8 dX8_pass_15 (fun x3 => ?_)
      refine V_aload_n (x := a0) dX8_pass_18 rfl ?_
      refine V_getR fd_X8_pass_10_X8 dX8_pass_19 (fun x4 => ?_)
      refine V_callV0 (As := [va_rf x4]) (st0 := []) (stI := [va_rf x4, va_rf x3]) (fun _ h => by cases h; exact t_X0_keep _ x4 σ) (q := (RX0, TX0, 2)) rfl rfl rfl (Nat.le_of_ble_eq_true rfl) rfl (fun s args hts => cwV 1 hts gX8_pass_X0_keep rfl rfl rfl (by decide +kernel) ⟨Nat.le_of_ble_eq_true rfl, Nat.le_of_ble_eq_true rfl⟩) rfl rfl dX8_pass_22 (fun _ σ5 _ => ?_)
      refine V_aload_n (x := a0) dX8_pass_25 rfl ?_
      refine V_getR fd_X8_pass_10_X8 dX8_pass_26 (fun x6 => ?_)
      refine V_iload_n (x := a1) dX8_pass_29 rfl ?_
      refine V_callV0 (As := [.int a1]) (st0 := []) (stI := [.int a1, va_rf x6]) (fun _ h => by cases h; exact t_X3_letPass _ a1 σ5) (q := (RX3, TX3, 8)) rfl rfl rfl (Nat.le_of_ble_eq_true rfl) rfl (fun s args hts => cwV 1 hts gX8_pass_X3_letPass rfl rfl rfl (by decide +kernel) ⟨Nat.le_of_ble_eq_true rfl, Nat.le_of_ble_eq_true rfl⟩) rfl rfl dX8_pass_30 (fun r7 σ8 _ => ?_)
      exact V_iret (fun _ => rfl) rfl (Nat.zero_le _) (Nat.zero_le _) dX8_pass_33
    · refine V_bipush (v := (-2 : Int32)) dX8_pass_11 rfl ?_
      exact V_iret (fun _ => rfl) rfl (Nat.zero_le _) (Nat.zero_le _) dX8_pass_13
theorem t_X8_pass {D : DG} {z0 : Nat} {l : Launch} (a : Nat) (a1 : Int32) (σ : SG) : MT D z0 l yX8_pass wsX8_pass rmX8_pass tvI [.ref a, .int a1] σ (m_X8_pass (some a) a1 σ) :=
  MT.of (own := RX8) (cc := cX8_pass) (nL := 2) (ret := (some .int)) (ct := false) (by decide) rfl rfl (fun h => by cases h) (Nat.le_of_ble_eq_true rfl) (by intro v hv; simp only [List.mem_cons, List.not_mem_nil, or_false] at hv; first | (rcases hv with rfl | rfl <;> first | rfl | exact va_rf_cat _) | exact absurd hv (fun h => h)) (v_X8_pass (some a) a1 σ)
theorem in_X8_append_X8 : ∀ w ∈ u_ws RX8 TX8 6, w ∈ wsX8_append := by decide +kernel
theorem wd_X8_append_1 : Cond.fieldLink RX8 36 "MainsWords" "script" "LMainsWords$Script;" ∈ wsX8_append := by decide +kernel
theorem fd_X8_append_36_X8 : FD RX8 36 wsX8_append 7 5 := ⟨RX8, "MainsWords", TX8, 6, rfl, in_X8_append_X8, by decide, wd_X8_append_1, Or.inl rfl⟩
theorem in_X8_append_X5 : ∀ w ∈ u_ws RX5 TX5 2, w ∈ wsX8_append := by decide +kernel
theorem wd_X8_append_4 : Cond.fieldLink RX8 136 "MainsWords$Script" "length" "I" ∈ wsX8_append := by decide +kernel
theorem fd_X8_append_136_X5 : FD RX8 136 wsX8_append 5 1 := ⟨RX5, "MainsWords$Script", TX5, 2, rfl, in_X8_append_X5, by decide, wd_X8_append_4, Or.inl rfl⟩
set_option maxRecDepth 100000 in
set_option maxHeartbeats 4000000 in
theorem v_X8_append {D : DG} {z0 : Nat} {l : Launch} : ∀ (a0 : Option Nat) (a1 : Int32) (σ : SG), V D z0 l RX8 cX8_append 2 wsX8_append (some .int) rmX8_append false tvI 0 [some (va_rf a0), some (.int a1)] [] σ 0 0 (m_X8_append a0 a1 σ) := by
  intro a0 a1 σ
  unfold m_X8_append
  refine V_iload_n (x := a1) dX8_append_0 rfl ?_
  refine V_bipush (v := (32 : Int32)) dX8_append_1 rfl ?_
  refine V_icmp_lt (tgt := 12) (x := a1) (y := (32 : Int32)) dX8_append_3 (by decide) (fun hc1 => ?_) (fun hc1 => ?_)
  · refine V_bipush (v := (-2 : Int32)) dX8_append_12 rfl ?_
    exact V_iret (fun _ => rfl) rfl (Nat.zero_le _) (Nat.zero_le _) dX8_append_14
  · refine V_iload_n (x := a1) dX8_append_6 rfl ?_
    refine V_bipush (v := (126 : Int32)) dX8_append_7 rfl ?_
    refine V_icmp_le (tgt := 15) (x := a1) (y := (126 : Int32)) dX8_append_9 (by decide) (fun hc2 => ?_) (fun hc2 => ?_)
    · refine V_aload_n (x := a0) dX8_append_15 rfl ?_
      refine V_getR fd_X8_append_36_X8 dX8_append_16 (fun x3 => ?_)
      refine V_callV0 (As := []) (st0 := []) (stI := [va_rf x3]) (fun _ h => by cases h; exact t_X5_isFull _ σ) (q := (RX5, TX5, 2)) rfl rfl rfl (Nat.le_of_ble_eq_true rfl) rfl (fun s args hts => cwV 0 hts gX8_append_X5_isFull rfl rfl rfl (by decide +kernel) ⟨Nat.le_of_ble_eq_true rfl, Nat.le_of_ble_eq_true rfl⟩) rfl rfl dX8_append_19 (fun r4 σ5 _ => ?_)
      refine V_if_eq (tgt := 28) (x := r4) dX8_append_22 (by decide) (fun hc6 => ?_) (fun hc6 => ?_)
      · refine V_aload_n (x := a0) dX8_append_28 rfl ?_
        refine V_getR fd_X8_append_36_X8 dX8_append_29 (fun x7 => ?_)
        refine V_iload_n (x := a1) dX8_append_32 rfl ?_
        refine V_callV0 (As := [.int a1]) (st0 := []) (stI := [.int a1, va_rf x7]) (fun _ h => by cases h; exact t_X5_add _ a1 σ5) (q := (RX5, TX5, 2)) rfl rfl rfl (Nat.le_of_ble_eq_true rfl) rfl (fun s args hts => cwV 1 hts gX8_append_X5_add rfl rfl rfl (by decide +kernel) ⟨Nat.le_of_ble_eq_true rfl, Nat.le_of_ble_eq_true rfl⟩) rfl rfl dX8_append_33 (fun _ σ8 _ => ?_)
        refine V_aload_n (x := a0) dX8_append_36 rfl ?_
        refine V_getR fd_X8_append_36_X8 dX8_append_37 (fun x9 => ?_)
        refine V_getI fd_X8_append_136_X5 dX8_append_40 (fun x10 => ?_)
        exact V_iret (fun _ => rfl) rfl (Nat.zero_le _) (Nat.zero_le _) dX8_append_43
      · refine V_bipush (v := (-3 : Int32)) dX8_append_25 rfl ?_
        exact V_iret (fun _ => rfl) rfl (Nat.zero_le _) (Nat.zero_le _) dX8_append_27
    · refine V_bipush (v := (-2 : Int32)) dX8_append_12 rfl ?_
      exact V_iret (fun _ => rfl) rfl (Nat.zero_le _) (Nat.zero_le _) dX8_append_14
theorem t_X8_append {D : DG} {z0 : Nat} {l : Launch} (a : Nat) (a1 : Int32) (σ : SG) : MT D z0 l yX8_append wsX8_append rmX8_append tvI [.ref a, .int a1] σ (m_X8_append (some a) a1 σ) :=
  MT.of (own := RX8) (cc := cX8_append) (nL := 2) (ret := (some .int)) (ct := false) (by decide) rfl rfl (fun h => by cases h) (Nat.le_of_ble_eq_true rfl) (by intro v hv; simp only [List.mem_cons, List.not_mem_nil, or_false] at hv; first | (rcases hv with rfl | rfl <;> first | rfl | exact va_rf_cat _) | exact absurd hv (fun h => h)) (v_X8_append (some a) a1 σ)
theorem in_X8_clearText_X8 : ∀ w ∈ u_ws RX8 TX8 6, w ∈ wsX8_clearText := by decide +kernel
theorem wd_X8_clearText_1 : Cond.fieldLink RX8 36 "MainsWords" "script" "LMainsWords$Script;" ∈ wsX8_clearText := by decide +kernel
theorem fd_X8_clearText_36_X8 : FD RX8 36 wsX8_clearText 7 5 := ⟨RX8, "MainsWords", TX8, 6, rfl, in_X8_clearText_X8, by decide, wd_X8_clearText_1, Or.inl rfl⟩
theorem in_X8_clearText_X5 : ∀ w ∈ u_ws RX5 TX5 2, w ∈ wsX8_clearText := by decide +kernel
theorem wd_X8_clearText_4 : Cond.fieldLink RX8 136 "MainsWords$Script" "length" "I" ∈ wsX8_clearText := by decide +kernel
theorem fd_X8_clearText_136_X5 : FD RX8 136 wsX8_clearText 5 1 := ⟨RX5, "MainsWords$Script", TX5, 2, rfl, in_X8_clearText_X5, by decide, wd_X8_clearText_4, Or.inl rfl⟩
theorem fw_X8_clearText_X5_1 : FW RX8 wsX8_clearText 5 1 .int false := ⟨RX5, TX5, 2, tyX5, rfl, in_X8_clearText_X5, tyX5_ok, nmX5, rfl, (fun h => by cases h), rfl⟩
set_option maxRecDepth 100000 in
set_option maxHeartbeats 4000000 in
theorem v_X8_clearText {D : DG} {z0 : Nat} {l : Launch} : ∀ (a0 : Option Nat) (σ : SG), V D z0 l RX8 cX8_clearText 2 wsX8_clearText (some .int) rmX8_clearText false tvI 0 [some (va_rf a0), none] [] σ 0 0 (m_X8_clearText a0 σ) := by
  intro a0 σ
  unfold m_X8_clearText
  refine V_aload_n (x := a0) dX8_clearText_0 rfl ?_
  refine V_getR fd_X8_clearText_36_X8 dX8_clearText_1 (fun x1 => ?_)
  refine V_getI fd_X8_clearText_136_X5 dX8_clearText_4 (fun x2 => ?_)
  refine V_istore_n (x := x2) (ls' := [some (va_rf a0), some (.int x2)]) dX8_clearText_7 (by decide) rfl ?_
  refine V_aload_n (x := a0) dX8_clearText_8 rfl ?_
  refine V_getR fd_X8_clearText_36_X8 dX8_clearText_9 (fun x3 => ?_)
  refine V_iconst (v := (0 : Int32)) dX8_clearText_12 rfl ?_
  refine V_putI fd_X8_clearText_136_X5 fw_X8_clearText_X5_1 (fun h => by cases h) dX8_clearText_13 (fun σ4 hσ4 => ?_)
  refine V_iload_n (x := x2) dX8_clearText_16 rfl ?_
  exact V_iret (fun _ => rfl) rfl (Nat.zero_le _) (Nat.zero_le _) dX8_clearText_17
theorem t_X8_clearText {D : DG} {z0 : Nat} {l : Launch} (a : Nat)  (σ : SG) : MT D z0 l yX8_clearText wsX8_clearText rmX8_clearText tvI [.ref a] σ (m_X8_clearText (some a) σ) :=
  MT.of (own := RX8) (cc := cX8_clearText) (nL := 2) (ret := (some .int)) (ct := false) (by decide) rfl rfl (fun h => by cases h) (Nat.le_of_ble_eq_true rfl) (by intro v hv; simp only [List.mem_cons, List.not_mem_nil, or_false] at hv; first | (rcases hv with rfl <;> first | rfl | exact va_rf_cat _) | exact absurd hv (fun h => h)) (v_X8_clearText (some a) σ)
theorem in_X8_fault_X8 : ∀ w ∈ u_ws RX8 TX8 6, w ∈ wsX8_fault := by decide +kernel
theorem wd_X8_fault_1 : Cond.fieldLink RX8 36 "MainsWords" "script" "LMainsWords$Script;" ∈ wsX8_fault := by decide +kernel
theorem fd_X8_fault_36_X8 : FD RX8 36 wsX8_fault 7 5 := ⟨RX8, "MainsWords", TX8, 6, rfl, in_X8_fault_X8, by decide, wd_X8_fault_1, Or.inl rfl⟩
set_option maxRecDepth 100000 in
set_option maxHeartbeats 4000000 in
theorem v_X8_fault {D : DG} {z0 : Nat} {l : Launch} : ∀ (a0 : Option Nat) (σ : SG), V D z0 l RX8 cX8_fault 1 wsX8_fault (some .int) rmX8_fault false tvI 0 [some (va_rf a0)] [] σ 0 0 (m_X8_fault a0 σ) := by
  intro a0 σ
  unfold m_X8_fault
  refine V_aload_n (x := a0) dX8_fault_0 rfl ?_
  refine V_getR fd_X8_fault_36_X8 dX8_fault_1 (fun x1 => ?_)
  refine V_callV0 (As := []) (st0 := []) (stI := [va_rf x1]) (fun _ h => by cases h; exact t_X5_firstFault _ σ) (q := (RX5, TX5, 2)) rfl rfl rfl (Nat.le_of_ble_eq_true rfl) rfl (fun s args hts => cwV 0 hts gX8_fault_X5_firstFault rfl rfl rfl (by decide +kernel) ⟨Nat.le_of_ble_eq_true rfl, Nat.le_of_ble_eq_true rfl⟩) rfl rfl dX8_fault_4 (fun r2 σ3 _ => ?_)
  exact V_iret (fun _ => rfl) rfl (Nat.zero_le _) (Nat.zero_le _) dX8_fault_7
theorem t_X8_fault {D : DG} {z0 : Nat} {l : Launch} (a : Nat)  (σ : SG) : MT D z0 l yX8_fault wsX8_fault rmX8_fault tvI [.ref a] σ (m_X8_fault (some a) σ) :=
  MT.of (own := RX8) (cc := cX8_fault) (nL := 1) (ret := (some .int)) (ct := false) (by decide) rfl rfl (fun h => by cases h) (Nat.le_of_ble_eq_true rfl) (by intro v hv; simp only [List.mem_cons, List.not_mem_nil, or_false] at hv; first | (rcases hv with rfl <;> first | rfl | exact va_rf_cat _) | exact absurd hv (fun h => h)) (v_X8_fault (some a) σ)
theorem in_X8_perform_X8 : ∀ w ∈ u_ws RX8 TX8 6, w ∈ wsX8_perform := by decide +kernel
theorem wd_X8_perform_1 : Cond.fieldLink RX8 36 "MainsWords" "script" "LMainsWords$Script;" ∈ wsX8_perform := by decide +kernel
theorem fd_X8_perform_36_X8 : FD RX8 36 wsX8_perform 7 5 := ⟨RX8, "MainsWords", TX8, 6, rfl, in_X8_perform_X8, by decide, wd_X8_perform_1, Or.inl rfl⟩
theorem in_X8_perform_X5 : ∀ w ∈ u_ws RX5 TX5 2, w ∈ wsX8_perform := by decide +kernel
theorem wd_X8_perform_4 : Cond.fieldLink RX8 136 "MainsWords$Script" "length" "I" ∈ wsX8_perform := by decide +kernel
theorem fd_X8_perform_136_X5 : FD RX8 136 wsX8_perform 5 1 := ⟨RX5, "MainsWords$Script", TX5, 2, rfl, in_X8_perform_X5, by decide, wd_X8_perform_4, Or.inl rfl⟩
theorem wd_X8_perform_6 : Cond.fieldLink RX8 10 "MainsWords" "now" "LMainsWords$Net;" ∈ wsX8_perform := by decide +kernel
theorem fd_X8_perform_10_X8 : FD RX8 10 wsX8_perform 7 0 := ⟨RX8, "MainsWords", TX8, 6, rfl, in_X8_perform_X8, by decide, wd_X8_perform_6, Or.inl rfl⟩
theorem wd_X8_perform_8 : Cond.fieldLink RX8 29 "MainsWords" "history" "LMainsWords$History;" ∈ wsX8_perform := by decide +kernel
theorem fd_X8_perform_29_X8 : FD RX8 29 wsX8_perform 7 4 := ⟨RX8, "MainsWords", TX8, 6, rfl, in_X8_perform_X8, by decide, wd_X8_perform_8, Or.inl rfl⟩
set_option maxRecDepth 100000 in
set_option maxHeartbeats 4000000 in
theorem v_X8_perform_b170 {D : DG} {z0 : Nat} {l : Launch} {rec37 : Option Nat → Int32 → Int32 → Int32 → SG → Option (Int32 × SG)} (hrec37 : ∀ (v0 : Option Nat) (v2 : Int32) (v3 : Int32) (v4 : Int32) (σ : SG), V D z0 l RX8 cX8_perform 7 wsX8_perform (some .int) rmX8_perform false tvI 37 [some (va_rf v0), none, some (.int v2), some (.int v3), some (.int v4), none, none] [] σ 0 0 (rec37 v0 v2 v3 v4 σ)) : ∀ (v0 : Option Nat) (v2 : Int32) (v3 : Int32) (v4 : Int32) (σ : SG), V D z0 l RX8 cX8_perform 7 wsX8_perform (some .int) rmX8_perform false tvI 170 [some (va_rf v0), none, some (.int v2), some (.int v3), some (.int v4), none, none] [] σ 0 0 (m_X8_perform_b170 rec37 v0 v2 v3 v4 σ) := by
  intro v0 v2 v3 v4 σ
  unfold m_X8_perform_b170
  refine V_iinc (x := v4) (v := (v4 + 1)) (ls' := [some (va_rf v0), none, some (.int v2), some (.int v3), some (.int (v4 + 1)), none, none]) dX8_perform_170 rfl rfl (by decide) rfl ?_
  refine V_goto (tgt := 37) dX8_perform_173 (by decide) ?_
  exact hrec37 v0 v2 v3 ((v4 + 1)) σ
set_option maxRecDepth 100000 in
set_option maxHeartbeats 4000000 in
theorem v_X8_perform_B37 {D : DG} {z0 : Nat} {l : Launch} {rec37 : Option Nat → Int32 → Int32 → Int32 → SG → Option (Int32 × SG)} (hrec37 : ∀ (v0 : Option Nat) (v2 : Int32) (v3 : Int32) (v4 : Int32) (σ : SG), V D z0 l RX8 cX8_perform 7 wsX8_perform (some .int) rmX8_perform false tvI 37 [some (va_rf v0), none, some (.int v2), some (.int v3), some (.int v4), none, none] [] σ 0 0 (rec37 v0 v2 v3 v4 σ)) : ∀ (v0 : Option Nat) (v2 : Int32) (v3 : Int32) (v4 : Int32) (σ : SG), V D z0 l RX8 cX8_perform 7 wsX8_perform (some .int) rmX8_perform false tvI 37 [some (va_rf v0), none, some (.int v2), some (.int v3), some (.int v4), none, none] [] σ 0 0 (m_X8_perform_B37 rec37 v0 v2 v3 v4 σ) := by
  intro v0 v2 v3 v4 σ
  unfold m_X8_perform_B37
  refine V_iload (x := v4) dX8_perform_37 rfl ?_
  refine V_aload_n (x := v0) dX8_perform_39 rfl ?_
  refine V_getR fd_X8_perform_36_X8 dX8_perform_40 (fun x1 => ?_)
  refine V_getI fd_X8_perform_136_X5 dX8_perform_43 (fun x2 => ?_)
  refine V_icmp_ge (tgt := 176) (x := v4) (y := x2) dX8_perform_46 (by decide) (fun hc3 => ?_) (fun hc3 => ?_)
  · refine V_iload_n (x := v2) dX8_perform_176 rfl ?_
    exact V_iret (fun _ => rfl) rfl (Nat.zero_le _) (Nat.zero_le _) dX8_perform_177
  · refine V_aload_n (x := v0) dX8_perform_49 rfl ?_
    refine V_getR fd_X8_perform_36_X8 dX8_perform_50 (fun x4 => ?_)
    refine V_iload (x := v4) dX8_perform_53 rfl ?_
    refine V_callV0 (As := [.int v4]) (st0 := []) (stI := [.int v4, va_rf x4]) (fun _ h => by cases h; exact t_X5_signAt _ v4 σ) (q := (RX5, TX5, 2)) rfl rfl rfl (Nat.le_of_ble_eq_true rfl) rfl (fun s args hts => cwV 1 hts gX8_perform_X5_signAt rfl rfl rfl (by decide +kernel) ⟨Nat.le_of_ble_eq_true rfl, Nat.le_of_ble_eq_true rfl⟩) rfl rfl dX8_perform_55 (fun r5 σ6 _ => ?_)
    refine V_istore (x := r5) (ls' := [some (va_rf v0), none, some (.int v2), some (.int v3), some (.int v4), some (.int r5), none]) dX8_perform_58 (by decide) rfl ?_
    refine V_iload (x := r5) dX8_perform_60 rfl ?_
    refine V_bipush (v := (58 : Int32)) dX8_perform_62 rfl ?_
    refine V_icmp_ne (tgt := 85) (x := r5) (y := (58 : Int32)) dX8_perform_64 (by decide) (fun hc7 => ?_) (fun hc7 => ?_)
    · refine V_aload_n (x := v0) dX8_perform_67 rfl ?_
      refine V_getR fd_X8_perform_36_X8 dX8_perform_68 (fun x8 => ?_)
      refine V_iload (x := v4) dX8_perform_71 rfl ?_
      refine V_iconst (v := (1 : Int32)) dX8_perform_73 rfl ?_
      refine V_isub (x := v4) (y := (1 : Int32)) dX8_perform_74 ?_
      refine V_callV0 (As := [.int (v4 - (1 : Int32))]) (st0 := []) (stI := [.int (v4 - (1 : Int32)), va_rf x8]) (fun _ h => by cases h; exact t_X5_signAt _ (v4 - (1 : Int32)) σ6) (q := (RX5, TX5, 2)) rfl rfl rfl (Nat.le_of_ble_eq_true rfl) rfl (fun s args hts => cwV 1 hts gX8_perform_X5_signAt rfl rfl rfl (by decide +kernel) ⟨Nat.le_of_ble_eq_true rfl, Nat.le_of_ble_eq_true rfl⟩) rfl rfl dX8_perform_75 (fun r9 σ10 _ => ?_)
      refine V_bipush (v := (48 : Int32)) dX8_perform_78 rfl ?_
      refine V_isub (x := r9) (y := (48 : Int32)) dX8_perform_80 ?_
      refine V_istore_n (x := (r9 - (48 : Int32))) (ls' := [some (va_rf v0), none, some (.int v2), some (.int (r9 - (48 : Int32))), some (.int v4), some (.int r5), none]) dX8_perform_81 (by decide) rfl ?_
      refine V_goto (tgt := 170) dX8_perform_82 (by decide) ?_
      exact V_sub (LE.s (LE.s (LE.s (LE.s (LE.s (LE.n (LE.s LE.e))))))) (v_X8_perform_b170 hrec37 v0 v2 ((r9 - (48 : Int32))) v4 σ10)
    · refine V_iload (x := r5) dX8_perform_85 rfl ?_
      refine V_bipush (v := (116 : Int32)) dX8_perform_87 rfl ?_
      refine V_icmp_ne (tgt := 115) (x := r5) (y := (116 : Int32)) dX8_perform_89 (by decide) (fun hc11 => ?_) (fun hc11 => ?_)
      · refine V_aload_n (x := v0) dX8_perform_92 rfl ?_
        refine V_getR fd_X8_perform_10_X8 dX8_perform_93 (fun x12 => ?_)
        refine V_aload_n (x := v0) dX8_perform_96 rfl ?_
        refine V_getR fd_X8_perform_36_X8 dX8_perform_97 (fun x13 => ?_)
        refine V_iload (x := v4) dX8_perform_100 rfl ?_
        refine V_callV0 (As := [.int v4]) (st0 := [va_rf x12]) (stI := [.int v4, va_rf x13, va_rf x12]) (fun _ h => by cases h; exact t_X5_beatsBehind _ v4 σ6) (q := (RX5, TX5, 2)) rfl rfl rfl (by simp only [List.map_cons, List.map_nil, List.sum_cons, List.sum_nil, va_rf_cat, catI, catF]; decide) rfl (fun s args hts => cwV 1 hts gX8_perform_X5_beatsBehind rfl rfl rfl (by decide +kernel) ⟨Nat.le_of_ble_eq_true rfl, Nat.le_of_ble_eq_true rfl⟩) rfl rfl dX8_perform_102 (fun r14 σ15 _ => ?_)
        refine V_callV0 (As := [.int r14]) (st0 := []) (stI := [.int r14, va_rf x12]) (fun _ h => by cases h; exact t_X3_letPass _ r14 σ15) (q := (RX3, TX3, 8)) rfl rfl rfl (Nat.le_of_ble_eq_true rfl) rfl (fun s args hts => cwV 1 hts gX8_perform_X3_letPass rfl rfl rfl (by decide +kernel) ⟨Nat.le_of_ble_eq_true rfl, Nat.le_of_ble_eq_true rfl⟩) rfl rfl dX8_perform_105 (fun r16 σ17 _ => ?_)
        refine V_pop dX8_perform_108 rfl ?_
        refine V_iinc (x := v2) (v := (v2 + 1)) (ls' := [some (va_rf v0), none, some (.int (v2 + 1)), some (.int v3), some (.int v4), some (.int r5), none]) dX8_perform_109 rfl rfl (by decide) rfl ?_
        refine V_goto (tgt := 170) dX8_perform_112 (by decide) ?_
        exact V_sub (LE.s (LE.s (LE.s (LE.s (LE.s (LE.n (LE.s LE.e))))))) (v_X8_perform_b170 hrec37 v0 ((v2 + 1)) v3 v4 σ17)
      · refine V_iload (x := r5) dX8_perform_115 rfl ?_
        refine V_callS0 (As := [.int r5]) (st0 := []) (stI := [.int r5]) (t_X5_isLetter r5 σ6) rfl (Nat.le_of_ble_eq_true rfl) rfl (fun s args hts => va_cwS 1 hts gX8_perform_X5_isLetter rfl rfl rfl (by decide +kernel) ⟨Nat.le_of_ble_eq_true rfl, Nat.le_of_ble_eq_true rfl⟩) rfl rfl dX8_perform_117 (fun r18 σ19 _ => ?_)
        refine V_if_eq (tgt := 170) (x := r18) dX8_perform_120 (by decide) (fun hc20 => ?_) (fun hc20 => ?_)
        · exact V_sub (LE.s (LE.s (LE.s (LE.s (LE.s (LE.n (LE.s LE.e))))))) (v_X8_perform_b170 hrec37 v0 v2 v3 v4 σ19)
        · refine V_iload (x := r5) dX8_perform_123 rfl ?_
          refine V_aload_n (x := v0) dX8_perform_125 rfl ?_
          refine V_getR fd_X8_perform_36_X8 dX8_perform_126 (fun x21 => ?_)
          refine V_iload (x := v4) dX8_perform_129 rfl ?_
          refine V_iconst (v := (1 : Int32)) dX8_perform_131 rfl ?_
          refine V_iadd (x := v4) (y := (1 : Int32)) dX8_perform_132 ?_
          refine V_callV0 (As := [.int (v4 + (1 : Int32))]) (st0 := [.int r5]) (stI := [.int (v4 + (1 : Int32)), va_rf x21, .int r5]) (fun _ h => by cases h; exact t_X5_signAt _ (v4 + (1 : Int32)) σ19) (q := (RX5, TX5, 2)) rfl rfl rfl (Nat.le_of_ble_eq_true rfl) rfl (fun s args hts => cwV 1 hts gX8_perform_X5_signAt rfl rfl rfl (by decide +kernel) ⟨Nat.le_of_ble_eq_true rfl, Nat.le_of_ble_eq_true rfl⟩) rfl rfl dX8_perform_133 (fun r22 σ23 _ => ?_)
          refine V_callS0 (As := [.int r5, .int r22]) (st0 := []) (stI := [.int r22, .int r5]) (t_X5_wordOf r5 r22 σ23) rfl (Nat.le_of_ble_eq_true rfl) rfl (fun s args hts => va_cwS 2 hts gX8_perform_X5_wordOf rfl rfl rfl (by decide +kernel) ⟨Nat.le_of_ble_eq_true rfl, Nat.le_of_ble_eq_true rfl⟩) rfl rfl dX8_perform_136 (fun r24 σ25 _ => ?_)
          refine V_istore (x := r24) (ls' := [some (va_rf v0), none, some (.int v2), some (.int v3), some (.int v4), some (.int r5), some (.int r24)]) dX8_perform_139 (by decide) rfl ?_
          refine V_aload_n (x := v0) dX8_perform_141 rfl ?_
          refine V_getR fd_X8_perform_10_X8 dX8_perform_142 (fun x26 => ?_)
          refine V_iload_n (x := v3) dX8_perform_145 rfl ?_
          refine V_iload (x := r24) dX8_perform_146 rfl ?_
          refine V_callV0 (As := [.int v3, .int r24]) (st0 := []) (stI := [.int r24, .int v3, va_rf x26]) (fun _ h => by cases h; exact t_X3_refusalOfWord _ v3 r24 σ25) (q := (RX3, TX3, 8)) rfl rfl rfl (Nat.le_of_ble_eq_true rfl) rfl (fun s args hts => cwV 2 hts gX8_perform_X3_refusalOfWord rfl rfl rfl (by decide +kernel) ⟨Nat.le_of_ble_eq_true rfl, Nat.le_of_ble_eq_true rfl⟩) rfl rfl dX8_perform_148 (fun r27 σ28 _ => ?_)
          refine V_if_ge (tgt := 156) (x := r27) dX8_perform_151 (by decide) (fun hc29 => ?_) (fun hc29 => ?_)
          · refine V_aload_n (x := v0) dX8_perform_156 rfl ?_
            refine V_getR fd_X8_perform_10_X8 dX8_perform_157 (fun x30 => ?_)
            refine V_iload_n (x := v3) dX8_perform_160 rfl ?_
            refine V_iload (x := r24) dX8_perform_161 rfl ?_
            refine V_callV0 (As := [.int v3, .int r24]) (st0 := []) (stI := [.int r24, .int v3, va_rf x30]) (fun _ h => by cases h; exact t_X3_giveWord _ v3 r24 σ28) (q := (RX3, TX3, 8)) rfl rfl rfl (Nat.le_of_ble_eq_true rfl) rfl (fun s args hts => cwV 2 hts gX8_perform_X3_giveWord rfl rfl rfl (by decide +kernel) ⟨Nat.le_of_ble_eq_true rfl, Nat.le_of_ble_eq_true rfl⟩) rfl rfl dX8_perform_163 (fun r31 σ32 _ => ?_)
            refine V_pop dX8_perform_166 rfl ?_
            refine V_iinc (x := v2) (v := (v2 + 1)) (ls' := [some (va_rf v0), none, some (.int (v2 + 1)), some (.int v3), some (.int v4), some (.int r5), some (.int r24)]) dX8_perform_167 rfl rfl (by decide) rfl ?_
            exact V_sub (LE.s (LE.s (LE.s (LE.s (LE.s (LE.n (LE.n LE.e))))))) (v_X8_perform_b170 hrec37 v0 ((v2 + 1)) v3 v4 σ32)
          · refine V_iload_n (x := v2) dX8_perform_154 rfl ?_
            exact V_iret (fun _ => rfl) rfl (Nat.zero_le _) (Nat.zero_le _) dX8_perform_155
theorem v_X8_perform_L37 {D : DG} {z0 : Nat} {l : Launch} : ∀ (n : Nat) (v0 : Option Nat) (v2 : Int32) (v3 : Int32) (v4 : Int32) (σ : SG), V D z0 l RX8 cX8_perform 7 wsX8_perform (some .int) rmX8_perform false tvI 37 [some (va_rf v0), none, some (.int v2), some (.int v3), some (.int v4), none, none] [] σ 0 0 (m_X8_perform_L37 n v0 v2 v3 v4 σ) := by
  intro n
  induction n with
  | zero => intros; exact V_none
  | succ n ih => exact v_X8_perform_B37  ih
set_option maxRecDepth 100000 in
set_option maxHeartbeats 4000000 in
theorem v_X8_perform {D : DG} {z0 : Nat} {l : Launch} : ∀ (a0 : Option Nat) (σ : SG), V D z0 l RX8 cX8_perform 7 wsX8_perform (some .int) rmX8_perform false tvI 0 [some (va_rf a0), none, none, none, none, none, none] [] σ 0 0 (m_X8_perform a0 σ) := by
  intro a0 σ
  unfold m_X8_perform
  refine V_aload_n (x := a0) dX8_perform_0 rfl ?_
  refine V_getR fd_X8_perform_36_X8 dX8_perform_1 (fun x33 => ?_)
  refine V_callV0 (As := []) (st0 := []) (stI := [va_rf x33]) (fun _ h => by cases h; exact t_X5_firstFault _ σ) (q := (RX5, TX5, 2)) rfl rfl rfl (Nat.le_of_ble_eq_true rfl) rfl (fun s args hts => cwV 0 hts gX8_perform_X5_firstFault rfl rfl rfl (by decide +kernel) ⟨Nat.le_of_ble_eq_true rfl, Nat.le_of_ble_eq_true rfl⟩) rfl rfl dX8_perform_4 (fun r34 σ35 _ => ?_)
  refine V_istore_n (x := r34) (ls' := [some (va_rf a0), some (.int r34), none, none, none, none, none]) dX8_perform_7 (by decide) rfl ?_
  refine V_iload_n (x := r34) dX8_perform_8 rfl ?_
  refine V_bipush (v := (-5 : Int32)) dX8_perform_9 rfl ?_
  refine V_icmp_eq (tgt := 19) (x := r34) (y := (-5 : Int32)) dX8_perform_11 (by decide) (fun hc36 => ?_) (fun hc36 => ?_)
  · refine V_aload_n (x := a0) dX8_perform_19 rfl ?_
    refine V_getR fd_X8_perform_29_X8 dX8_perform_20 (fun x37 => ?_)
    refine V_aload_n (x := a0) dX8_perform_23 rfl ?_
    refine V_getR fd_X8_perform_10_X8 dX8_perform_24 (fun x38 => ?_)
    refine V_callV0 (As := [va_rf x38]) (st0 := []) (stI := [va_rf x38, va_rf x37]) (fun _ h => by cases h; exact t_X0_keep _ x38 σ35) (q := (RX0, TX0, 2)) rfl rfl rfl (Nat.le_of_ble_eq_true rfl) rfl (fun s args hts => cwV 1 hts gX8_perform_X0_keep rfl rfl rfl (by decide +kernel) ⟨Nat.le_of_ble_eq_true rfl, Nat.le_of_ble_eq_true rfl⟩) rfl rfl dX8_perform_27 (fun _ σ39 _ => ?_)
    refine V_iconst (v := (0 : Int32)) dX8_perform_30 rfl ?_
    refine V_istore_n (x := (0 : Int32)) (ls' := [some (va_rf a0), some (.int r34), some (.int (0 : Int32)), none, none, none, none]) dX8_perform_31 (by decide) rfl ?_
    refine V_iconst (v := (-1 : Int32)) dX8_perform_32 rfl ?_
    refine V_istore_n (x := (-1 : Int32)) (ls' := [some (va_rf a0), some (.int r34), some (.int (0 : Int32)), some (.int (-1 : Int32)), none, none, none]) dX8_perform_33 (by decide) rfl ?_
    refine V_iconst (v := (0 : Int32)) dX8_perform_34 rfl ?_
    refine V_istore (x := (0 : Int32)) (ls' := [some (va_rf a0), some (.int r34), some (.int (0 : Int32)), some (.int (-1 : Int32)), some (.int (0 : Int32)), none, none]) dX8_perform_35 (by decide) rfl ?_
    exact V_sub (LE.s (LE.n (LE.s (LE.s (LE.s (LE.s (LE.s LE.e))))))) (v_X8_perform_L37  1000 a0 ((0 : Int32)) ((-1 : Int32)) ((0 : Int32)) σ39)
  · refine V_bipush (v := (-100 : Int32)) dX8_perform_14 rfl ?_
    refine V_iload_n (x := r34) dX8_perform_16 rfl ?_
    refine V_isub (x := (-100 : Int32)) (y := r34) dX8_perform_17 ?_
    exact V_iret (fun _ => rfl) rfl (Nat.zero_le _) (Nat.zero_le _) dX8_perform_18
theorem t_X8_perform {D : DG} {z0 : Nat} {l : Launch} (a : Nat)  (σ : SG) : MT D z0 l yX8_perform wsX8_perform rmX8_perform tvI [.ref a] σ (m_X8_perform (some a) σ) :=
  MT.of (own := RX8) (cc := cX8_perform) (nL := 7) (ret := (some .int)) (ct := false) (by decide) rfl rfl (fun h => by cases h) (Nat.le_of_ble_eq_true rfl) (by intro v hv; simp only [List.mem_cons, List.not_mem_nil, or_false] at hv; first | (rcases hv with rfl <;> first | rfl | exact va_rf_cat _) | exact absurd hv (fun h => h)) (v_X8_perform (some a) σ)
theorem in_X8_undo_X8 : ∀ w ∈ u_ws RX8 TX8 6, w ∈ wsX8_undo := by decide +kernel
theorem wd_X8_undo_1 : Cond.fieldLink RX8 29 "MainsWords" "history" "LMainsWords$History;" ∈ wsX8_undo := by decide +kernel
theorem fd_X8_undo_29_X8 : FD RX8 29 wsX8_undo 7 4 := ⟨RX8, "MainsWords", TX8, 6, rfl, in_X8_undo_X8, by decide, wd_X8_undo_1, Or.inl rfl⟩
theorem wd_X8_undo_3 : Cond.fieldLink RX8 10 "MainsWords" "now" "LMainsWords$Net;" ∈ wsX8_undo := by decide +kernel
theorem fd_X8_undo_10_X8 : FD RX8 10 wsX8_undo 7 0 := ⟨RX8, "MainsWords", TX8, 6, rfl, in_X8_undo_X8, by decide, wd_X8_undo_3, Or.inl rfl⟩
theorem in_X8_undo_X0 : ∀ w ∈ u_ws RX0 TX0 2, w ∈ wsX8_undo := by decide +kernel
theorem wd_X8_undo_6 : Cond.fieldLink RX8 161 "MainsWords$History" "kept" "I" ∈ wsX8_undo := by decide +kernel
theorem fd_X8_undo_161_X0 : FD RX8 161 wsX8_undo 0 1 := ⟨RX0, "MainsWords$History", TX0, 2, rfl, in_X8_undo_X0, by decide, wd_X8_undo_6, Or.inl rfl⟩
set_option maxRecDepth 100000 in
set_option maxHeartbeats 4000000 in
theorem v_X8_undo {D : DG} {z0 : Nat} {l : Launch} : ∀ (a0 : Option Nat) (σ : SG), V D z0 l RX8 cX8_undo 1 wsX8_undo (some .int) rmX8_undo false tvI 0 [some (va_rf a0)] [] σ 0 0 (m_X8_undo a0 σ) := by
  intro a0 σ
  unfold m_X8_undo
  refine V_aload_n (x := a0) dX8_undo_0 rfl ?_
  refine V_getR fd_X8_undo_29_X8 dX8_undo_1 (fun x1 => ?_)
  refine V_callV0 (As := []) (st0 := []) (stI := [va_rf x1]) (fun _ h => by cases h; exact t_X0_isEmpty _ σ) (q := (RX0, TX0, 2)) rfl rfl rfl (Nat.le_of_ble_eq_true rfl) rfl (fun s args hts => cwV 0 hts gX8_undo_X0_isEmpty rfl rfl rfl (by decide +kernel) ⟨Nat.le_of_ble_eq_true rfl, Nat.le_of_ble_eq_true rfl⟩) rfl rfl dX8_undo_4 (fun r2 σ3 _ => ?_)
  refine V_if_eq (tgt := 13) (x := r2) dX8_undo_7 (by decide) (fun hc4 => ?_) (fun hc4 => ?_)
  · refine V_aload_n (x := a0) dX8_undo_13 rfl ?_
    refine V_getR fd_X8_undo_29_X8 dX8_undo_14 (fun x5 => ?_)
    refine V_aload_n (x := a0) dX8_undo_17 rfl ?_
    refine V_getR fd_X8_undo_10_X8 dX8_undo_18 (fun x6 => ?_)
    refine V_callV0 (As := [va_rf x6]) (st0 := []) (stI := [va_rf x6, va_rf x5]) (fun _ h => by cases h; exact t_X0_takeBack _ x6 σ3) (q := (RX0, TX0, 2)) rfl rfl rfl (Nat.le_of_ble_eq_true rfl) rfl (fun s args hts => cwV 1 hts gX8_undo_X0_takeBack rfl rfl rfl (by decide +kernel) ⟨Nat.le_of_ble_eq_true rfl, Nat.le_of_ble_eq_true rfl⟩) rfl rfl dX8_undo_21 (fun _ σ7 _ => ?_)
    refine V_aload_n (x := a0) dX8_undo_24 rfl ?_
    refine V_getR fd_X8_undo_29_X8 dX8_undo_25 (fun x8 => ?_)
    refine V_getI fd_X8_undo_161_X0 dX8_undo_28 (fun x9 => ?_)
    exact V_iret (fun _ => rfl) rfl (Nat.zero_le _) (Nat.zero_le _) dX8_undo_31
  · refine V_bipush (v := (-5 : Int32)) dX8_undo_10 rfl ?_
    exact V_iret (fun _ => rfl) rfl (Nat.zero_le _) (Nat.zero_le _) dX8_undo_12
theorem t_X8_undo {D : DG} {z0 : Nat} {l : Launch} (a : Nat)  (σ : SG) : MT D z0 l yX8_undo wsX8_undo rmX8_undo tvI [.ref a] σ (m_X8_undo (some a) σ) :=
  MT.of (own := RX8) (cc := cX8_undo) (nL := 1) (ret := (some .int)) (ct := false) (by decide) rfl rfl (fun h => by cases h) (Nat.le_of_ble_eq_true rfl) (by intro v hv; simp only [List.mem_cons, List.not_mem_nil, or_false] at hv; first | (rcases hv with rfl <;> first | rfl | exact va_rf_cat _) | exact absurd hv (fun h => h)) (v_X8_undo (some a) σ)
theorem in_X8_save_X8 : ∀ w ∈ u_ws RX8 TX8 6, w ∈ wsX8_save := by decide +kernel
theorem wd_X8_save_1 : Cond.fieldLink RX8 19 "MainsWords" "snapshot" "LMainsWords$Net;" ∈ wsX8_save := by decide +kernel
theorem fd_X8_save_19_X8 : FD RX8 19 wsX8_save 7 2 := ⟨RX8, "MainsWords", TX8, 6, rfl, in_X8_save_X8, by decide, wd_X8_save_1, Or.inl rfl⟩
theorem wd_X8_save_3 : Cond.fieldLink RX8 10 "MainsWords" "now" "LMainsWords$Net;" ∈ wsX8_save := by decide +kernel
theorem fd_X8_save_10_X8 : FD RX8 10 wsX8_save 7 0 := ⟨RX8, "MainsWords", TX8, 6, rfl, in_X8_save_X8, by decide, wd_X8_save_3, Or.inl rfl⟩
theorem wd_X8_save_5 : Cond.fieldLink RX8 22 "MainsWords" "hasSnapshot" "Z" ∈ wsX8_save := by decide +kernel
theorem fd_X8_save_22_X8 : FD RX8 22 wsX8_save 7 3 := ⟨RX8, "MainsWords", TX8, 6, rfl, in_X8_save_X8, by decide, wd_X8_save_5, Or.inl rfl⟩
theorem fw_X8_save_X8_3 : FW RX8 wsX8_save 7 3 .boolean false := ⟨RX8, TX8, 6, tyX8, rfl, in_X8_save_X8, tyX8_ok, nmX8, rfl, (fun h => by cases h), rfl⟩
theorem in_X8_save_X3 : ∀ w ∈ u_ws RX3 TX3 8, w ∈ wsX8_save := by decide +kernel
theorem wd_X8_save_9 : Cond.fieldLink RX8 167 "MainsWords$Net" "time" "I" ∈ wsX8_save := by decide +kernel
theorem fd_X8_save_167_X3 : FD RX8 167 wsX8_save 3 6 := ⟨RX3, "MainsWords$Net", TX3, 8, rfl, in_X8_save_X3, by decide, wd_X8_save_9, Or.inl rfl⟩
set_option maxRecDepth 100000 in
set_option maxHeartbeats 4000000 in
theorem v_X8_save {D : DG} {z0 : Nat} {l : Launch} : ∀ (a0 : Option Nat) (σ : SG), V D z0 l RX8 cX8_save 1 wsX8_save (some .int) rmX8_save false tvI 0 [some (va_rf a0)] [] σ 0 0 (m_X8_save a0 σ) := by
  intro a0 σ
  unfold m_X8_save
  refine V_aload_n (x := a0) dX8_save_0 rfl ?_
  refine V_getR fd_X8_save_19_X8 dX8_save_1 (fun x1 => ?_)
  refine V_aload_n (x := a0) dX8_save_4 rfl ?_
  refine V_getR fd_X8_save_10_X8 dX8_save_5 (fun x2 => ?_)
  refine V_callV0 (As := [va_rf x2]) (st0 := []) (stI := [va_rf x2, va_rf x1]) (fun _ h => by cases h; exact t_X3_copyFrom _ x2 σ) (q := (RX3, TX3, 8)) rfl rfl rfl (Nat.le_of_ble_eq_true rfl) rfl (fun s args hts => cwV 1 hts gX8_save_X3_copyFrom rfl rfl rfl (by decide +kernel) ⟨Nat.le_of_ble_eq_true rfl, Nat.le_of_ble_eq_true rfl⟩) rfl rfl dX8_save_8 (fun _ σ3 _ => ?_)
  refine V_aload_n (x := a0) dX8_save_11 rfl ?_
  refine V_iconst (v := (1 : Int32)) dX8_save_12 rfl ?_
  refine V_putZ fd_X8_save_22_X8 fw_X8_save_X8_3 (fun h => by cases h) dX8_save_13 (fun σ4 hσ4 => ?_)
  refine V_aload_n (x := a0) dX8_save_16 rfl ?_
  refine V_getR fd_X8_save_10_X8 dX8_save_17 (fun x5 => ?_)
  refine V_getI fd_X8_save_167_X3 dX8_save_20 (fun x6 => ?_)
  exact V_iret (fun _ => rfl) rfl (Nat.zero_le _) (Nat.zero_le _) dX8_save_23
theorem t_X8_save {D : DG} {z0 : Nat} {l : Launch} (a : Nat)  (σ : SG) : MT D z0 l yX8_save wsX8_save rmX8_save tvI [.ref a] σ (m_X8_save (some a) σ) :=
  MT.of (own := RX8) (cc := cX8_save) (nL := 1) (ret := (some .int)) (ct := false) (by decide) rfl rfl (fun h => by cases h) (Nat.le_of_ble_eq_true rfl) (by intro v hv; simp only [List.mem_cons, List.not_mem_nil, or_false] at hv; first | (rcases hv with rfl <;> first | rfl | exact va_rf_cat _) | exact absurd hv (fun h => h)) (v_X8_save (some a) σ)
theorem in_X8_restore_X8 : ∀ w ∈ u_ws RX8 TX8 6, w ∈ wsX8_restore := by decide +kernel
theorem wd_X8_restore_1 : Cond.fieldLink RX8 22 "MainsWords" "hasSnapshot" "Z" ∈ wsX8_restore := by decide +kernel
theorem fd_X8_restore_22_X8 : FD RX8 22 wsX8_restore 7 3 := ⟨RX8, "MainsWords", TX8, 6, rfl, in_X8_restore_X8, by decide, wd_X8_restore_1, Or.inl rfl⟩
theorem wd_X8_restore_3 : Cond.fieldLink RX8 29 "MainsWords" "history" "LMainsWords$History;" ∈ wsX8_restore := by decide +kernel
theorem fd_X8_restore_29_X8 : FD RX8 29 wsX8_restore 7 4 := ⟨RX8, "MainsWords", TX8, 6, rfl, in_X8_restore_X8, by decide, wd_X8_restore_3, Or.inl rfl⟩
theorem wd_X8_restore_5 : Cond.fieldLink RX8 10 "MainsWords" "now" "LMainsWords$Net;" ∈ wsX8_restore := by decide +kernel
theorem fd_X8_restore_10_X8 : FD RX8 10 wsX8_restore 7 0 := ⟨RX8, "MainsWords", TX8, 6, rfl, in_X8_restore_X8, by decide, wd_X8_restore_5, Or.inl rfl⟩
theorem wd_X8_restore_7 : Cond.fieldLink RX8 19 "MainsWords" "snapshot" "LMainsWords$Net;" ∈ wsX8_restore := by decide +kernel
theorem fd_X8_restore_19_X8 : FD RX8 19 wsX8_restore 7 2 := ⟨RX8, "MainsWords", TX8, 6, rfl, in_X8_restore_X8, by decide, wd_X8_restore_7, Or.inl rfl⟩
theorem in_X8_restore_X3 : ∀ w ∈ u_ws RX3 TX3 8, w ∈ wsX8_restore := by decide +kernel
theorem wd_X8_restore_10 : Cond.fieldLink RX8 167 "MainsWords$Net" "time" "I" ∈ wsX8_restore := by decide +kernel
theorem fd_X8_restore_167_X3 : FD RX8 167 wsX8_restore 3 6 := ⟨RX3, "MainsWords$Net", TX3, 8, rfl, in_X8_restore_X3, by decide, wd_X8_restore_10, Or.inl rfl⟩
set_option maxRecDepth 100000 in
set_option maxHeartbeats 4000000 in
theorem v_X8_restore {D : DG} {z0 : Nat} {l : Launch} : ∀ (a0 : Option Nat) (σ : SG), V D z0 l RX8 cX8_restore 1 wsX8_restore (some .int) rmX8_restore false tvI 0 [some (va_rf a0)] [] σ 0 0 (m_X8_restore a0 σ) := by
  intro a0 σ
  unfold m_X8_restore
  refine V_aload_n (x := a0) dX8_restore_0 rfl ?_
  refine V_getI fd_X8_restore_22_X8 dX8_restore_1 (fun x1 => ?_)
  refine V_if_ne (tgt := 10) (x := x1) dX8_restore_4 (by decide) (fun hc2 => ?_) (fun hc2 => ?_)
  · refine V_bipush (v := (-4 : Int32)) dX8_restore_7 rfl ?_
    exact V_iret (fun _ => rfl) rfl (Nat.zero_le _) (Nat.zero_le _) dX8_restore_9
  · refine V_aload_n (x := a0) dX8_restore_10 rfl ?_
    refine V_getR fd_X8_restore_29_X8 dX8_restore_11 (fun x3 => ?_)
    refine V_aload_n (x := a0) dX8_restore_14 rfl ?_
    refine V_getR fd_X8_restore_10_X8 dX8_restore_15 (fun x4 => ?_)
    refine V_callV0 (As := [va_rf x4]) (st0 := []) (stI := [va_rf x4, va_rf x3]) (fun _ h => by cases h; exact t_X0_keep _ x4 σ) (q := (RX0, TX0, 2)) rfl rfl rfl (Nat.le_of_ble_eq_true rfl) rfl (fun s args hts => cwV 1 hts gX8_restore_X0_keep rfl rfl rfl (by decide +kernel) ⟨Nat.le_of_ble_eq_true rfl, Nat.le_of_ble_eq_true rfl⟩) rfl rfl dX8_restore_18 (fun _ σ5 _ => ?_)
    refine V_aload_n (x := a0) dX8_restore_21 rfl ?_
    refine V_getR fd_X8_restore_10_X8 dX8_restore_22 (fun x6 => ?_)
    refine V_aload_n (x := a0) dX8_restore_25 rfl ?_
    refine V_getR fd_X8_restore_19_X8 dX8_restore_26 (fun x7 => ?_)
    refine V_callV0 (As := [va_rf x7]) (st0 := []) (stI := [va_rf x7, va_rf x6]) (fun _ h => by cases h; exact t_X3_copyFrom _ x7 σ5) (q := (RX3, TX3, 8)) rfl rfl rfl (Nat.le_of_ble_eq_true rfl) rfl (fun s args hts => cwV 1 hts gX8_restore_X3_copyFrom rfl rfl rfl (by decide +kernel) ⟨Nat.le_of_ble_eq_true rfl, Nat.le_of_ble_eq_true rfl⟩) rfl rfl dX8_restore_29 (fun _ σ8 _ => ?_)
    refine V_aload_n (x := a0) dX8_restore_32 rfl ?_
    refine V_getR fd_X8_restore_10_X8 dX8_restore_33 (fun x9 => ?_)
    refine V_getI fd_X8_restore_167_X3 dX8_restore_36 (fun x10 => ?_)
    exact V_iret (fun _ => rfl) rfl (Nat.zero_le _) (Nat.zero_le _) dX8_restore_39
theorem t_X8_restore {D : DG} {z0 : Nat} {l : Launch} (a : Nat)  (σ : SG) : MT D z0 l yX8_restore wsX8_restore rmX8_restore tvI [.ref a] σ (m_X8_restore (some a) σ) :=
  MT.of (own := RX8) (cc := cX8_restore) (nL := 1) (ret := (some .int)) (ct := false) (by decide) rfl rfl (fun h => by cases h) (Nat.le_of_ble_eq_true rfl) (by intro v hv; simp only [List.mem_cons, List.not_mem_nil, or_false] at hv; first | (rcases hv with rfl <;> first | rfl | exact va_rf_cat _) | exact absurd hv (fun h => h)) (v_X8_restore (some a) σ)
theorem in_X8_senderOf_X8 : ∀ w ∈ u_ws RX8 TX8 6, w ∈ wsX8_senderOf := by decide +kernel
theorem wd_X8_senderOf_1 : Cond.fieldLink RX8 10 "MainsWords" "now" "LMainsWords$Net;" ∈ wsX8_senderOf := by decide +kernel
theorem fd_X8_senderOf_10_X8 : FD RX8 10 wsX8_senderOf 7 0 := ⟨RX8, "MainsWords", TX8, 6, rfl, in_X8_senderOf_X8, by decide, wd_X8_senderOf_1, Or.inl rfl⟩
theorem wd_X8_senderOf_3 : Cond.sameField "MainsWords$Sender" "MainsWords$Thing" "wire" "I" ∈ wsX8_senderOf := by decide +kernel
theorem in_X8_senderOf_X6 : ∀ w ∈ u_ws RX6 TX6 10, w ∈ wsX8_senderOf := by decide +kernel
theorem wd_X8_senderOf_5 : Cond.fieldLink RX8 174 "MainsWords$Sender" "wire" "I" ∈ wsX8_senderOf := by decide +kernel
theorem fd_X8_senderOf_174_X6 : FD RX8 174 wsX8_senderOf 6 2 := ⟨RX6, "MainsWords$Sender", TX6, 10, rfl, in_X8_senderOf_X6, by decide, wd_X8_senderOf_5, Or.inr wd_X8_senderOf_3⟩
theorem wd_X8_senderOf_7 : Cond.fieldLink RX8 175 "MainsWords$Sender" "strength" "I" ∈ wsX8_senderOf := by decide +kernel
theorem fd_X8_senderOf_175_X6 : FD RX8 175 wsX8_senderOf 6 5 := ⟨RX6, "MainsWords$Sender", TX6, 10, rfl, in_X8_senderOf_X6, by decide, wd_X8_senderOf_7, Or.inl rfl⟩
theorem wd_X8_senderOf_9 : Cond.fieldLink RX8 178 "MainsWords$Sender" "queueLength" "I" ∈ wsX8_senderOf := by decide +kernel
theorem fd_X8_senderOf_178_X6 : FD RX8 178 wsX8_senderOf 6 4 := ⟨RX6, "MainsWords$Sender", TX6, 10, rfl, in_X8_senderOf_X6, by decide, wd_X8_senderOf_9, Or.inl rfl⟩
theorem wd_X8_senderOf_11 : Cond.fieldLink RX8 181 "MainsWords$Sender" "speaks" "Z" ∈ wsX8_senderOf := by decide +kernel
theorem fd_X8_senderOf_181_X6 : FD RX8 181 wsX8_senderOf 6 6 := ⟨RX6, "MainsWords$Sender", TX6, 10, rfl, in_X8_senderOf_X6, by decide, wd_X8_senderOf_11, Or.inl rfl⟩
theorem wd_X8_senderOf_13 : Cond.fieldLink RX8 184 "MainsWords$Sender" "place" "I" ∈ wsX8_senderOf := by decide +kernel
theorem fd_X8_senderOf_184_X6 : FD RX8 184 wsX8_senderOf 6 8 := ⟨RX6, "MainsWords$Sender", TX6, 10, rfl, in_X8_senderOf_X6, by decide, wd_X8_senderOf_13, Or.inl rfl⟩
theorem wd_X8_senderOf_15 : Cond.fieldLink RX8 187 "MainsWords$Sender" "copy" "I" ∈ wsX8_senderOf := by decide +kernel
theorem fd_X8_senderOf_187_X6 : FD RX8 187 wsX8_senderOf 6 7 := ⟨RX6, "MainsWords$Sender", TX6, 10, rfl, in_X8_senderOf_X6, by decide, wd_X8_senderOf_15, Or.inl rfl⟩
theorem wd_X8_senderOf_17 : Cond.fieldLink RX8 190 "MainsWords$Sender" "pause" "I" ∈ wsX8_senderOf := by decide +kernel
theorem fd_X8_senderOf_190_X6 : FD RX8 190 wsX8_senderOf 6 9 := ⟨RX6, "MainsWords$Sender", TX6, 10, rfl, in_X8_senderOf_X6, by decide, wd_X8_senderOf_17, Or.inl rfl⟩
set_option maxRecDepth 100000 in
set_option maxHeartbeats 4000000 in
theorem v_X8_senderOf {D : DG} {z0 : Nat} {l : Launch} : ∀ (a0 : Option Nat) (a1 : Int32) (a2 : Int32) (σ : SG), V D z0 l RX8 cX8_senderOf 4 wsX8_senderOf (some .int) rmX8_senderOf false tvI 0 [some (va_rf a0), some (.int a1), some (.int a2), none] [] σ 0 0 (m_X8_senderOf a0 a1 a2 σ) := by
  intro a0 a1 a2 σ
  unfold m_X8_senderOf
  refine V_aload_n (x := a0) dX8_senderOf_0 rfl ?_
  refine V_getR fd_X8_senderOf_10_X8 dX8_senderOf_1 (fun x1 => ?_)
  refine V_iload_n (x := a1) dX8_senderOf_4 rfl ?_
  refine V_callV0 (As := [.int a1]) (st0 := []) (stI := [.int a1, va_rf x1]) (fun _ h => by cases h; exact t_X3_senderAt _ a1 σ) (q := (RX3, TX3, 8)) rfl rfl rfl (Nat.le_of_ble_eq_true rfl) rfl (fun s args hts => cwV 1 hts gX8_senderOf_X3_senderAt rfl rfl rfl (by decide +kernel) ⟨Nat.le_of_ble_eq_true rfl, Nat.le_of_ble_eq_true rfl⟩) rfl rfl dX8_senderOf_5 (fun r2 σ3 _ => ?_)
  refine V_astore_n (x := r2) (ls' := [some (va_rf a0), some (.int a1), some (.int a2), some (va_rf r2)]) dX8_senderOf_8 (by decide) rfl ?_
  refine V_aload_n (x := r2) dX8_senderOf_9 rfl ?_
  refine V_ifnonnull (tgt := 15) (x := r2) dX8_senderOf_10 (by decide) (fun hc4 => ?_) (fun hc4 => ?_)
  · refine V_iconst (v := (-1 : Int32)) dX8_senderOf_13 rfl ?_
    exact V_iret (fun _ => rfl) rfl (Nat.zero_le _) (Nat.zero_le _) dX8_senderOf_14
  · refine V_iload_n (x := a2) dX8_senderOf_15 rfl ?_
    refine V_table (x := a2) (tb := [(0, 60), (1, 65), (2, 70), (3, 75), (4, 92), (5, 109), (6, 114)]) (tgt := 131) dX8_senderOf_16 (by decide) rfl (by decide) (List.forall_mem_cons.mpr ⟨?_, List.forall_mem_cons.mpr ⟨?_, List.forall_mem_cons.mpr ⟨?_, List.forall_mem_cons.mpr ⟨?_, List.forall_mem_cons.mpr ⟨?_, List.forall_mem_cons.mpr ⟨?_, List.forall_mem_cons.mpr ⟨?_, fun _ h => absurd h List.not_mem_nil⟩⟩⟩⟩⟩⟩⟩) ?_
    · dsimp only
      refine V_aload_n (x := r2) dX8_senderOf_60 rfl ?_
      refine V_getI fd_X8_senderOf_174_X6 dX8_senderOf_61 (fun x5 => ?_)
      exact V_iret (fun _ => rfl) rfl (Nat.zero_le _) (Nat.zero_le _) dX8_senderOf_64
    · dsimp only
      refine V_aload_n (x := r2) dX8_senderOf_65 rfl ?_
      refine V_getI fd_X8_senderOf_175_X6 dX8_senderOf_66 (fun x6 => ?_)
      exact V_iret (fun _ => rfl) rfl (Nat.zero_le _) (Nat.zero_le _) dX8_senderOf_69
    · dsimp only
      refine V_aload_n (x := r2) dX8_senderOf_70 rfl ?_
      refine V_getI fd_X8_senderOf_178_X6 dX8_senderOf_71 (fun x7 => ?_)
      exact V_iret (fun _ => rfl) rfl (Nat.zero_le _) (Nat.zero_le _) dX8_senderOf_74
    · dsimp only
      refine V_aload_n (x := r2) dX8_senderOf_75 rfl ?_
      refine V_getI fd_X8_senderOf_181_X6 dX8_senderOf_76 (fun x8 => ?_)
      refine V_if_eq (tgt := 89) (x := x8) dX8_senderOf_79 (by decide) (fun hc9 => ?_) (fun hc9 => ?_)
      · refine V_bipush (v := (-5 : Int32)) dX8_senderOf_89 rfl ?_
        exact V_iret (fun _ => rfl) rfl (Nat.zero_le _) (Nat.zero_le _) dX8_senderOf_91
      · refine V_aload_n (x := r2) dX8_senderOf_82 rfl ?_
        refine V_getI fd_X8_senderOf_184_X6 dX8_senderOf_83 (fun x10 => ?_)
        refine V_goto (tgt := 91) dX8_senderOf_86 (by decide) ?_
        exact V_iret (fun _ => rfl) rfl (Nat.zero_le _) (Nat.zero_le _) dX8_senderOf_91
    · dsimp only
      refine V_aload_n (x := r2) dX8_senderOf_92 rfl ?_
      refine V_getI fd_X8_senderOf_181_X6 dX8_senderOf_93 (fun x11 => ?_)
      refine V_if_eq (tgt := 106) (x := x11) dX8_senderOf_96 (by decide) (fun hc12 => ?_) (fun hc12 => ?_)
      · refine V_bipush (v := (-5 : Int32)) dX8_senderOf_106 rfl ?_
        exact V_iret (fun _ => rfl) rfl (Nat.zero_le _) (Nat.zero_le _) dX8_senderOf_108
      · refine V_aload_n (x := r2) dX8_senderOf_99 rfl ?_
        refine V_getI fd_X8_senderOf_187_X6 dX8_senderOf_100 (fun x13 => ?_)
        refine V_goto (tgt := 108) dX8_senderOf_103 (by decide) ?_
        exact V_iret (fun _ => rfl) rfl (Nat.zero_le _) (Nat.zero_le _) dX8_senderOf_108
    · dsimp only
      refine V_aload_n (x := r2) dX8_senderOf_109 rfl ?_
      refine V_getI fd_X8_senderOf_190_X6 dX8_senderOf_110 (fun x14 => ?_)
      exact V_iret (fun _ => rfl) rfl (Nat.zero_le _) (Nat.zero_le _) dX8_senderOf_113
    · dsimp only
      refine V_aload_n (x := r2) dX8_senderOf_114 rfl ?_
      refine V_getI fd_X8_senderOf_181_X6 dX8_senderOf_115 (fun x15 => ?_)
      refine V_if_eq (tgt := 128) (x := x15) dX8_senderOf_118 (by decide) (fun hc16 => ?_) (fun hc16 => ?_)
      · refine V_bipush (v := (-5 : Int32)) dX8_senderOf_128 rfl ?_
        exact V_iret (fun _ => rfl) rfl (Nat.zero_le _) (Nat.zero_le _) dX8_senderOf_130
      · refine V_aload_n (x := r2) dX8_senderOf_121 rfl ?_
        refine V_callV0 (As := []) (st0 := []) (stI := [va_rf r2]) (fun _ h => by cases h; exact t_X6_bitToSend _ σ3) (q := (RX6, TX6, 10)) rfl rfl rfl (Nat.le_of_ble_eq_true rfl) rfl (fun s args hts => cwV 0 hts gX8_senderOf_X6_bitToSend rfl rfl rfl (by decide +kernel) ⟨Nat.le_of_ble_eq_true rfl, Nat.le_of_ble_eq_true rfl⟩) rfl rfl dX8_senderOf_122 (fun r17 σ18 _ => ?_)
        refine V_goto (tgt := 130) dX8_senderOf_125 (by decide) ?_
        exact V_iret (fun _ => rfl) rfl (Nat.zero_le _) (Nat.zero_le _) dX8_senderOf_130
    · refine V_bipush (v := (-2 : Int32)) dX8_senderOf_131 rfl ?_
      exact V_iret (fun _ => rfl) rfl (Nat.zero_le _) (Nat.zero_le _) dX8_senderOf_133
theorem t_X8_senderOf {D : DG} {z0 : Nat} {l : Launch} (a : Nat) (a1 : Int32) (a2 : Int32) (σ : SG) : MT D z0 l yX8_senderOf wsX8_senderOf rmX8_senderOf tvI [.ref a, .int a1, .int a2] σ (m_X8_senderOf (some a) a1 a2 σ) :=
  MT.of (own := RX8) (cc := cX8_senderOf) (nL := 4) (ret := (some .int)) (ct := false) (by decide) rfl rfl (fun h => by cases h) (Nat.le_of_ble_eq_true rfl) (by intro v hv; simp only [List.mem_cons, List.not_mem_nil, or_false] at hv; first | (rcases hv with rfl | rfl | rfl <;> first | rfl | exact va_rf_cat _) | exact absurd hv (fun h => h)) (v_X8_senderOf (some a) a1 a2 σ)
theorem in_X8_queued_X8 : ∀ w ∈ u_ws RX8 TX8 6, w ∈ wsX8_queued := by decide +kernel
theorem wd_X8_queued_1 : Cond.fieldLink RX8 10 "MainsWords" "now" "LMainsWords$Net;" ∈ wsX8_queued := by decide +kernel
theorem fd_X8_queued_10_X8 : FD RX8 10 wsX8_queued 7 0 := ⟨RX8, "MainsWords", TX8, 6, rfl, in_X8_queued_X8, by decide, wd_X8_queued_1, Or.inl rfl⟩
set_option maxRecDepth 100000 in
set_option maxHeartbeats 4000000 in
theorem v_X8_queued {D : DG} {z0 : Nat} {l : Launch} : ∀ (a0 : Option Nat) (a1 : Int32) (a2 : Int32) (σ : SG), V D z0 l RX8 cX8_queued 4 wsX8_queued (some .int) rmX8_queued false tvI 0 [some (va_rf a0), some (.int a1), some (.int a2), none] [] σ 0 0 (m_X8_queued a0 a1 a2 σ) := by
  intro a0 a1 a2 σ
  unfold m_X8_queued
  refine V_aload_n (x := a0) dX8_queued_0 rfl ?_
  refine V_getR fd_X8_queued_10_X8 dX8_queued_1 (fun x1 => ?_)
  refine V_iload_n (x := a1) dX8_queued_4 rfl ?_
  refine V_callV0 (As := [.int a1]) (st0 := []) (stI := [.int a1, va_rf x1]) (fun _ h => by cases h; exact t_X3_senderAt _ a1 σ) (q := (RX3, TX3, 8)) rfl rfl rfl (Nat.le_of_ble_eq_true rfl) rfl (fun s args hts => cwV 1 hts gX8_queued_X3_senderAt rfl rfl rfl (by decide +kernel) ⟨Nat.le_of_ble_eq_true rfl, Nat.le_of_ble_eq_true rfl⟩) rfl rfl dX8_queued_5 (fun r2 σ3 _ => ?_)
  refine V_astore_n (x := r2) (ls' := [some (va_rf a0), some (.int a1), some (.int a2), some (va_rf r2)]) dX8_queued_8 (by decide) rfl ?_
  refine V_aload_n (x := r2) dX8_queued_9 rfl ?_
  refine V_ifnonnull (tgt := 15) (x := r2) dX8_queued_10 (by decide) (fun hc4 => ?_) (fun hc4 => ?_)
  · refine V_iconst (v := (-1 : Int32)) dX8_queued_13 rfl ?_
    exact V_iret (fun _ => rfl) rfl (Nat.zero_le _) (Nat.zero_le _) dX8_queued_14
  · refine V_iload_n (x := a2) dX8_queued_15 rfl ?_
    refine V_if_ge (tgt := 24) (x := a2) dX8_queued_16 (by decide) (fun hc5 => ?_) (fun hc5 => ?_)
    · refine V_aload_n (x := r2) dX8_queued_24 rfl ?_
      refine V_iload_n (x := a2) dX8_queued_25 rfl ?_
      refine V_callV0 (As := [.int a2]) (st0 := []) (stI := [.int a2, va_rf r2]) (fun _ h => by cases h; exact t_X6_wordAt _ a2 σ3) (q := (RX6, TX6, 10)) rfl rfl rfl (Nat.le_of_ble_eq_true rfl) rfl (fun s args hts => cwV 1 hts gX8_queued_X6_wordAt rfl rfl rfl (by decide +kernel) ⟨Nat.le_of_ble_eq_true rfl, Nat.le_of_ble_eq_true rfl⟩) rfl rfl dX8_queued_26 (fun r6 σ7 _ => ?_)
      exact V_iret (fun _ => rfl) rfl (Nat.zero_le _) (Nat.zero_le _) dX8_queued_29
    · refine V_bipush (v := (-2 : Int32)) dX8_queued_19 rfl ?_
      refine V_goto (tgt := 29) dX8_queued_21 (by decide) ?_
      exact V_iret (fun _ => rfl) rfl (Nat.zero_le _) (Nat.zero_le _) dX8_queued_29
theorem t_X8_queued {D : DG} {z0 : Nat} {l : Launch} (a : Nat) (a1 : Int32) (a2 : Int32) (σ : SG) : MT D z0 l yX8_queued wsX8_queued rmX8_queued tvI [.ref a, .int a1, .int a2] σ (m_X8_queued (some a) a1 a2 σ) :=
  MT.of (own := RX8) (cc := cX8_queued) (nL := 4) (ret := (some .int)) (ct := false) (by decide) rfl rfl (fun h => by cases h) (Nat.le_of_ble_eq_true rfl) (by intro v hv; simp only [List.mem_cons, List.not_mem_nil, or_false] at hv; first | (rcases hv with rfl | rfl | rfl <;> first | rfl | exact va_rf_cat _) | exact absurd hv (fun h => h)) (v_X8_queued (some a) a1 a2 σ)
theorem in_X8_machineOf_X8 : ∀ w ∈ u_ws RX8 TX8 6, w ∈ wsX8_machineOf := by decide +kernel
theorem wd_X8_machineOf_1 : Cond.fieldLink RX8 10 "MainsWords" "now" "LMainsWords$Net;" ∈ wsX8_machineOf := by decide +kernel
theorem fd_X8_machineOf_10_X8 : FD RX8 10 wsX8_machineOf 7 0 := ⟨RX8, "MainsWords", TX8, 6, rfl, in_X8_machineOf_X8, by decide, wd_X8_machineOf_1, Or.inl rfl⟩
theorem wd_X8_machineOf_3 : Cond.sameField "MainsWords$Machine" "MainsWords$Thing" "wire" "I" ∈ wsX8_machineOf := by decide +kernel
theorem in_X8_machineOf_X2 : ∀ w ∈ u_ws RX2 TX2 6, w ∈ wsX8_machineOf := by decide +kernel
theorem wd_X8_machineOf_5 : Cond.fieldLink RX8 199 "MainsWords$Machine" "wire" "I" ∈ wsX8_machineOf := by decide +kernel
theorem fd_X8_machineOf_199_X2 : FD RX8 199 wsX8_machineOf 2 2 := ⟨RX2, "MainsWords$Machine", TX2, 6, rfl, in_X8_machineOf_X2, by decide, wd_X8_machineOf_5, Or.inr wd_X8_machineOf_3⟩
theorem wd_X8_machineOf_7 : Cond.fieldLink RX8 200 "MainsWords$Machine" "strength" "I" ∈ wsX8_machineOf := by decide +kernel
theorem fd_X8_machineOf_200_X2 : FD RX8 200 wsX8_machineOf 2 3 := ⟨RX2, "MainsWords$Machine", TX2, 6, rfl, in_X8_machineOf_X2, by decide, wd_X8_machineOf_7, Or.inl rfl⟩
theorem wd_X8_machineOf_9 : Cond.fieldLink RX8 201 "MainsWords$Machine" "period" "I" ∈ wsX8_machineOf := by decide +kernel
theorem fd_X8_machineOf_201_X2 : FD RX8 201 wsX8_machineOf 2 4 := ⟨RX2, "MainsWords$Machine", TX2, 6, rfl, in_X8_machineOf_X2, by decide, wd_X8_machineOf_9, Or.inl rfl⟩
theorem wd_X8_machineOf_11 : Cond.fieldLink RX8 107 "MainsWords$Machine" "isOn" "Z" ∈ wsX8_machineOf := by decide +kernel
theorem fd_X8_machineOf_107_X2 : FD RX8 107 wsX8_machineOf 2 5 := ⟨RX2, "MainsWords$Machine", TX2, 6, rfl, in_X8_machineOf_X2, by decide, wd_X8_machineOf_11, Or.inl rfl⟩
set_option maxRecDepth 100000 in
set_option maxHeartbeats 4000000 in
theorem v_X8_machineOf {D : DG} {z0 : Nat} {l : Launch} : ∀ (a0 : Option Nat) (a1 : Int32) (a2 : Int32) (σ : SG), V D z0 l RX8 cX8_machineOf 4 wsX8_machineOf (some .int) rmX8_machineOf false tvI 0 [some (va_rf a0), some (.int a1), some (.int a2), none] [] σ 0 0 (m_X8_machineOf a0 a1 a2 σ) := by
  intro a0 a1 a2 σ
  unfold m_X8_machineOf
  refine V_aload_n (x := a0) dX8_machineOf_0 rfl ?_
  refine V_getR fd_X8_machineOf_10_X8 dX8_machineOf_1 (fun x1 => ?_)
  refine V_iload_n (x := a1) dX8_machineOf_4 rfl ?_
  refine V_callV0 (As := [.int a1]) (st0 := []) (stI := [.int a1, va_rf x1]) (fun _ h => by cases h; exact t_X3_machineAt _ a1 σ) (q := (RX3, TX3, 8)) rfl rfl rfl (Nat.le_of_ble_eq_true rfl) rfl (fun s args hts => cwV 1 hts gX8_machineOf_X3_machineAt rfl rfl rfl (by decide +kernel) ⟨Nat.le_of_ble_eq_true rfl, Nat.le_of_ble_eq_true rfl⟩) rfl rfl dX8_machineOf_5 (fun r2 σ3 _ => ?_)
  refine V_astore_n (x := r2) (ls' := [some (va_rf a0), some (.int a1), some (.int a2), some (va_rf r2)]) dX8_machineOf_8 (by decide) rfl ?_
  refine V_aload_n (x := r2) dX8_machineOf_9 rfl ?_
  refine V_ifnonnull (tgt := 15) (x := r2) dX8_machineOf_10 (by decide) (fun hc4 => ?_) (fun hc4 => ?_)
  · refine V_iconst (v := (-1 : Int32)) dX8_machineOf_13 rfl ?_
    exact V_iret (fun _ => rfl) rfl (Nat.zero_le _) (Nat.zero_le _) dX8_machineOf_14
  · refine V_iload_n (x := a2) dX8_machineOf_15 rfl ?_
    refine V_table (x := a2) (tb := [(0, 48), (1, 53), (2, 58), (3, 63)]) (tgt := 71) dX8_machineOf_16 (by decide) rfl (by decide) (List.forall_mem_cons.mpr ⟨?_, List.forall_mem_cons.mpr ⟨?_, List.forall_mem_cons.mpr ⟨?_, List.forall_mem_cons.mpr ⟨?_, fun _ h => absurd h List.not_mem_nil⟩⟩⟩⟩) ?_
    · dsimp only
      refine V_aload_n (x := r2) dX8_machineOf_48 rfl ?_
      refine V_getI fd_X8_machineOf_199_X2 dX8_machineOf_49 (fun x5 => ?_)
      exact V_iret (fun _ => rfl) rfl (Nat.zero_le _) (Nat.zero_le _) dX8_machineOf_52
    · dsimp only
      refine V_aload_n (x := r2) dX8_machineOf_53 rfl ?_
      refine V_getI fd_X8_machineOf_200_X2 dX8_machineOf_54 (fun x6 => ?_)
      exact V_iret (fun _ => rfl) rfl (Nat.zero_le _) (Nat.zero_le _) dX8_machineOf_57
    · dsimp only
      refine V_aload_n (x := r2) dX8_machineOf_58 rfl ?_
      refine V_getI fd_X8_machineOf_201_X2 dX8_machineOf_59 (fun x7 => ?_)
      exact V_iret (fun _ => rfl) rfl (Nat.zero_le _) (Nat.zero_le _) dX8_machineOf_62
    · dsimp only
      refine V_aload_n (x := r2) dX8_machineOf_63 rfl ?_
      refine V_getI fd_X8_machineOf_107_X2 dX8_machineOf_64 (fun x8 => ?_)
      refine V_callS0 (As := [.int x8]) (st0 := []) (stI := [.int x8]) (t_X8_asNumber x8 σ3) rfl (Nat.le_of_ble_eq_true rfl) rfl (fun s args hts => va_cwS 1 hts gX8_machineOf_X8_asNumber rfl rfl rfl (by decide +kernel) ⟨Nat.le_of_ble_eq_true rfl, Nat.le_of_ble_eq_true rfl⟩) rfl rfl dX8_machineOf_67 (fun r9 σ10 _ => ?_)
      exact V_iret (fun _ => rfl) rfl (Nat.zero_le _) (Nat.zero_le _) dX8_machineOf_70
    · refine V_bipush (v := (-2 : Int32)) dX8_machineOf_71 rfl ?_
      exact V_iret (fun _ => rfl) rfl (Nat.zero_le _) (Nat.zero_le _) dX8_machineOf_73
theorem t_X8_machineOf {D : DG} {z0 : Nat} {l : Launch} (a : Nat) (a1 : Int32) (a2 : Int32) (σ : SG) : MT D z0 l yX8_machineOf wsX8_machineOf rmX8_machineOf tvI [.ref a, .int a1, .int a2] σ (m_X8_machineOf (some a) a1 a2 σ) :=
  MT.of (own := RX8) (cc := cX8_machineOf) (nL := 4) (ret := (some .int)) (ct := false) (by decide) rfl rfl (fun h => by cases h) (Nat.le_of_ble_eq_true rfl) (by intro v hv; simp only [List.mem_cons, List.not_mem_nil, or_false] at hv; first | (rcases hv with rfl | rfl | rfl <;> first | rfl | exact va_rf_cat _) | exact absurd hv (fun h => h)) (v_X8_machineOf (some a) a1 a2 σ)
theorem in_X8_lampOf_X8 : ∀ w ∈ u_ws RX8 TX8 6, w ∈ wsX8_lampOf := by decide +kernel
theorem wd_X8_lampOf_1 : Cond.fieldLink RX8 10 "MainsWords" "now" "LMainsWords$Net;" ∈ wsX8_lampOf := by decide +kernel
theorem fd_X8_lampOf_10_X8 : FD RX8 10 wsX8_lampOf 7 0 := ⟨RX8, "MainsWords", TX8, 6, rfl, in_X8_lampOf_X8, by decide, wd_X8_lampOf_1, Or.inl rfl⟩
theorem wd_X8_lampOf_3 : Cond.sameField "MainsWords$Lamp" "MainsWords$Thing" "wire" "I" ∈ wsX8_lampOf := by decide +kernel
theorem in_X8_lampOf_X1 : ∀ w ∈ u_ws RX1 TX1 7, w ∈ wsX8_lampOf := by decide +kernel
theorem wd_X8_lampOf_5 : Cond.fieldLink RX8 208 "MainsWords$Lamp" "wire" "I" ∈ wsX8_lampOf := by decide +kernel
theorem fd_X8_lampOf_208_X1 : FD RX8 208 wsX8_lampOf 1 2 := ⟨RX1, "MainsWords$Lamp", TX1, 7, rfl, in_X8_lampOf_X1, by decide, wd_X8_lampOf_5, Or.inr wd_X8_lampOf_3⟩
theorem wd_X8_lampOf_7 : Cond.fieldLink RX8 209 "MainsWords$Lamp" "letter" "I" ∈ wsX8_lampOf := by decide +kernel
theorem fd_X8_lampOf_209_X1 : FD RX8 209 wsX8_lampOf 1 3 := ⟨RX1, "MainsWords$Lamp", TX1, 7, rfl, in_X8_lampOf_X1, by decide, wd_X8_lampOf_7, Or.inl rfl⟩
theorem wd_X8_lampOf_9 : Cond.fieldLink RX8 212 "MainsWords$Lamp" "unit" "I" ∈ wsX8_lampOf := by decide +kernel
theorem fd_X8_lampOf_212_X1 : FD RX8 212 wsX8_lampOf 1 4 := ⟨RX1, "MainsWords$Lamp", TX1, 7, rfl, in_X8_lampOf_X1, by decide, wd_X8_lampOf_9, Or.inl rfl⟩
theorem wd_X8_lampOf_11 : Cond.fieldLink RX8 215 "MainsWords$Lamp" "level" "I" ∈ wsX8_lampOf := by decide +kernel
theorem fd_X8_lampOf_215_X1 : FD RX8 215 wsX8_lampOf 1 5 := ⟨RX1, "MainsWords$Lamp", TX1, 7, rfl, in_X8_lampOf_X1, by decide, wd_X8_lampOf_11, Or.inl rfl⟩
theorem wd_X8_lampOf_13 : Cond.fieldLink RX8 218 "MainsWords$Lamp" "isSelected" "Z" ∈ wsX8_lampOf := by decide +kernel
theorem fd_X8_lampOf_218_X1 : FD RX8 218 wsX8_lampOf 1 6 := ⟨RX1, "MainsWords$Lamp", TX1, 7, rfl, in_X8_lampOf_X1, by decide, wd_X8_lampOf_13, Or.inl rfl⟩
set_option maxRecDepth 100000 in
set_option maxHeartbeats 4000000 in
theorem v_X8_lampOf {D : DG} {z0 : Nat} {l : Launch} : ∀ (a0 : Option Nat) (a1 : Int32) (a2 : Int32) (σ : SG), V D z0 l RX8 cX8_lampOf 4 wsX8_lampOf (some .int) rmX8_lampOf false tvI 0 [some (va_rf a0), some (.int a1), some (.int a2), none] [] σ 0 0 (m_X8_lampOf a0 a1 a2 σ) := by
  intro a0 a1 a2 σ
  unfold m_X8_lampOf
  refine V_aload_n (x := a0) dX8_lampOf_0 rfl ?_
  refine V_getR fd_X8_lampOf_10_X8 dX8_lampOf_1 (fun x1 => ?_)
  refine V_iload_n (x := a1) dX8_lampOf_4 rfl ?_
  refine V_callV0 (As := [.int a1]) (st0 := []) (stI := [.int a1, va_rf x1]) (fun _ h => by cases h; exact t_X3_lampAt _ a1 σ) (q := (RX3, TX3, 8)) rfl rfl rfl (Nat.le_of_ble_eq_true rfl) rfl (fun s args hts => cwV 1 hts gX8_lampOf_X3_lampAt rfl rfl rfl (by decide +kernel) ⟨Nat.le_of_ble_eq_true rfl, Nat.le_of_ble_eq_true rfl⟩) rfl rfl dX8_lampOf_5 (fun r2 σ3 _ => ?_)
  refine V_astore_n (x := r2) (ls' := [some (va_rf a0), some (.int a1), some (.int a2), some (va_rf r2)]) dX8_lampOf_8 (by decide) rfl ?_
  refine V_aload_n (x := r2) dX8_lampOf_9 rfl ?_
  refine V_ifnonnull (tgt := 15) (x := r2) dX8_lampOf_10 (by decide) (fun hc4 => ?_) (fun hc4 => ?_)
  · refine V_iconst (v := (-1 : Int32)) dX8_lampOf_13 rfl ?_
    exact V_iret (fun _ => rfl) rfl (Nat.zero_le _) (Nat.zero_le _) dX8_lampOf_14
  · refine V_iload_n (x := a2) dX8_lampOf_15 rfl ?_
    refine V_table (x := a2) (tb := [(0, 52), (1, 57), (2, 62), (3, 67), (4, 72)]) (tgt := 80) dX8_lampOf_16 (by decide) rfl (by decide) (List.forall_mem_cons.mpr ⟨?_, List.forall_mem_cons.mpr ⟨?_, List.forall_mem_cons.mpr ⟨?_, List.forall_mem_cons.mpr ⟨?_, List.forall_mem_cons.mpr ⟨?_, fun _ h => absurd h List.not_mem_nil⟩⟩⟩⟩⟩) ?_
    · dsimp only
      refine V_aload_n (x := r2) dX8_lampOf_52 rfl ?_
      refine V_getI fd_X8_lampOf_208_X1 dX8_lampOf_53 (fun x5 => ?_)
      exact V_iret (fun _ => rfl) rfl (Nat.zero_le _) (Nat.zero_le _) dX8_lampOf_56
    · dsimp only
      refine V_aload_n (x := r2) dX8_lampOf_57 rfl ?_
      refine V_getI fd_X8_lampOf_209_X1 dX8_lampOf_58 (fun x6 => ?_)
      exact V_iret (fun _ => rfl) rfl (Nat.zero_le _) (Nat.zero_le _) dX8_lampOf_61
    · dsimp only
      refine V_aload_n (x := r2) dX8_lampOf_62 rfl ?_
      refine V_getI fd_X8_lampOf_212_X1 dX8_lampOf_63 (fun x7 => ?_)
      exact V_iret (fun _ => rfl) rfl (Nat.zero_le _) (Nat.zero_le _) dX8_lampOf_66
    · dsimp only
      refine V_aload_n (x := r2) dX8_lampOf_67 rfl ?_
      refine V_getI fd_X8_lampOf_215_X1 dX8_lampOf_68 (fun x8 => ?_)
      exact V_iret (fun _ => rfl) rfl (Nat.zero_le _) (Nat.zero_le _) dX8_lampOf_71
    · dsimp only
      refine V_aload_n (x := r2) dX8_lampOf_72 rfl ?_
      refine V_getI fd_X8_lampOf_218_X1 dX8_lampOf_73 (fun x9 => ?_)
      refine V_callS0 (As := [.int x9]) (st0 := []) (stI := [.int x9]) (t_X8_asNumber x9 σ3) rfl (Nat.le_of_ble_eq_true rfl) rfl (fun s args hts => va_cwS 1 hts gX8_lampOf_X8_asNumber rfl rfl rfl (by decide +kernel) ⟨Nat.le_of_ble_eq_true rfl, Nat.le_of_ble_eq_true rfl⟩) rfl rfl dX8_lampOf_76 (fun r10 σ11 _ => ?_)
      exact V_iret (fun _ => rfl) rfl (Nat.zero_le _) (Nat.zero_le _) dX8_lampOf_79
    · refine V_bipush (v := (-2 : Int32)) dX8_lampOf_80 rfl ?_
      exact V_iret (fun _ => rfl) rfl (Nat.zero_le _) (Nat.zero_le _) dX8_lampOf_82
theorem t_X8_lampOf {D : DG} {z0 : Nat} {l : Launch} (a : Nat) (a1 : Int32) (a2 : Int32) (σ : SG) : MT D z0 l yX8_lampOf wsX8_lampOf rmX8_lampOf tvI [.ref a, .int a1, .int a2] σ (m_X8_lampOf (some a) a1 a2 σ) :=
  MT.of (own := RX8) (cc := cX8_lampOf) (nL := 4) (ret := (some .int)) (ct := false) (by decide) rfl rfl (fun h => by cases h) (Nat.le_of_ble_eq_true rfl) (by intro v hv; simp only [List.mem_cons, List.not_mem_nil, or_false] at hv; first | (rcases hv with rfl | rfl | rfl <;> first | rfl | exact va_rf_cat _) | exact absurd hv (fun h => h)) (v_X8_lampOf (some a) a1 a2 σ)
theorem in_X8_receiver_X8 : ∀ w ∈ u_ws RX8 TX8 6, w ∈ wsX8_receiver := by decide +kernel
theorem wd_X8_receiver_1 : Cond.fieldLink RX8 10 "MainsWords" "now" "LMainsWords$Net;" ∈ wsX8_receiver := by decide +kernel
theorem fd_X8_receiver_10_X8 : FD RX8 10 wsX8_receiver 7 0 := ⟨RX8, "MainsWords", TX8, 6, rfl, in_X8_receiver_X8, by decide, wd_X8_receiver_1, Or.inl rfl⟩
theorem in_X8_receiver_X3 : ∀ w ∈ u_ws RX3 TX3 8, w ∈ wsX8_receiver := by decide +kernel
theorem wd_X8_receiver_4 : Cond.fieldLink RX8 221 "MainsWords$Net" "receivers" "[LMainsWords$Receiver;" ∈ wsX8_receiver := by decide +kernel
theorem fd_X8_receiver_221_X3 : FD RX8 221 wsX8_receiver 3 3 := ⟨RX3, "MainsWords$Net", TX3, 8, rfl, in_X8_receiver_X3, by decide, wd_X8_receiver_4, Or.inl rfl⟩
theorem in_X8_receiver_X4 : ∀ w ∈ u_ws RX4 TX4 7, w ∈ wsX8_receiver := by decide +kernel
theorem wd_X8_receiver_7 : Cond.fieldLink RX8 225 "MainsWords$Receiver" "reads" "Z" ∈ wsX8_receiver := by decide +kernel
theorem fd_X8_receiver_225_X4 : FD RX8 225 wsX8_receiver 4 0 := ⟨RX4, "MainsWords$Receiver", TX4, 7, rfl, in_X8_receiver_X4, by decide, wd_X8_receiver_7, Or.inl rfl⟩
theorem wd_X8_receiver_9 : Cond.fieldLink RX8 230 "MainsWords$Receiver" "bitsRead" "I" ∈ wsX8_receiver := by decide +kernel
theorem fd_X8_receiver_230_X4 : FD RX8 230 wsX8_receiver 4 2 := ⟨RX4, "MainsWords$Receiver", TX4, 7, rfl, in_X8_receiver_X4, by decide, wd_X8_receiver_9, Or.inl rfl⟩
theorem wd_X8_receiver_11 : Cond.fieldLink RX8 233 "MainsWords$Receiver" "latestBits" "I" ∈ wsX8_receiver := by decide +kernel
theorem fd_X8_receiver_233_X4 : FD RX8 233 wsX8_receiver 4 1 := ⟨RX4, "MainsWords$Receiver", TX4, 7, rfl, in_X8_receiver_X4, by decide, wd_X8_receiver_11, Or.inl rfl⟩
theorem wd_X8_receiver_13 : Cond.fieldLink RX8 236 "MainsWords$Receiver" "lastWord" "I" ∈ wsX8_receiver := by decide +kernel
theorem fd_X8_receiver_236_X4 : FD RX8 236 wsX8_receiver 4 4 := ⟨RX4, "MainsWords$Receiver", TX4, 7, rfl, in_X8_receiver_X4, by decide, wd_X8_receiver_13, Or.inl rfl⟩
theorem wd_X8_receiver_15 : Cond.fieldLink RX8 167 "MainsWords$Net" "time" "I" ∈ wsX8_receiver := by decide +kernel
theorem fd_X8_receiver_167_X3 : FD RX8 167 wsX8_receiver 3 6 := ⟨RX3, "MainsWords$Net", TX3, 8, rfl, in_X8_receiver_X3, by decide, wd_X8_receiver_15, Or.inl rfl⟩
theorem wd_X8_receiver_17 : Cond.fieldLink RX8 239 "MainsWords$Receiver" "toldAt" "I" ∈ wsX8_receiver := by decide +kernel
theorem fd_X8_receiver_239_X4 : FD RX8 239 wsX8_receiver 4 5 := ⟨RX4, "MainsWords$Receiver", TX4, 7, rfl, in_X8_receiver_X4, by decide, wd_X8_receiver_17, Or.inl rfl⟩
theorem wd_X8_receiver_19 : Cond.fieldLink RX8 242 "MainsWords$Receiver" "openLetters" "I" ∈ wsX8_receiver := by decide +kernel
theorem fd_X8_receiver_242_X4 : FD RX8 242 wsX8_receiver 4 6 := ⟨RX4, "MainsWords$Receiver", TX4, 7, rfl, in_X8_receiver_X4, by decide, wd_X8_receiver_19, Or.inl rfl⟩
set_option maxRecDepth 100000 in
set_option maxHeartbeats 4000000 in
theorem v_X8_receiver {D : DG} {z0 : Nat} {l : Launch} : ∀ (a0 : Option Nat) (a1 : Int32) (a2 : Int32) (σ : SG), V D z0 l RX8 cX8_receiver 4 wsX8_receiver (some .int) rmX8_receiver false tvI 0 [some (va_rf a0), some (.int a1), some (.int a2), none] [] σ 0 0 (m_X8_receiver a0 a1 a2 σ) := by
  intro a0 a1 a2 σ
  unfold m_X8_receiver
  refine V_iload_n (x := a1) dX8_receiver_0 rfl ?_
  refine V_callS0 (As := [.int a1]) (st0 := []) (stI := [.int a1]) (t_X8_isWire a1 σ) rfl (Nat.le_of_ble_eq_true rfl) rfl (fun s args hts => va_cwS 1 hts gX8_receiver_X8_isWire rfl rfl rfl (by decide +kernel) ⟨Nat.le_of_ble_eq_true rfl, Nat.le_of_ble_eq_true rfl⟩) rfl rfl dX8_receiver_1 (fun r1 σ2 _ => ?_)
  refine V_if_ne (tgt := 9) (x := r1) dX8_receiver_4 (by decide) (fun hc3 => ?_) (fun hc3 => ?_)
  · refine V_iconst (v := (-1 : Int32)) dX8_receiver_7 rfl ?_
    exact V_iret (fun _ => rfl) rfl (Nat.zero_le _) (Nat.zero_le _) dX8_receiver_8
  · refine V_aload_n (x := a0) dX8_receiver_9 rfl ?_
    refine V_getR fd_X8_receiver_10_X8 dX8_receiver_10 (fun x4 => ?_)
    refine V_getR fd_X8_receiver_221_X3 dX8_receiver_13 (fun x5 => ?_)
    refine V_iload_n (x := a1) dX8_receiver_16 rfl ?_
    refine V_aaload dX8_receiver_17 (fun x6 => ?_)
    refine V_astore_n (x := x6) (ls' := [some (va_rf a0), some (.int a1), some (.int a2), some (va_rf x6)]) dX8_receiver_18 (by decide) rfl ?_
    refine V_iload_n (x := a2) dX8_receiver_19 rfl ?_
    refine V_table (x := a2) (tb := [(0, 56), (1, 73), (2, 90), (3, 95), (4, 122)]) (tgt := 127) dX8_receiver_20 (by decide) rfl (by decide) (List.forall_mem_cons.mpr ⟨?_, List.forall_mem_cons.mpr ⟨?_, List.forall_mem_cons.mpr ⟨?_, List.forall_mem_cons.mpr ⟨?_, List.forall_mem_cons.mpr ⟨?_, fun _ h => absurd h List.not_mem_nil⟩⟩⟩⟩⟩) ?_
    · dsimp only
      refine V_aload_n (x := x6) dX8_receiver_56 rfl ?_
      refine V_getI fd_X8_receiver_225_X4 dX8_receiver_57 (fun x7 => ?_)
      refine V_if_eq (tgt := 70) (x := x7) dX8_receiver_60 (by decide) (fun hc8 => ?_) (fun hc8 => ?_)
      · refine V_bipush (v := (-5 : Int32)) dX8_receiver_70 rfl ?_
        exact V_iret (fun _ => rfl) rfl (Nat.zero_le _) (Nat.zero_le _) dX8_receiver_72
      · refine V_aload_n (x := x6) dX8_receiver_63 rfl ?_
        refine V_getI fd_X8_receiver_230_X4 dX8_receiver_64 (fun x9 => ?_)
        refine V_goto (tgt := 72) dX8_receiver_67 (by decide) ?_
        exact V_iret (fun _ => rfl) rfl (Nat.zero_le _) (Nat.zero_le _) dX8_receiver_72
    · dsimp only
      refine V_aload_n (x := x6) dX8_receiver_73 rfl ?_
      refine V_getI fd_X8_receiver_225_X4 dX8_receiver_74 (fun x10 => ?_)
      refine V_if_eq (tgt := 85) (x := x10) dX8_receiver_77 (by decide) (fun hc11 => ?_) (fun hc11 => ?_)
      · refine V_aload_n (x := x6) dX8_receiver_85 rfl ?_
        refine V_getI fd_X8_receiver_233_X4 dX8_receiver_86 (fun x12 => ?_)
        exact V_iret (fun _ => rfl) rfl (Nat.zero_le _) (Nat.zero_le _) dX8_receiver_89
      · refine V_bipush (v := (-5 : Int32)) dX8_receiver_80 rfl ?_
        refine V_goto (tgt := 89) dX8_receiver_82 (by decide) ?_
        exact V_iret (fun _ => rfl) rfl (Nat.zero_le _) (Nat.zero_le _) dX8_receiver_89
    · dsimp only
      refine V_aload_n (x := x6) dX8_receiver_90 rfl ?_
      refine V_getI fd_X8_receiver_236_X4 dX8_receiver_91 (fun x13 => ?_)
      exact V_iret (fun _ => rfl) rfl (Nat.zero_le _) (Nat.zero_le _) dX8_receiver_94
    · dsimp only
      refine V_aload_n (x := x6) dX8_receiver_95 rfl ?_
      refine V_getI fd_X8_receiver_236_X4 dX8_receiver_96 (fun x14 => ?_)
      refine V_bipush (v := (-5 : Int32)) dX8_receiver_99 rfl ?_
      refine V_icmp_ne (tgt := 109) (x := x14) (y := (-5 : Int32)) dX8_receiver_101 (by decide) (fun hc15 => ?_) (fun hc15 => ?_)
      · refine V_bipush (v := (-5 : Int32)) dX8_receiver_104 rfl ?_
        refine V_goto (tgt := 121) dX8_receiver_106 (by decide) ?_
        exact V_iret (fun _ => rfl) rfl (Nat.zero_le _) (Nat.zero_le _) dX8_receiver_121
      · refine V_aload_n (x := a0) dX8_receiver_109 rfl ?_
        refine V_getR fd_X8_receiver_10_X8 dX8_receiver_110 (fun x16 => ?_)
        refine V_getI fd_X8_receiver_167_X3 dX8_receiver_113 (fun x17 => ?_)
        refine V_aload_n (x := x6) dX8_receiver_116 rfl ?_
        refine V_getI fd_X8_receiver_239_X4 dX8_receiver_117 (fun x18 => ?_)
        refine V_isub (x := x17) (y := x18) dX8_receiver_120 ?_
        exact V_iret (fun _ => rfl) rfl (Nat.zero_le _) (Nat.zero_le _) dX8_receiver_121
    · dsimp only
      refine V_aload_n (x := x6) dX8_receiver_122 rfl ?_
      refine V_getI fd_X8_receiver_242_X4 dX8_receiver_123 (fun x19 => ?_)
      exact V_iret (fun _ => rfl) rfl (Nat.zero_le _) (Nat.zero_le _) dX8_receiver_126
    · refine V_bipush (v := (-2 : Int32)) dX8_receiver_127 rfl ?_
      exact V_iret (fun _ => rfl) rfl (Nat.zero_le _) (Nat.zero_le _) dX8_receiver_129
theorem t_X8_receiver {D : DG} {z0 : Nat} {l : Launch} (a : Nat) (a1 : Int32) (a2 : Int32) (σ : SG) : MT D z0 l yX8_receiver wsX8_receiver rmX8_receiver tvI [.ref a, .int a1, .int a2] σ (m_X8_receiver (some a) a1 a2 σ) :=
  MT.of (own := RX8) (cc := cX8_receiver) (nL := 4) (ret := (some .int)) (ct := false) (by decide) rfl rfl (fun h => by cases h) (Nat.le_of_ble_eq_true rfl) (by intro v hv; simp only [List.mem_cons, List.not_mem_nil, or_false] at hv; first | (rcases hv with rfl | rfl | rfl <;> first | rfl | exact va_rf_cat _) | exact absurd hv (fun h => h)) (v_X8_receiver (some a) a1 a2 σ)
set_option maxRecDepth 100000 in
set_option maxHeartbeats 4000000 in
theorem v_X8_frame {D : DG} {z0 : Nat} {l : Launch} : ∀ (a0 : Option Nat) (a1 : Int32) (a2 : Int32) (σ : SG), V D z0 l RX8 cX8_frame 3 wsX8_frame (some .int) rmX8_frame false tvI 0 [some (va_rf a0), some (.int a1), some (.int a2)] [] σ 0 0 (m_X8_frame a0 a1 a2 σ) := by
  intro a0 a1 a2 σ
  unfold m_X8_frame
  refine V_iload_n (x := a1) dX8_frame_0 rfl ?_
  refine V_callS0 (As := [.int a1]) (st0 := []) (stI := [.int a1]) (t_X8_isWord a1 σ) rfl (Nat.le_of_ble_eq_true rfl) rfl (fun s args hts => va_cwS 1 hts gX8_frame_X8_isWord rfl rfl rfl (by decide +kernel) ⟨Nat.le_of_ble_eq_true rfl, Nat.le_of_ble_eq_true rfl⟩) rfl rfl dX8_frame_1 (fun r1 σ2 _ => ?_)
  refine V_if_eq (tgt := 17) (x := r1) dX8_frame_4 (by decide) (fun hc3 => ?_) (fun hc3 => ?_)
  · refine V_bipush (v := (-2 : Int32)) dX8_frame_17 rfl ?_
    exact V_iret (fun _ => rfl) rfl (Nat.zero_le _) (Nat.zero_le _) dX8_frame_19
  · refine V_iload_n (x := a2) dX8_frame_7 rfl ?_
    refine V_if_lt (tgt := 17) (x := a2) dX8_frame_8 (by decide) (fun hc4 => ?_) (fun hc4 => ?_)
    · refine V_bipush (v := (-2 : Int32)) dX8_frame_17 rfl ?_
      exact V_iret (fun _ => rfl) rfl (Nat.zero_le _) (Nat.zero_le _) dX8_frame_19
    · refine V_iload_n (x := a2) dX8_frame_11 rfl ?_
      refine V_bipush (v := (14 : Int32)) dX8_frame_12 rfl ?_
      refine V_icmp_lt (tgt := 20) (x := a2) (y := (14 : Int32)) dX8_frame_14 (by decide) (fun hc5 => ?_) (fun hc5 => ?_)
      · refine V_iload_n (x := a1) dX8_frame_20 rfl ?_
        refine V_iload_n (x := a2) dX8_frame_21 rfl ?_
        refine V_callS0 (As := [.int a1, .int a2]) (st0 := []) (stI := [.int a2, .int a1]) (t_X8_frameBit a1 a2 σ2) rfl (Nat.le_of_ble_eq_true rfl) rfl (fun s args hts => va_cwS 2 hts gX8_frame_X8_frameBit rfl rfl rfl (by decide +kernel) ⟨Nat.le_of_ble_eq_true rfl, Nat.le_of_ble_eq_true rfl⟩) rfl rfl dX8_frame_22 (fun r6 σ7 _ => ?_)
        exact V_iret (fun _ => rfl) rfl (Nat.zero_le _) (Nat.zero_le _) dX8_frame_25
      · refine V_bipush (v := (-2 : Int32)) dX8_frame_17 rfl ?_
        exact V_iret (fun _ => rfl) rfl (Nat.zero_le _) (Nat.zero_le _) dX8_frame_19
theorem t_X8_frame {D : DG} {z0 : Nat} {l : Launch} (a : Nat) (a1 : Int32) (a2 : Int32) (σ : SG) : MT D z0 l yX8_frame wsX8_frame rmX8_frame tvI [.ref a, .int a1, .int a2] σ (m_X8_frame (some a) a1 a2 σ) :=
  MT.of (own := RX8) (cc := cX8_frame) (nL := 3) (ret := (some .int)) (ct := false) (by decide) rfl rfl (fun h => by cases h) (Nat.le_of_ble_eq_true rfl) (by intro v hv; simp only [List.mem_cons, List.not_mem_nil, or_false] at hv; first | (rcases hv with rfl | rfl | rfl <;> first | rfl | exact va_rf_cat _) | exact absurd hv (fun h => h)) (v_X8_frame (some a) a1 a2 σ)
theorem in_X8_loss_X8 : ∀ w ∈ u_ws RX8 TX8 6, w ∈ wsX8_loss := by decide +kernel
theorem wd_X8_loss_1 : Cond.fieldLink RX8 10 "MainsWords" "now" "LMainsWords$Net;" ∈ wsX8_loss := by decide +kernel
theorem fd_X8_loss_10_X8 : FD RX8 10 wsX8_loss 7 0 := ⟨RX8, "MainsWords", TX8, 6, rfl, in_X8_loss_X8, by decide, wd_X8_loss_1, Or.inl rfl⟩
set_option maxRecDepth 100000 in
set_option maxHeartbeats 4000000 in
theorem v_X8_loss {D : DG} {z0 : Nat} {l : Launch} : ∀ (a0 : Option Nat) (a1 : Int32) (a2 : Int32) (σ : SG), V D z0 l RX8 cX8_loss 3 wsX8_loss (some .int) rmX8_loss false tvI 0 [some (va_rf a0), some (.int a1), some (.int a2)] [] σ 0 0 (m_X8_loss a0 a1 a2 σ) := by
  intro a0 a1 a2 σ
  unfold m_X8_loss
  refine V_iload_n (x := a1) dX8_loss_0 rfl ?_
  refine V_callS0 (As := [.int a1]) (st0 := []) (stI := [.int a1]) (t_X8_isWire a1 σ) rfl (Nat.le_of_ble_eq_true rfl) rfl (fun s args hts => va_cwS 1 hts gX8_loss_X8_isWire rfl rfl rfl (by decide +kernel) ⟨Nat.le_of_ble_eq_true rfl, Nat.le_of_ble_eq_true rfl⟩) rfl rfl dX8_loss_1 (fun r1 σ2 _ => ?_)
  refine V_if_eq (tgt := 14) (x := r1) dX8_loss_4 (by decide) (fun hc3 => ?_) (fun hc3 => ?_)
  · refine V_iconst (v := (-1 : Int32)) dX8_loss_14 rfl ?_
    exact V_iret (fun _ => rfl) rfl (Nat.zero_le _) (Nat.zero_le _) dX8_loss_15
  · refine V_iload_n (x := a2) dX8_loss_7 rfl ?_
    refine V_callS0 (As := [.int a2]) (st0 := []) (stI := [.int a2]) (t_X8_isWire a2 σ2) rfl (Nat.le_of_ble_eq_true rfl) rfl (fun s args hts => va_cwS 1 hts gX8_loss_X8_isWire rfl rfl rfl (by decide +kernel) ⟨Nat.le_of_ble_eq_true rfl, Nat.le_of_ble_eq_true rfl⟩) rfl rfl dX8_loss_8 (fun r4 σ5 _ => ?_)
    refine V_if_ne (tgt := 16) (x := r4) dX8_loss_11 (by decide) (fun hc6 => ?_) (fun hc6 => ?_)
    · refine V_iconst (v := (-1 : Int32)) dX8_loss_14 rfl ?_
      exact V_iret (fun _ => rfl) rfl (Nat.zero_le _) (Nat.zero_le _) dX8_loss_15
    · refine V_aload_n (x := a0) dX8_loss_16 rfl ?_
      refine V_getR fd_X8_loss_10_X8 dX8_loss_17 (fun x7 => ?_)
      refine V_iload_n (x := a1) dX8_loss_20 rfl ?_
      refine V_iload_n (x := a2) dX8_loss_21 rfl ?_
      refine V_callV0 (As := [.int a1, .int a2]) (st0 := []) (stI := [.int a2, .int a1, va_rf x7]) (fun _ h => by cases h; exact t_X3_lossBetween _ a1 a2 σ5) (q := (RX3, TX3, 8)) rfl rfl rfl (Nat.le_of_ble_eq_true rfl) rfl (fun s args hts => cwV 2 hts gX8_loss_X3_lossBetween rfl rfl rfl (by decide +kernel) ⟨Nat.le_of_ble_eq_true rfl, Nat.le_of_ble_eq_true rfl⟩) rfl rfl dX8_loss_22 (fun r8 σ9 _ => ?_)
      exact V_iret (fun _ => rfl) rfl (Nat.zero_le _) (Nat.zero_le _) dX8_loss_25
theorem t_X8_loss {D : DG} {z0 : Nat} {l : Launch} (a : Nat) (a1 : Int32) (a2 : Int32) (σ : SG) : MT D z0 l yX8_loss wsX8_loss rmX8_loss tvI [.ref a, .int a1, .int a2] σ (m_X8_loss (some a) a1 a2 σ) :=
  MT.of (own := RX8) (cc := cX8_loss) (nL := 3) (ret := (some .int)) (ct := false) (by decide) rfl rfl (fun h => by cases h) (Nat.le_of_ble_eq_true rfl) (by intro v hv; simp only [List.mem_cons, List.not_mem_nil, or_false] at hv; first | (rcases hv with rfl | rfl | rfl <;> first | rfl | exact va_rf_cat _) | exact absurd hv (fun h => h)) (v_X8_loss (some a) a1 a2 σ)
theorem in_X8_presentIn_X1 : ∀ w ∈ u_ws RX1 TX1 7, w ∈ wsX8_presentIn := by decide +kernel
theorem wd_X8_presentIn_1 : Cond.fieldLink RX8 88 "MainsWords$Thing" "isPresent" "Z" ∈ wsX8_presentIn := by decide +kernel
theorem fd_X8_presentIn_88_X1 : FD RX8 88 wsX8_presentIn 1 1 := ⟨RX1, "MainsWords$Thing", TX1, 7, rfl, in_X8_presentIn_X1, by decide, wd_X8_presentIn_1, Or.inl rfl⟩
theorem in_X8_presentIn_X2 : ∀ w ∈ u_ws RX2 TX2 6, w ∈ wsX8_presentIn := by decide +kernel
theorem fd_X8_presentIn_88_X2 : FD RX8 88 wsX8_presentIn 2 1 := ⟨RX2, "MainsWords$Thing", TX2, 6, rfl, in_X8_presentIn_X2, by decide, wd_X8_presentIn_1, Or.inl rfl⟩
theorem in_X8_presentIn_X6 : ∀ w ∈ u_ws RX6 TX6 10, w ∈ wsX8_presentIn := by decide +kernel
theorem fd_X8_presentIn_88_X6 : FD RX8 88 wsX8_presentIn 6 1 := ⟨RX6, "MainsWords$Thing", TX6, 10, rfl, in_X8_presentIn_X6, by decide, wd_X8_presentIn_1, Or.inl rfl⟩
set_option maxRecDepth 100000 in
set_option maxHeartbeats 4000000 in
theorem v_X8_presentIn_B10 {D : DG} {z0 : Nat} {l : Launch} {rec10 : Int32 → Option Nat → Int32 → Int32 → SG → Option (Int32 × SG)} (hrec10 : ∀ (v1 : Int32) (v2 : Option Nat) (v3 : Int32) (v4 : Int32) (σ : SG), V D z0 l RX8 cX8_presentIn 6 wsX8_presentIn (some .int) rmX8_presentIn false tvI 10 [none, some (.int v1), some (va_rf v2), some (.int v3), some (.int v4), none] [] σ 0 0 (rec10 v1 v2 v3 v4 σ)) : ∀ (v1 : Int32) (v2 : Option Nat) (v3 : Int32) (v4 : Int32) (σ : SG), V D z0 l RX8 cX8_presentIn 6 wsX8_presentIn (some .int) rmX8_presentIn false tvI 10 [none, some (.int v1), some (va_rf v2), some (.int v3), some (.int v4), none] [] σ 0 0 (m_X8_presentIn_B10 rec10 v1 v2 v3 v4 σ) := by
  intro v1 v2 v3 v4 σ
  unfold m_X8_presentIn_B10
  refine V_iload (x := v4) dX8_presentIn_10 rfl ?_
  refine V_iload_n (x := v3) dX8_presentIn_12 rfl ?_
  refine V_icmp_ge (tgt := 39) (x := v4) (y := v3) dX8_presentIn_13 (by decide) (fun hc1 => ?_) (fun hc1 => ?_)
  · refine V_iload_n (x := v1) dX8_presentIn_39 rfl ?_
    exact V_iret (fun _ => rfl) rfl (Nat.zero_le _) (Nat.zero_le _) dX8_presentIn_40
  · refine V_aload_n (x := v2) dX8_presentIn_16 rfl ?_
    refine V_iload (x := v4) dX8_presentIn_17 rfl ?_
    refine V_aaload dX8_presentIn_19 (fun x2 => ?_)
    refine V_astore (x := x2) (ls' := [none, some (.int v1), some (va_rf v2), some (.int v3), some (.int v4), some (va_rf x2)]) dX8_presentIn_20 (by decide) rfl ?_
    refine V_iload_n (x := v1) dX8_presentIn_22 rfl ?_
    refine V_aload (x := x2) dX8_presentIn_23 rfl ?_
    refine V_getIT (LE3 fd_X8_presentIn_88_X1 fd_X8_presentIn_88_X2 fd_X8_presentIn_88_X6) dX8_presentIn_25 (fun x3 => ?_)
    refine V_callS0 (As := [.int x3]) (st0 := [.int v1]) (stI := [.int x3, .int v1]) (t_X8_asNumber x3 σ) rfl (Nat.le_of_ble_eq_true rfl) rfl (fun s args hts => va_cwS 1 hts gX8_presentIn_X8_asNumber rfl rfl rfl (by decide +kernel) ⟨Nat.le_of_ble_eq_true rfl, Nat.le_of_ble_eq_true rfl⟩) rfl rfl dX8_presentIn_28 (fun r4 σ5 _ => ?_)
    refine V_iadd (x := v1) (y := r4) dX8_presentIn_31 ?_
    refine V_istore_n (x := (v1 + r4)) (ls' := [none, some (.int (v1 + r4)), some (va_rf v2), some (.int v3), some (.int v4), some (va_rf x2)]) dX8_presentIn_32 (by decide) rfl ?_
    refine V_iinc (x := v4) (v := (v4 + 1)) (ls' := [none, some (.int (v1 + r4)), some (va_rf v2), some (.int v3), some (.int (v4 + 1)), some (va_rf x2)]) dX8_presentIn_33 rfl rfl (by decide) rfl ?_
    refine V_goto (tgt := 10) dX8_presentIn_36 (by decide) ?_
    exact V_sub (LE.s (LE.s (LE.s (LE.s (LE.s (LE.n LE.e)))))) (hrec10 ((v1 + r4)) v2 v3 ((v4 + 1)) σ5)
theorem v_X8_presentIn_L10 {D : DG} {z0 : Nat} {l : Launch} : ∀ (n : Nat) (v1 : Int32) (v2 : Option Nat) (v3 : Int32) (v4 : Int32) (σ : SG), V D z0 l RX8 cX8_presentIn 6 wsX8_presentIn (some .int) rmX8_presentIn false tvI 10 [none, some (.int v1), some (va_rf v2), some (.int v3), some (.int v4), none] [] σ 0 0 (m_X8_presentIn_L10 n v1 v2 v3 v4 σ) := by
  intro n
  induction n with
  | zero => intros; exact V_none
  | succ n ih => exact v_X8_presentIn_B10  ih
set_option maxRecDepth 100000 in
set_option maxHeartbeats 4000000 in
theorem v_X8_presentIn {D : DG} {z0 : Nat} {l : Launch} : ∀ (a0 : Option Nat) (σ : SG), V D z0 l RX8 cX8_presentIn 6 wsX8_presentIn (some .int) rmX8_presentIn false tvI 0 [some (va_rf a0), none, none, none, none, none] [] σ 0 0 (m_X8_presentIn a0 σ) := by
  intro a0 σ
  unfold m_X8_presentIn
  refine V_iconst (v := (0 : Int32)) dX8_presentIn_0 rfl ?_
  refine V_istore_n (x := (0 : Int32)) (ls' := [some (va_rf a0), some (.int (0 : Int32)), none, none, none, none]) dX8_presentIn_1 (by decide) rfl ?_
  refine V_aload_n (x := a0) dX8_presentIn_2 rfl ?_
  refine V_astore_n (x := a0) (ls' := [some (va_rf a0), some (.int (0 : Int32)), some (va_rf a0), none, none, none]) dX8_presentIn_3 (by decide) rfl ?_
  refine V_aload_n (x := a0) dX8_presentIn_4 rfl ?_
  refine V_alen dX8_presentIn_5 (fun x6 => ?_)
  refine V_istore_n (x := x6) (ls' := [some (va_rf a0), some (.int (0 : Int32)), some (va_rf a0), some (.int x6), none, none]) dX8_presentIn_6 (by decide) rfl ?_
  refine V_iconst (v := (0 : Int32)) dX8_presentIn_7 rfl ?_
  refine V_istore (x := (0 : Int32)) (ls' := [some (va_rf a0), some (.int (0 : Int32)), some (va_rf a0), some (.int x6), some (.int (0 : Int32)), none]) dX8_presentIn_8 (by decide) rfl ?_
  exact V_sub (LE.n (LE.s (LE.s (LE.s (LE.s (LE.s LE.e)))))) (v_X8_presentIn_L10  1000 ((0 : Int32)) a0 x6 ((0 : Int32)) σ)
theorem t_X8_presentIn {D : DG} {z0 : Nat} {l : Launch} (a0 : Option Nat) (σ : SG) : MT D z0 l yX8_presentIn wsX8_presentIn rmX8_presentIn tvI [va_rf a0] σ (m_X8_presentIn a0 σ) :=
  MT.of (own := RX8) (cc := cX8_presentIn) (nL := 6) (ret := (some .int)) (ct := false) (by decide) rfl rfl (fun h => by cases h) (Nat.le_of_ble_eq_true rfl) (by intro v hv; simp only [List.mem_cons, List.not_mem_nil, or_false] at hv; first | (rcases hv with rfl <;> first | rfl | exact va_rf_cat _) | exact absurd hv (fun h => h)) (v_X8_presentIn a0 σ)
theorem in_X8_count_X8 : ∀ w ∈ u_ws RX8 TX8 6, w ∈ wsX8_count := by decide +kernel
theorem wd_X8_count_1 : Cond.fieldLink RX8 10 "MainsWords" "now" "LMainsWords$Net;" ∈ wsX8_count := by decide +kernel
theorem fd_X8_count_10_X8 : FD RX8 10 wsX8_count 7 0 := ⟨RX8, "MainsWords", TX8, 6, rfl, in_X8_count_X8, by decide, wd_X8_count_1, Or.inl rfl⟩
theorem in_X8_count_X3 : ∀ w ∈ u_ws RX3 TX3 8, w ∈ wsX8_count := by decide +kernel
theorem wd_X8_count_4 : Cond.fieldLink RX8 167 "MainsWords$Net" "time" "I" ∈ wsX8_count := by decide +kernel
theorem fd_X8_count_167_X3 : FD RX8 167 wsX8_count 3 6 := ⟨RX3, "MainsWords$Net", TX3, 8, rfl, in_X8_count_X3, by decide, wd_X8_count_4, Or.inl rfl⟩
theorem wd_X8_count_6 : Cond.fieldLink RX8 254 "MainsWords$Net" "senders" "[LMainsWords$Sender;" ∈ wsX8_count := by decide +kernel
theorem fd_X8_count_254_X3 : FD RX8 254 wsX8_count 3 0 := ⟨RX3, "MainsWords$Net", TX3, 8, rfl, in_X8_count_X3, by decide, wd_X8_count_6, Or.inl rfl⟩
theorem wd_X8_count_8 : Cond.fieldLink RX8 262 "MainsWords$Net" "machines" "[LMainsWords$Machine;" ∈ wsX8_count := by decide +kernel
theorem fd_X8_count_262_X3 : FD RX8 262 wsX8_count 3 1 := ⟨RX3, "MainsWords$Net", TX3, 8, rfl, in_X8_count_X3, by decide, wd_X8_count_8, Or.inl rfl⟩
theorem wd_X8_count_10 : Cond.fieldLink RX8 266 "MainsWords$Net" "lamps" "[LMainsWords$Lamp;" ∈ wsX8_count := by decide +kernel
theorem fd_X8_count_266_X3 : FD RX8 266 wsX8_count 3 2 := ⟨RX3, "MainsWords$Net", TX3, 8, rfl, in_X8_count_X3, by decide, wd_X8_count_10, Or.inl rfl⟩
theorem wd_X8_count_12 : Cond.fieldLink RX8 121 "MainsWords$Net" "settings" "[I" ∈ wsX8_count := by decide +kernel
theorem fd_X8_count_121_X3 : FD RX8 121 wsX8_count 3 4 := ⟨RX3, "MainsWords$Net", TX3, 8, rfl, in_X8_count_X3, by decide, wd_X8_count_12, Or.inl rfl⟩
theorem wd_X8_count_14 : Cond.fieldLink RX8 29 "MainsWords" "history" "LMainsWords$History;" ∈ wsX8_count := by decide +kernel
theorem fd_X8_count_29_X8 : FD RX8 29 wsX8_count 7 4 := ⟨RX8, "MainsWords", TX8, 6, rfl, in_X8_count_X8, by decide, wd_X8_count_14, Or.inl rfl⟩
theorem in_X8_count_X0 : ∀ w ∈ u_ws RX0 TX0 2, w ∈ wsX8_count := by decide +kernel
theorem wd_X8_count_17 : Cond.fieldLink RX8 161 "MainsWords$History" "kept" "I" ∈ wsX8_count := by decide +kernel
theorem fd_X8_count_161_X0 : FD RX8 161 wsX8_count 0 1 := ⟨RX0, "MainsWords$History", TX0, 2, rfl, in_X8_count_X0, by decide, wd_X8_count_17, Or.inl rfl⟩
theorem wd_X8_count_19 : Cond.fieldLink RX8 36 "MainsWords" "script" "LMainsWords$Script;" ∈ wsX8_count := by decide +kernel
theorem fd_X8_count_36_X8 : FD RX8 36 wsX8_count 7 5 := ⟨RX8, "MainsWords", TX8, 6, rfl, in_X8_count_X8, by decide, wd_X8_count_19, Or.inl rfl⟩
theorem in_X8_count_X5 : ∀ w ∈ u_ws RX5 TX5 2, w ∈ wsX8_count := by decide +kernel
theorem wd_X8_count_22 : Cond.fieldLink RX8 136 "MainsWords$Script" "length" "I" ∈ wsX8_count := by decide +kernel
theorem fd_X8_count_136_X5 : FD RX8 136 wsX8_count 5 1 := ⟨RX5, "MainsWords$Script", TX5, 2, rfl, in_X8_count_X5, by decide, wd_X8_count_22, Or.inl rfl⟩
set_option maxRecDepth 100000 in
set_option maxHeartbeats 4000000 in
theorem v_X8_count {D : DG} {z0 : Nat} {l : Launch} : ∀ (a0 : Option Nat) (a1 : Int32) (σ : SG), V D z0 l RX8 cX8_count 2 wsX8_count (some .int) rmX8_count false tvI 0 [some (va_rf a0), some (.int a1)] [] σ 0 0 (m_X8_count a0 a1 σ) := by
  intro a0 a1 σ
  unfold m_X8_count
  refine V_iload_n (x := a1) dX8_count_0 rfl ?_
  refine V_table (x := a1) (tb := [(0, 68), (1, 76), (2, 87), (3, 98), (4, 109), (5, 117), (6, 125), (7, 133), (8, 143), (9, 153), (10, 163), (11, 173), (12, 181)]) (tgt := 189) dX8_count_1 (by decide) rfl (by decide) (List.forall_mem_cons.mpr ⟨?_, List.forall_mem_cons.mpr ⟨?_, List.forall_mem_cons.mpr ⟨?_, List.forall_mem_cons.mpr ⟨?_, List.forall_mem_cons.mpr ⟨?_, List.forall_mem_cons.mpr ⟨?_, List.forall_mem_cons.mpr ⟨?_, List.forall_mem_cons.mpr ⟨?_, List.forall_mem_cons.mpr ⟨?_, List.forall_mem_cons.mpr ⟨?_, List.forall_mem_cons.mpr ⟨?_, List.forall_mem_cons.mpr ⟨?_, List.forall_mem_cons.mpr ⟨?_, fun _ h => absurd h List.not_mem_nil⟩⟩⟩⟩⟩⟩⟩⟩⟩⟩⟩⟩⟩) ?_
  · dsimp only
    refine V_aload_n (x := a0) dX8_count_68 rfl ?_
    refine V_getR fd_X8_count_10_X8 dX8_count_69 (fun x1 => ?_)
    refine V_getI fd_X8_count_167_X3 dX8_count_72 (fun x2 => ?_)
    exact V_iret (fun _ => rfl) rfl (Nat.zero_le _) (Nat.zero_le _) dX8_count_75
  · dsimp only
    refine V_aload_n (x := a0) dX8_count_76 rfl ?_
    refine V_getR fd_X8_count_10_X8 dX8_count_77 (fun x3 => ?_)
    refine V_getR fd_X8_count_254_X3 dX8_count_80 (fun x4 => ?_)
    refine V_callS0 (As := [va_rf x4]) (st0 := []) (stI := [va_rf x4]) (t_X8_presentIn x4 σ) rfl (Nat.le_of_ble_eq_true rfl) rfl (fun s args hts => va_cwS 1 hts gX8_count_X8_presentIn rfl rfl rfl (by decide +kernel) ⟨Nat.le_of_ble_eq_true rfl, Nat.le_of_ble_eq_true rfl⟩) rfl rfl dX8_count_83 (fun r5 σ6 _ => ?_)
    exact V_iret (fun _ => rfl) rfl (Nat.zero_le _) (Nat.zero_le _) dX8_count_86
  · dsimp only
    refine V_aload_n (x := a0) dX8_count_87 rfl ?_
    refine V_getR fd_X8_count_10_X8 dX8_count_88 (fun x7 => ?_)
    refine V_getR fd_X8_count_262_X3 dX8_count_91 (fun x8 => ?_)
    refine V_callS0 (As := [va_rf x8]) (st0 := []) (stI := [va_rf x8]) (t_X8_presentIn x8 σ) rfl (Nat.le_of_ble_eq_true rfl) rfl (fun s args hts => va_cwS 1 hts gX8_count_X8_presentIn rfl rfl rfl (by decide +kernel) ⟨Nat.le_of_ble_eq_true rfl, Nat.le_of_ble_eq_true rfl⟩) rfl rfl dX8_count_94 (fun r9 σ10 _ => ?_)
    exact V_iret (fun _ => rfl) rfl (Nat.zero_le _) (Nat.zero_le _) dX8_count_97
  · dsimp only
    refine V_aload_n (x := a0) dX8_count_98 rfl ?_
    refine V_getR fd_X8_count_10_X8 dX8_count_99 (fun x11 => ?_)
    refine V_getR fd_X8_count_266_X3 dX8_count_102 (fun x12 => ?_)
    refine V_callS0 (As := [va_rf x12]) (st0 := []) (stI := [va_rf x12]) (t_X8_presentIn x12 σ) rfl (Nat.le_of_ble_eq_true rfl) rfl (fun s args hts => va_cwS 1 hts gX8_count_X8_presentIn rfl rfl rfl (by decide +kernel) ⟨Nat.le_of_ble_eq_true rfl, Nat.le_of_ble_eq_true rfl⟩) rfl rfl dX8_count_105 (fun r13 σ14 _ => ?_)
    exact V_iret (fun _ => rfl) rfl (Nat.zero_le _) (Nat.zero_le _) dX8_count_108
  · dsimp only
    refine V_aload_n (x := a0) dX8_count_109 rfl ?_
    refine V_getR fd_X8_count_10_X8 dX8_count_110 (fun x15 => ?_)
    refine V_callV0 (As := []) (st0 := []) (stI := [va_rf x15]) (fun _ h => by cases h; exact t_X3_speakingSenders _ σ) (q := (RX3, TX3, 8)) rfl rfl rfl (Nat.le_of_ble_eq_true rfl) rfl (fun s args hts => cwV 0 hts gX8_count_X3_speakingSenders rfl rfl rfl (by decide +kernel) ⟨Nat.le_of_ble_eq_true rfl, Nat.le_of_ble_eq_true rfl⟩) rfl rfl dX8_count_113 (fun r16 σ17 _ => ?_)
    exact V_iret (fun _ => rfl) rfl (Nat.zero_le _) (Nat.zero_le _) dX8_count_116
  · dsimp only
    refine V_aload_n (x := a0) dX8_count_117 rfl ?_
    refine V_getR fd_X8_count_10_X8 dX8_count_118 (fun x18 => ?_)
    refine V_callV0 (As := []) (st0 := []) (stI := [va_rf x18]) (fun _ h => by cases h; exact t_X3_queuedWords _ σ) (q := (RX3, TX3, 8)) rfl rfl rfl (Nat.le_of_ble_eq_true rfl) rfl (fun s args hts => cwV 0 hts gX8_count_X3_queuedWords rfl rfl rfl (by decide +kernel) ⟨Nat.le_of_ble_eq_true rfl, Nat.le_of_ble_eq_true rfl⟩) rfl rfl dX8_count_121 (fun r19 σ20 _ => ?_)
    exact V_iret (fun _ => rfl) rfl (Nat.zero_le _) (Nat.zero_le _) dX8_count_124
  · dsimp only
    refine V_aload_n (x := a0) dX8_count_125 rfl ?_
    refine V_getR fd_X8_count_10_X8 dX8_count_126 (fun x21 => ?_)
    refine V_callV0 (As := []) (st0 := []) (stI := [va_rf x21]) (fun _ h => by cases h; exact t_X3_litLamps _ σ) (q := (RX3, TX3, 8)) rfl rfl rfl (Nat.le_of_ble_eq_true rfl) rfl (fun s args hts => cwV 0 hts gX8_count_X3_litLamps rfl rfl rfl (by decide +kernel) ⟨Nat.le_of_ble_eq_true rfl, Nat.le_of_ble_eq_true rfl⟩) rfl rfl dX8_count_129 (fun r22 σ23 _ => ?_)
    exact V_iret (fun _ => rfl) rfl (Nat.zero_le _) (Nat.zero_le _) dX8_count_132
  · dsimp only
    refine V_aload_n (x := a0) dX8_count_133 rfl ?_
    refine V_getR fd_X8_count_10_X8 dX8_count_134 (fun x24 => ?_)
    refine V_getR fd_X8_count_121_X3 dX8_count_137 (fun x25 => ?_)
    refine V_iconst (v := (0 : Int32)) dX8_count_140 rfl ?_
    refine V_iaload dX8_count_141 (fun x26 => ?_)
    exact V_iret (fun _ => rfl) rfl (Nat.zero_le _) (Nat.zero_le _) dX8_count_142
  · dsimp only
    refine V_aload_n (x := a0) dX8_count_143 rfl ?_
    refine V_getR fd_X8_count_10_X8 dX8_count_144 (fun x27 => ?_)
    refine V_getR fd_X8_count_121_X3 dX8_count_147 (fun x28 => ?_)
    refine V_iconst (v := (1 : Int32)) dX8_count_150 rfl ?_
    refine V_iaload dX8_count_151 (fun x29 => ?_)
    exact V_iret (fun _ => rfl) rfl (Nat.zero_le _) (Nat.zero_le _) dX8_count_152
  · dsimp only
    refine V_aload_n (x := a0) dX8_count_153 rfl ?_
    refine V_getR fd_X8_count_10_X8 dX8_count_154 (fun x30 => ?_)
    refine V_getR fd_X8_count_121_X3 dX8_count_157 (fun x31 => ?_)
    refine V_iconst (v := (2 : Int32)) dX8_count_160 rfl ?_
    refine V_iaload dX8_count_161 (fun x32 => ?_)
    exact V_iret (fun _ => rfl) rfl (Nat.zero_le _) (Nat.zero_le _) dX8_count_162
  · dsimp only
    refine V_aload_n (x := a0) dX8_count_163 rfl ?_
    refine V_getR fd_X8_count_10_X8 dX8_count_164 (fun x33 => ?_)
    refine V_getR fd_X8_count_121_X3 dX8_count_167 (fun x34 => ?_)
    refine V_iconst (v := (3 : Int32)) dX8_count_170 rfl ?_
    refine V_iaload dX8_count_171 (fun x35 => ?_)
    exact V_iret (fun _ => rfl) rfl (Nat.zero_le _) (Nat.zero_le _) dX8_count_172
  · dsimp only
    refine V_aload_n (x := a0) dX8_count_173 rfl ?_
    refine V_getR fd_X8_count_29_X8 dX8_count_174 (fun x36 => ?_)
    refine V_getI fd_X8_count_161_X0 dX8_count_177 (fun x37 => ?_)
    exact V_iret (fun _ => rfl) rfl (Nat.zero_le _) (Nat.zero_le _) dX8_count_180
  · dsimp only
    refine V_aload_n (x := a0) dX8_count_181 rfl ?_
    refine V_getR fd_X8_count_36_X8 dX8_count_182 (fun x38 => ?_)
    refine V_getI fd_X8_count_136_X5 dX8_count_185 (fun x39 => ?_)
    exact V_iret (fun _ => rfl) rfl (Nat.zero_le _) (Nat.zero_le _) dX8_count_188
  · refine V_bipush (v := (-2 : Int32)) dX8_count_189 rfl ?_
    exact V_iret (fun _ => rfl) rfl (Nat.zero_le _) (Nat.zero_le _) dX8_count_191
theorem t_X8_count {D : DG} {z0 : Nat} {l : Launch} (a : Nat) (a1 : Int32) (σ : SG) : MT D z0 l yX8_count wsX8_count rmX8_count tvI [.ref a, .int a1] σ (m_X8_count (some a) a1 σ) :=
  MT.of (own := RX8) (cc := cX8_count) (nL := 2) (ret := (some .int)) (ct := false) (by decide) rfl rfl (fun h => by cases h) (Nat.le_of_ble_eq_true rfl) (by intro v hv; simp only [List.mem_cons, List.not_mem_nil, or_false] at hv; first | (rcases hv with rfl | rfl <;> first | rfl | exact va_rf_cat _) | exact absurd hv (fun h => h)) (v_X8_count (some a) a1 σ)
theorem in_X8_total_X8 : ∀ w ∈ u_ws RX8 TX8 6, w ∈ wsX8_total := by decide +kernel
theorem wd_X8_total_1 : Cond.fieldLink RX8 10 "MainsWords" "now" "LMainsWords$Net;" ∈ wsX8_total := by decide +kernel
theorem fd_X8_total_10_X8 : FD RX8 10 wsX8_total 7 0 := ⟨RX8, "MainsWords", TX8, 6, rfl, in_X8_total_X8, by decide, wd_X8_total_1, Or.inl rfl⟩
theorem in_X8_total_X3 : ∀ w ∈ u_ws RX3 TX3 8, w ∈ wsX8_total := by decide +kernel
theorem wd_X8_total_4 : Cond.fieldLink RX8 279 "MainsWords$Net" "totals" "[I" ∈ wsX8_total := by decide +kernel
theorem fd_X8_total_279_X3 : FD RX8 279 wsX8_total 3 5 := ⟨RX3, "MainsWords$Net", TX3, 8, rfl, in_X8_total_X3, by decide, wd_X8_total_4, Or.inl rfl⟩
set_option maxRecDepth 100000 in
set_option maxHeartbeats 4000000 in
theorem v_X8_total {D : DG} {z0 : Nat} {l : Launch} : ∀ (a0 : Option Nat) (a1 : Int32) (σ : SG), V D z0 l RX8 cX8_total 2 wsX8_total (some .int) rmX8_total false tvI 0 [some (va_rf a0), some (.int a1)] [] σ 0 0 (m_X8_total a0 a1 σ) := by
  intro a0 a1 σ
  unfold m_X8_total
  refine V_iload_n (x := a1) dX8_total_0 rfl ?_
  refine V_if_lt (tgt := 9) (x := a1) dX8_total_1 (by decide) (fun hc1 => ?_) (fun hc1 => ?_)
  · refine V_bipush (v := (-2 : Int32)) dX8_total_9 rfl ?_
    exact V_iret (fun _ => rfl) rfl (Nat.zero_le _) (Nat.zero_le _) dX8_total_11
  · refine V_iload_n (x := a1) dX8_total_4 rfl ?_
    refine V_iconst (v := (5 : Int32)) dX8_total_5 rfl ?_
    refine V_icmp_lt (tgt := 12) (x := a1) (y := (5 : Int32)) dX8_total_6 (by decide) (fun hc2 => ?_) (fun hc2 => ?_)
    · refine V_aload_n (x := a0) dX8_total_12 rfl ?_
      refine V_getR fd_X8_total_10_X8 dX8_total_13 (fun x3 => ?_)
      refine V_getR fd_X8_total_279_X3 dX8_total_16 (fun x4 => ?_)
      refine V_iload_n (x := a1) dX8_total_19 rfl ?_
      refine V_iaload dX8_total_20 (fun x5 => ?_)
      exact V_iret (fun _ => rfl) rfl (Nat.zero_le _) (Nat.zero_le _) dX8_total_21
    · refine V_bipush (v := (-2 : Int32)) dX8_total_9 rfl ?_
      exact V_iret (fun _ => rfl) rfl (Nat.zero_le _) (Nat.zero_le _) dX8_total_11
theorem t_X8_total {D : DG} {z0 : Nat} {l : Launch} (a : Nat) (a1 : Int32) (σ : SG) : MT D z0 l yX8_total wsX8_total rmX8_total tvI [.ref a, .int a1] σ (m_X8_total (some a) a1 σ) :=
  MT.of (own := RX8) (cc := cX8_total) (nL := 2) (ret := (some .int)) (ct := false) (by decide) rfl rfl (fun h => by cases h) (Nat.le_of_ble_eq_true rfl) (by intro v hv; simp only [List.mem_cons, List.not_mem_nil, or_false] at hv; first | (rcases hv with rfl | rfl <;> first | rfl | exact va_rf_cat _) | exact absurd hv (fun h => h)) (v_X8_total (some a) a1 σ)
