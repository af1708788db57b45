theorem in_X3_takeBits_X3 : ∀ w ∈ u_ws RX3 TX3 8, w ∈ wsX3_takeBits := by decide +kernel
theorem wd_X3_takeBits_1 : Cond.fieldLink RX3 31 "MainsWords$Net" "receivers" "[LMainsWords$Receiver;" ∈ wsX3_takeBits := by decide +kernel
theorem fd_X3_takeBits_31_X3 : FD RX3 31 wsX3_takeBits 3 3 := ⟨RX3, "MainsWords$Net", TX3, 8, rfl, in_X3_takeBits_X3, by decide, wd_X3_takeBits_1, Or.inl rfl⟩
theorem wd_X3_takeBits_3 : Cond.initialized RX8 ∈ wsX3_takeBits := by decide +kernel
theorem wd_X3_takeBits_4 : Cond.static yX8_asNumber ∈ wsX3_takeBits := by decide +kernel
theorem wd_X3_takeBits_5 : Cond.fieldLink RX3 39 "MainsWords$Net" "totals" "[I" ∈ wsX3_takeBits := by decide +kernel
theorem fd_X3_takeBits_39_X3 : FD RX3 39 wsX3_takeBits 3 5 := ⟨RX3, "MainsWords$Net", TX3, 8, rfl, in_X3_takeBits_X3, by decide, wd_X3_takeBits_5, Or.inl rfl⟩
set_option maxRecDepth 100000 in
set_option maxHeartbeats 4000000 in
theorem v_X3_takeBits_b70 {D : DG} {z0 : Nat} {l : Launch} {rec4 : Option Nat → Int32 → Int32 → SG → Option (Int32 × SG)} (hrec4 : ∀ (v0 : Option Nat) (v1 : Int32) (v2 : Int32) (σ : SG), V D z0 l RX3 cX3_takeBits 4 wsX3_takeBits (some .int) rmX3_takeBits false tvI 4 [some (va_rf v0), some (.int v1), some (.int v2), none] [] σ 0 0 (rec4 v0 v1 v2 σ)) : ∀ (v0 : Option Nat) (v1 : Int32) (v2 : Int32) (σ : SG), V D z0 l RX3 cX3_takeBits 4 wsX3_takeBits (some .int) rmX3_takeBits false tvI 70 [some (va_rf v0), some (.int v1), some (.int v2), none] [] σ 0 0 (m_X3_takeBits_b70 rec4 v0 v1 v2 σ) := by
  intro v0 v1 v2 σ
  unfold m_X3_takeBits_b70
  refine V_iinc (x := v2) (v := (v2 + 1)) (ls' := [some (va_rf v0), some (.int v1), some (.int (v2 + 1)), none]) dX3_takeBits_70 rfl rfl (by decide) rfl ?_
  refine V_goto (tgt := 4) dX3_takeBits_73 (by decide) ?_
  exact hrec4 v0 v1 ((v2 + 1)) σ
set_option maxRecDepth 100000 in
set_option maxHeartbeats 4000000 in
theorem v_X3_takeBits_B4 {D : DG} {z0 : Nat} {l : Launch} {rec4 : Option Nat → Int32 → Int32 → SG → Option (Int32 × SG)} (hrec4 : ∀ (v0 : Option Nat) (v1 : Int32) (v2 : Int32) (σ : SG), V D z0 l RX3 cX3_takeBits 4 wsX3_takeBits (some .int) rmX3_takeBits false tvI 4 [some (va_rf v0), some (.int v1), some (.int v2), none] [] σ 0 0 (rec4 v0 v1 v2 σ)) : ∀ (v0 : Option Nat) (v1 : Int32) (v2 : Int32) (σ : SG), V D z0 l RX3 cX3_takeBits 4 wsX3_takeBits (some .int) rmX3_takeBits false tvI 4 [some (va_rf v0), some (.int v1), some (.int v2), none] [] σ 0 0 (m_X3_takeBits_B4 rec4 v0 v1 v2 σ) := by
  intro v0 v1 v2 σ
  unfold m_X3_takeBits_B4
  refine V_iload_n (x := v2) dX3_takeBits_4 rfl ?_
  refine V_aload_n (x := v0) dX3_takeBits_5 rfl ?_
  refine V_getR fd_X3_takeBits_31_X3 dX3_takeBits_6 (fun x1 => ?_)
  refine V_alen dX3_takeBits_9 (fun x2 => ?_)
  refine V_icmp_ge (tgt := 76) (x := v2) (y := x2) dX3_takeBits_10 (by decide) (fun hc3 => ?_) (fun hc3 => ?_)
  · refine V_iload_n (x := v1) dX3_takeBits_76 rfl ?_
    exact V_iret (fun _ => rfl) rfl (Nat.zero_le _) (Nat.zero_le _) dX3_takeBits_77
  · refine V_aload_n (x := v0) dX3_takeBits_13 rfl ?_
    refine V_getR fd_X3_takeBits_31_X3 dX3_takeBits_14 (fun x4 => ?_)
    refine V_iload_n (x := v2) dX3_takeBits_17 rfl ?_
    refine V_aaload dX3_takeBits_18 (fun x5 => ?_)
    refine V_aload_n (x := v0) dX3_takeBits_19 rfl ?_
    refine V_iload_n (x := v2) dX3_takeBits_20 rfl ?_
    refine V_callV0 (As := [.int v2]) (st0 := [va_rf x5]) (stI := [.int v2, va_rf v0, va_rf x5]) (fun _ h => by cases h; exact t_X3_isHeardOn _ v2 σ) (q := (RX3, TX3, 8)) rfl rfl rfl (by simp only [List.map_cons, List.map_nil, List.sum_cons, List.sum_nil, va_rf_cat, catI, catF]; decide) rfl (fun s args hts => cwV 1 hts gX3_takeBits_X3_isHeardOn rfl rfl rfl (by decide +kernel) ⟨Nat.le_of_ble_eq_true rfl, Nat.le_of_ble_eq_true rfl⟩) rfl rfl dX3_takeBits_21 (fun r6 σ7 _ => ?_)
    refine V_callSN0 (host := "MainsWords") (As := [.int r6]) (st0 := [va_rf x5]) (stI := [.int r6, va_rf x5]) (t_X8_asNumber r6 σ7) rfl (by simp only [List.map_cons, List.map_nil, List.sum_cons, List.sum_nil, va_rf_cat, catI, catF]; decide) rfl (by decide +kernel) (fun s args hts hnw => ⟨va_cnB 1 hts gX3_takeBits_X8_asNumber_n85 rfl rfl rfl hnw (hts _ wd_X3_takeBits_3) (by decide +kernel) ⟨Nat.le_of_ble_eq_true rfl, Nat.le_of_ble_eq_true rfl⟩, hts _ wd_X3_takeBits_4, trivial⟩) rfl rfl dX3_takeBits_24 (fun r8 σ9 _ => ?_)
    refine V_callV0 (As := [.int r8]) (st0 := []) (stI := [.int r8, va_rf x5]) (fun _ h => by cases h; exact t_X4_take _ r8 σ9) (q := (RX4, TX4, 7)) rfl rfl rfl (Nat.le_of_ble_eq_true rfl) rfl (fun s args hts => cwV 1 hts gX3_takeBits_X4_take rfl rfl rfl (by decide +kernel) ⟨Nat.le_of_ble_eq_true rfl, Nat.le_of_ble_eq_true rfl⟩) rfl rfl dX3_takeBits_27 (fun r10 σ11 _ => ?_)
    refine V_istore_n (x := r10) (ls' := [some (va_rf v0), some (.int v1), some (.int v2), some (.int r10)]) dX3_takeBits_30 (by decide) rfl ?_
    refine V_iload_n (x := r10) dX3_takeBits_31 rfl ?_
    refine V_bipush (v := (-2 : Int32)) dX3_takeBits_32 rfl ?_
    refine V_icmp_ne (tgt := 50) (x := r10) (y := (-2 : Int32)) dX3_takeBits_34 (by decide) (fun hc12 => ?_) (fun hc12 => ?_)
    · refine V_aload_n (x := v0) dX3_takeBits_37 rfl ?_
      refine V_getR fd_X3_takeBits_39_X3 dX3_takeBits_38 (fun x13 => ?_)
      refine V_iconst (v := (4 : Int32)) dX3_takeBits_41 rfl ?_
      refine V_dup2 dX3_takeBits_42 rfl (va_rf_cat _) ?_
      refine V_iaload dX3_takeBits_43 (fun x14 => ?_)
      refine V_iconst (v := (1 : Int32)) dX3_takeBits_44 rfl ?_
      refine V_iadd (x := x14) (y := (1 : Int32)) dX3_takeBits_45 ?_
      refine V_iastore dX3_takeBits_46 (fun σ15 hσ15 => ?_)
      refine V_goto (tgt := 70) dX3_takeBits_47 (by decide) ?_
      exact V_sub (LE.s (LE.s (LE.s (LE.n LE.e)))) (v_X3_takeBits_b70 hrec4 v0 v1 v2 σ15)
    · refine V_iload_n (x := r10) dX3_takeBits_50 rfl ?_
      refine V_iconst (v := (-1 : Int32)) dX3_takeBits_51 rfl ?_
      refine V_icmp_eq (tgt := 70) (x := r10) (y := (-1 : Int32)) dX3_takeBits_52 (by decide) (fun hc16 => ?_) (fun hc16 => ?_)
      · exact V_sub (LE.s (LE.s (LE.s (LE.n LE.e)))) (v_X3_takeBits_b70 hrec4 v0 v1 v2 σ11)
      · refine V_iload_n (x := v1) dX3_takeBits_55 rfl ?_
        refine V_aload_n (x := v0) dX3_takeBits_56 rfl ?_
        refine V_iload_n (x := v2) dX3_takeBits_57 rfl ?_
        refine V_aload_n (x := v0) dX3_takeBits_58 rfl ?_
        refine V_getR fd_X3_takeBits_31_X3 dX3_takeBits_59 (fun x17 => ?_)
        refine V_iload_n (x := v2) dX3_takeBits_62 rfl ?_
        refine V_aaload dX3_takeBits_63 (fun x18 => ?_)
        refine V_iload_n (x := r10) dX3_takeBits_64 rfl ?_
        refine V_callV0 (As := [.int v2, va_rf x18, .int r10]) (st0 := [.int v1]) (stI := [.int r10, va_rf x18, .int v2, va_rf v0, .int v1]) (fun _ h => by cases h; exact t_X3_hearWord _ v2 x18 r10 σ11) (q := (RX3, TX3, 8)) rfl rfl rfl (Nat.le_of_ble_eq_true rfl) rfl (fun s args hts => cwV 3 hts gX3_takeBits_X3_hearWord rfl rfl rfl (by decide +kernel) ⟨Nat.le_of_ble_eq_true rfl, Nat.le_of_ble_eq_true rfl⟩) rfl rfl dX3_takeBits_65 (fun r19 σ20 _ => ?_)
        refine V_iadd (x := v1) (y := r19) dX3_takeBits_68 ?_
        refine V_istore_n (x := (v1 + r19)) (ls' := [some (va_rf v0), some (.int (v1 + r19)), some (.int v2), some (.int r10)]) dX3_takeBits_69 (by decide) rfl ?_
        exact V_sub (LE.s (LE.s (LE.s (LE.n LE.e)))) (v_X3_takeBits_b70 hrec4 v0 ((v1 + r19)) v2 σ20)
theorem v_X3_takeBits_L4 {D : DG} {z0 : Nat} {l : Launch} : ∀ (n : Nat) (v0 : Option Nat) (v1 : Int32) (v2 : Int32) (σ : SG), V D z0 l RX3 cX3_takeBits 4 wsX3_takeBits (some .int) rmX3_takeBits false tvI 4 [some (va_rf v0), some (.int v1), some (.int v2), none] [] σ 0 0 (m_X3_takeBits_L4 n v0 v1 v2 σ) := by
  intro n
  induction n with
  | zero => intros; exact V_none
  | succ n ih => exact v_X3_takeBits_B4  ih
set_option maxRecDepth 100000 in
set_option maxHeartbeats 4000000 in
theorem v_X3_takeBits {D : DG} {z0 : Nat} {l : Launch} : ∀ (a0 : Option Nat) (σ : SG), V D z0 l RX3 cX3_takeBits 4 wsX3_takeBits (some .int) rmX3_takeBits false tvI 0 [some (va_rf a0), none, none, none] [] σ 0 0 (m_X3_takeBits a0 σ) := by
  intro a0 σ
  unfold m_X3_takeBits
  refine V_iconst (v := (0 : Int32)) dX3_takeBits_0 rfl ?_
  refine V_istore_n (x := (0 : Int32)) (ls' := [some (va_rf a0), some (.int (0 : Int32)), none, none]) dX3_takeBits_1 (by decide) rfl ?_
  refine V_iconst (v := (0 : Int32)) dX3_takeBits_2 rfl ?_
  refine V_istore_n (x := (0 : Int32)) (ls' := [some (va_rf a0), some (.int (0 : Int32)), some (.int (0 : Int32)), none]) dX3_takeBits_3 (by decide) rfl ?_
  exact v_X3_takeBits_L4  1000 a0 ((0 : Int32)) ((0 : Int32)) σ
theorem t_X3_takeBits {D : DG} {z0 : Nat} {l : Launch} (a : Nat)  (σ : SG) : MT D z0 l yX3_takeBits wsX3_takeBits rmX3_takeBits tvI [.ref a] σ (m_X3_takeBits (some a) σ) :=
  MT.of (own := RX3) (cc := cX3_takeBits) (nL := 4) (ret := (some .int)) (ct := false) (by decide) rfl rfl (fun h => by cases h) (Nat.le_of_ble_eq_true rfl) (by intro v hv; simp only [List.mem_cons, List.not_mem_nil, or_false] at hv; first | (rcases hv with rfl <;> first | rfl | exact va_rf_cat _) | exact absurd hv (fun h => h)) (v_X3_takeBits (some a) σ)
theorem in_X3_beat_X3 : ∀ w ∈ u_ws RX3 TX3 8, w ∈ wsX3_beat := by decide +kernel
theorem wd_X3_beat_1 : Cond.fieldLink RX3 42 "MainsWords$Net" "time" "I" ∈ wsX3_beat := by decide +kernel
theorem fd_X3_beat_42_X3 : FD RX3 42 wsX3_beat 3 6 := ⟨RX3, "MainsWords$Net", TX3, 8, rfl, in_X3_beat_X3, by decide, wd_X3_beat_1, Or.inl rfl⟩
theorem fw_X3_beat_X3_6 : FW RX3 wsX3_beat 3 6 .int false := ⟨RX3, TX3, 8, tyX3, rfl, in_X3_beat_X3, tyX3_ok, nmX3, rfl, (fun h => by cases h), rfl⟩
set_option maxRecDepth 100000 in
set_option maxHeartbeats 4000000 in
theorem v_X3_beat {D : DG} {z0 : Nat} {l : Launch} : ∀ (a0 : Option Nat) (σ : SG), V D z0 l RX3 cX3_beat 2 wsX3_beat (some .int) rmX3_beat false tvI 0 [some (va_rf a0), none] [] σ 0 0 (m_X3_beat a0 σ) := by
  intro a0 σ
  unfold m_X3_beat
  refine V_aload_n (x := a0) dX3_beat_0 rfl ?_
  refine V_callV0 (As := []) (st0 := []) (stI := [va_rf a0]) (fun _ h => by cases h; exact t_X3_beginSpeaking _ σ) (q := (RX3, TX3, 8)) rfl rfl rfl (Nat.le_of_ble_eq_true rfl) rfl (fun s args hts => cwV 0 hts gX3_beat_X3_beginSpeaking rfl rfl rfl (by decide +kernel) ⟨Nat.le_of_ble_eq_true rfl, Nat.le_of_ble_eq_true rfl⟩) rfl rfl dX3_beat_1 (fun _ σ1 _ => ?_)
  refine V_aload_n (x := a0) dX3_beat_4 rfl ?_
  refine V_callV0 (As := []) (st0 := []) (stI := [va_rf a0]) (fun _ h => by cases h; exact t_X3_carryBits _ σ1) (q := (RX3, TX3, 8)) rfl rfl rfl (Nat.le_of_ble_eq_true rfl) rfl (fun s args hts => cwV 0 hts gX3_beat_X3_carryBits rfl rfl rfl (by decide +kernel) ⟨Nat.le_of_ble_eq_true rfl, Nat.le_of_ble_eq_true rfl⟩) rfl rfl dX3_beat_5 (fun _ σ2 _ => ?_)
  refine V_aload_n (x := a0) dX3_beat_8 rfl ?_
  refine V_callV0 (As := []) (st0 := []) (stI := [va_rf a0]) (fun _ h => by cases h; exact t_X3_moveSenders _ σ2) (q := (RX3, TX3, 8)) rfl rfl rfl (Nat.le_of_ble_eq_true rfl) rfl (fun s args hts => cwV 0 hts gX3_beat_X3_moveSenders rfl rfl rfl (by decide +kernel) ⟨Nat.le_of_ble_eq_true rfl, Nat.le_of_ble_eq_true rfl⟩) rfl rfl dX3_beat_9 (fun _ σ3 _ => ?_)
  refine V_aload_n (x := a0) dX3_beat_12 rfl ?_
  refine V_callV0 (As := []) (st0 := []) (stI := [va_rf a0]) (fun _ h => by cases h; exact t_X3_takeBits _ σ3) (q := (RX3, TX3, 8)) rfl rfl rfl (Nat.le_of_ble_eq_true rfl) rfl (fun s args hts => cwV 0 hts gX3_beat_X3_takeBits rfl rfl rfl (by decide +kernel) ⟨Nat.le_of_ble_eq_true rfl, Nat.le_of_ble_eq_true rfl⟩) rfl rfl dX3_beat_13 (fun r4 σ5 _ => ?_)
  refine V_istore_n (x := r4) (ls' := [some (va_rf a0), some (.int r4)]) dX3_beat_16 (by decide) rfl ?_
  refine V_aload_n (x := a0) dX3_beat_17 rfl ?_
  refine V_dup dX3_beat_18 (va_rf_cat _) ?_
  refine V_getI fd_X3_beat_42_X3 dX3_beat_19 (fun x6 => ?_)
  refine V_iconst (v := (1 : Int32)) dX3_beat_22 rfl ?_
  refine V_iadd (x := x6) (y := (1 : Int32)) dX3_beat_23 ?_
  refine V_putI fd_X3_beat_42_X3 fw_X3_beat_X3_6 (fun h => by cases h) dX3_beat_24 (fun σ7 hσ7 => ?_)
  refine V_iload_n (x := r4) dX3_beat_27 rfl ?_
  exact V_iret (fun _ => rfl) rfl (Nat.zero_le _) (Nat.zero_le _) dX3_beat_28
theorem t_X3_beat {D : DG} {z0 : Nat} {l : Launch} (a : Nat)  (σ : SG) : MT D z0 l yX3_beat wsX3_beat rmX3_beat tvI [.ref a] σ (m_X3_beat (some a) σ) :=
  MT.of (own := RX3) (cc := cX3_beat) (nL := 2) (ret := (some .int)) (ct := false) (by decide) rfl rfl (fun h => by cases h) (Nat.le_of_ble_eq_true rfl) (by intro v hv; simp only [List.mem_cons, List.not_mem_nil, or_false] at hv; first | (rcases hv with rfl <;> first | rfl | exact va_rf_cat _) | exact absurd hv (fun h => h)) (v_X3_beat (some a) σ)
set_option maxRecDepth 100000 in
set_option maxHeartbeats 4000000 in
theorem v_X3_letPass_B4 {D : DG} {z0 : Nat} {l : Launch} {rec4 : Option Nat → Int32 → Int32 → Int32 → SG → Option (Int32 × SG)} (hrec4 : ∀ (v0 : Option Nat) (v1 : Int32) (v2 : Int32) (v3 : Int32) (σ : SG), V D z0 l RX3 cX3_letPass 4 wsX3_letPass (some .int) rmX3_letPass false tvI 4 [some (va_rf v0), some (.int v1), some (.int v2), some (.int v3)] [] σ 0 0 (rec4 v0 v1 v2 v3 σ)) : ∀ (v0 : Option Nat) (v1 : Int32) (v2 : Int32) (v3 : Int32) (σ : SG), V D z0 l RX3 cX3_letPass 4 wsX3_letPass (some .int) rmX3_letPass false tvI 4 [some (va_rf v0), some (.int v1), some (.int v2), some (.int v3)] [] σ 0 0 (m_X3_letPass_B4 rec4 v0 v1 v2 v3 σ) := by
  intro v0 v1 v2 v3 σ
  unfold m_X3_letPass_B4
  refine V_iload_n (x := v3) dX3_letPass_4 rfl ?_
  refine V_iload_n (x := v1) dX3_letPass_5 rfl ?_
  refine V_icmp_ge (tgt := 22) (x := v3) (y := v1) dX3_letPass_6 (by decide) (fun hc1 => ?_) (fun hc1 => ?_)
  · refine V_iload_n (x := v2) dX3_letPass_22 rfl ?_
    exact V_iret (fun _ => rfl) rfl (Nat.zero_le _) (Nat.zero_le _) dX3_letPass_23
  · refine V_iload_n (x := v2) dX3_letPass_9 rfl ?_
    refine V_aload_n (x := v0) dX3_letPass_10 rfl ?_
    refine V_callV0 (As := []) (st0 := [.int v2]) (stI := [va_rf v0, .int v2]) (fun _ h => by cases h; exact t_X3_beat _ σ) (q := (RX3, TX3, 8)) rfl rfl rfl (Nat.le_of_ble_eq_true rfl) rfl (fun s args hts => cwV 0 hts gX3_letPass_X3_beat rfl rfl rfl (by decide +kernel) ⟨Nat.le_of_ble_eq_true rfl, Nat.le_of_ble_eq_true rfl⟩) rfl rfl dX3_letPass_11 (fun r2 σ3 _ => ?_)
    refine V_iadd (x := v2) (y := r2) dX3_letPass_14 ?_
    refine V_istore_n (x := (v2 + r2)) (ls' := [some (va_rf v0), some (.int v1), some (.int (v2 + r2)), some (.int v3)]) dX3_letPass_15 (by decide) rfl ?_
    refine V_iinc (x := v3) (v := (v3 + 1)) (ls' := [some (va_rf v0), some (.int v1), some (.int (v2 + r2)), some (.int (v3 + 1))]) dX3_letPass_16 rfl rfl (by decide) rfl ?_
    refine V_goto (tgt := 4) dX3_letPass_19 (by decide) ?_
    exact hrec4 v0 v1 ((v2 + r2)) ((v3 + 1)) σ3
theorem v_X3_letPass_L4 {D : DG} {z0 : Nat} {l : Launch} : ∀ (n : Nat) (v0 : Option Nat) (v1 : Int32) (v2 : Int32) (v3 : Int32) (σ : SG), V D z0 l RX3 cX3_letPass 4 wsX3_letPass (some .int) rmX3_letPass false tvI 4 [some (va_rf v0), some (.int v1), some (.int v2), some (.int v3)] [] σ 0 0 (m_X3_letPass_L4 n v0 v1 v2 v3 σ) := by
  intro n
  induction n with
  | zero => intros; exact V_none
  | succ n ih => exact v_X3_letPass_B4  ih
set_option maxRecDepth 100000 in
set_option maxHeartbeats 4000000 in
theorem v_X3_letPass {D : DG} {z0 : Nat} {l : Launch} : ∀ (a0 : Option Nat) (a1 : Int32) (σ : SG), V D z0 l RX3 cX3_letPass 4 wsX3_letPass (some .int) rmX3_letPass false tvI 0 [some (va_rf a0), some (.int a1), none, none] [] σ 0 0 (m_X3_letPass a0 a1 σ) := by
  intro a0 a1 σ
  unfold m_X3_letPass
  refine V_iconst (v := (0 : Int32)) dX3_letPass_0 rfl ?_
  refine V_istore_n (x := (0 : Int32)) (ls' := [some (va_rf a0), some (.int a1), some (.int (0 : Int32)), none]) dX3_letPass_1 (by decide) rfl ?_
  refine V_iconst (v := (0 : Int32)) dX3_letPass_2 rfl ?_
  refine V_istore_n (x := (0 : Int32)) (ls' := [some (va_rf a0), some (.int a1), some (.int (0 : Int32)), some (.int (0 : Int32))]) dX3_letPass_3 (by decide) rfl ?_
  exact v_X3_letPass_L4  1000 a0 a1 ((0 : Int32)) ((0 : Int32)) σ
theorem t_X3_letPass {D : DG} {z0 : Nat} {l : Launch} (a : Nat) (a1 : Int32) (σ : SG) : MT D z0 l yX3_letPass wsX3_letPass rmX3_letPass tvI [.ref a, .int a1] σ (m_X3_letPass (some a) a1 σ) :=
  MT.of (own := RX3) (cc := cX3_letPass) (nL := 4) (ret := (some .int)) (ct := false) (by decide) rfl rfl (fun h => by cases h) (Nat.le_of_ble_eq_true rfl) (by intro v hv; simp only [List.mem_cons, List.not_mem_nil, or_false] at hv; first | (rcases hv with rfl | rfl <;> first | rfl | exact va_rf_cat _) | exact absurd hv (fun h => h)) (v_X3_letPass (some a) a1 σ)
theorem wd_X5_init_0 : Cond.methodLink RX5 3 objectInit ∈ wsX5_init := by decide +kernel
theorem wd_X5_init_1 : Cond.instanceMethod objectInit ∈ wsX5_init := by decide +kernel
theorem wd_X5_init_2 : Cond.code objectInit ⟨#[0xb1]⟩ 1 none ∈ wsX5_init := by decide +kernel
theorem wd_X5_init_3 : Cond.arrayClass .int ∈ wsX5_init := by decide +kernel
theorem in_X5_init_X5 : ∀ w ∈ u_ws RX5 TX5 2, w ∈ wsX5_init := by decide +kernel
theorem wd_X5_init_5 : Cond.fieldLink RX5 9 "MainsWords$Script" "signs" "[I" ∈ wsX5_init := by decide +kernel
theorem fd_X5_init_9_X5 : FD RX5 9 wsX5_init 5 0 := ⟨RX5, "MainsWords$Script", TX5, 2, rfl, in_X5_init_X5, by decide, wd_X5_init_5, Or.inl rfl⟩
theorem fw_X5_init_X5_0 : FW RX5 wsX5_init 5 0 (.array .int) true := ⟨RX5, TX5, 2, tyX5, rfl, in_X5_init_X5, tyX5_ok, nmX5, rfl, (fun _ => rfl), rfl⟩
theorem wd_X5_init_8 : Cond.fieldLink RX5 15 "MainsWords$Script" "length" "I" ∈ wsX5_init := by decide +kernel
theorem fd_X5_init_15_X5 : FD RX5 15 wsX5_init 5 1 := ⟨RX5, "MainsWords$Script", TX5, 2, rfl, in_X5_init_X5, by decide, wd_X5_init_8, Or.inl rfl⟩
theorem fw_X5_init_X5_1 : FW RX5 wsX5_init 5 1 .int false := ⟨RX5, TX5, 2, tyX5, rfl, in_X5_init_X5, tyX5_ok, nmX5, rfl, (fun h => by cases h), rfl⟩
set_option maxRecDepth 100000 in
set_option maxHeartbeats 4000000 in
theorem v_X5_init_e {D : DG} {z0 : Nat} {l : Launch} {szE lim : Nat} (hlim : lim = szE + rmX5_init.cells) : ∀ (a0 : Option Nat) (σ : SG) (cells slots : Nat), CB rmX5_init szE σ cells slots → V D z0 l RX5 cX5_init 1 wsX5_init none rmX5_init true tvU 0 [some (va_rf a0)] [] σ cells slots (m_X5_init_e lim a0 σ) := by
  intro a0 σ cells slots hB
  unfold m_X5_init_e
  refine V_aload_n (x := a0) dX5_init_0 rfl ?_
  refine V_objinitN wd_X5_init_0 wd_X5_init_1 wd_X5_init_2 (by decide) (by decide) dX5_init_1 ?_
  refine V_aload_n (x := a0) dX5_init_4 rfl ?_
  refine V_bipush (v := (80 : Int32)) dX5_init_5 rfl ?_
  refine V_newA (at0 := .int) (ty := .int) hB hlim rfl rfl (by decide) rfl (fun _ _ => rfl) wd_X5_init_3 dX5_init_7 (fun x1 σ2 _ _ hB3 => ?_)
  refine V_putA fd_X5_init_9_X5 fw_X5_init_X5_0 (fun _ => rfl) dX5_init_9 (fun σ4 hσ4 => ?_)
  refine V_aload_n (x := a0) dX5_init_12 rfl ?_
  refine V_iconst (v := (0 : Int32)) dX5_init_13 rfl ?_
  refine V_putI fd_X5_init_15_X5 fw_X5_init_X5_1 (fun h => by cases h) dX5_init_14 (fun σ5 hσ5 => ?_)
  exact V_vretA (CB.go (CB.go hB3 hσ4) hσ5) hlim (fun _ => rfl) rfl dX5_init_17
theorem t_X5_init {D : DG} {z0 : Nat} {l : Launch} (a : Nat)  (σ : SG) : MT D z0 l yX5_init wsX5_init rmX5_init tvU [.ref a] σ (m_X5_init (some a) σ) :=
  MT.of (own := RX5) (cc := cX5_init) (nL := 1) (ret := none) (ct := true) (by decide) rfl rfl (fun _ => rfl) (Nat.le_of_ble_eq_true rfl) (by intro v hv; simp only [List.mem_cons, List.not_mem_nil, or_false] at hv; first | (rcases hv with rfl <;> first | rfl | exact va_rf_cat _) | exact absurd hv (fun h => h)) (v_X5_init_e rfl (some a) σ 0 0 (CB.start rfl))
theorem wd_X6_put_0 : Cond.sameField "MainsWords$Sender" "MainsWords$Thing" "isPresent" "Z" ∈ wsX6_put := by decide +kernel
theorem in_X6_put_X6 : ∀ w ∈ u_ws RX6 TX6 10, w ∈ wsX6_put := by decide +kernel
theorem wd_X6_put_2 : Cond.fieldLink RX6 35 "MainsWords$Sender" "isPresent" "Z" ∈ wsX6_put := by decide +kernel
theorem fd_X6_put_35_X6 : FD RX6 35 wsX6_put 6 1 := ⟨RX6, "MainsWords$Sender", TX6, 10, rfl, in_X6_put_X6, by decide, wd_X6_put_2, Or.inr wd_X6_put_0⟩
theorem fw_X6_put_X6_1 : FW RX6 wsX6_put 6 1 .boolean false := ⟨RX6, TX6, 10, tyX6, rfl, in_X6_put_X6, tyX6_ok, nmX6, rfl, (fun h => by cases h), rfl⟩
theorem wd_X6_put_5 : Cond.sameField "MainsWords$Sender" "MainsWords$Thing" "wire" "I" ∈ wsX6_put := by decide +kernel
theorem wd_X6_put_6 : Cond.fieldLink RX6 38 "MainsWords$Sender" "wire" "I" ∈ wsX6_put := by decide +kernel
theorem fd_X6_put_38_X6 : FD RX6 38 wsX6_put 6 2 := ⟨RX6, "MainsWords$Sender", TX6, 10, rfl, in_X6_put_X6, by decide, wd_X6_put_6, Or.inr wd_X6_put_5⟩
theorem fw_X6_put_X6_2 : FW RX6 wsX6_put 6 2 .int false := ⟨RX6, TX6, 10, tyX6, rfl, in_X6_put_X6, tyX6_ok, nmX6, rfl, (fun h => by cases h), rfl⟩
theorem wd_X6_put_9 : Cond.fieldLink RX6 19 "MainsWords$Sender" "strength" "I" ∈ wsX6_put := by decide +kernel
theorem fd_X6_put_19_X6 : FD RX6 19 wsX6_put 6 5 := ⟨RX6, "MainsWords$Sender", TX6, 10, rfl, in_X6_put_X6, by decide, wd_X6_put_9, Or.inl rfl⟩
theorem fw_X6_put_X6_5 : FW RX6 wsX6_put 6 5 .int false := ⟨RX6, TX6, 10, tyX6, rfl, in_X6_put_X6, tyX6_ok, nmX6, rfl, (fun h => by cases h), rfl⟩
theorem wd_X6_put_12 : Cond.fieldLink RX6 15 "MainsWords$Sender" "queueLength" "I" ∈ wsX6_put := by decide +kernel
theorem fd_X6_put_15_X6 : FD RX6 15 wsX6_put 6 4 := ⟨RX6, "MainsWords$Sender", TX6, 10, rfl, in_X6_put_X6, by decide, wd_X6_put_12, Or.inl rfl⟩
theorem fw_X6_put_X6_4 : FW RX6 wsX6_put 6 4 .int false := ⟨RX6, TX6, 10, tyX6, rfl, in_X6_put_X6, tyX6_ok, nmX6, rfl, (fun h => by cases h), rfl⟩
theorem wd_X6_put_15 : Cond.fieldLink RX6 22 "MainsWords$Sender" "speaks" "Z" ∈ wsX6_put := by decide +kernel
theorem fd_X6_put_22_X6 : FD RX6 22 wsX6_put 6 6 := ⟨RX6, "MainsWords$Sender", TX6, 10, rfl, in_X6_put_X6, by decide, wd_X6_put_15, Or.inl rfl⟩
theorem fw_X6_put_X6_6 : FW RX6 wsX6_put 6 6 .boolean false := ⟨RX6, TX6, 10, tyX6, rfl, in_X6_put_X6, tyX6_ok, nmX6, rfl, (fun h => by cases h), rfl⟩
theorem wd_X6_put_18 : Cond.fieldLink RX6 26 "MainsWords$Sender" "copy" "I" ∈ wsX6_put := by decide +kernel
theorem fd_X6_put_26_X6 : FD RX6 26 wsX6_put 6 7 := ⟨RX6, "MainsWords$Sender", TX6, 10, rfl, in_X6_put_X6, by decide, wd_X6_put_18, Or.inl rfl⟩
theorem fw_X6_put_X6_7 : FW RX6 wsX6_put 6 7 .int false := ⟨RX6, TX6, 10, tyX6, rfl, in_X6_put_X6, tyX6_ok, nmX6, rfl, (fun h => by cases h), rfl⟩
theorem wd_X6_put_21 : Cond.fieldLink RX6 29 "MainsWords$Sender" "place" "I" ∈ wsX6_put := by decide +kernel
theorem fd_X6_put_29_X6 : FD RX6 29 wsX6_put 6 8 := ⟨RX6, "MainsWords$Sender", TX6, 10, rfl, in_X6_put_X6, by decide, wd_X6_put_21, Or.inl rfl⟩
theorem fw_X6_put_X6_8 : FW RX6 wsX6_put 6 8 .int false := ⟨RX6, TX6, 10, tyX6, rfl, in_X6_put_X6, tyX6_ok, nmX6, rfl, (fun h => by cases h), rfl⟩
theorem wd_X6_put_24 : Cond.fieldLink RX6 32 "MainsWords$Sender" "pause" "I" ∈ wsX6_put := by decide +kernel
theorem fd_X6_put_32_X6 : FD RX6 32 wsX6_put 6 9 := ⟨RX6, "MainsWords$Sender", TX6, 10, rfl, in_X6_put_X6, by decide, wd_X6_put_24, Or.inl rfl⟩
theorem fw_X6_put_X6_9 : FW RX6 wsX6_put 6 9 .int false := ⟨RX6, TX6, 10, tyX6, rfl, in_X6_put_X6, tyX6_ok, nmX6, rfl, (fun h => by cases h), rfl⟩
set_option maxRecDepth 100000 in
set_option maxHeartbeats 4000000 in
theorem v_X6_put {D : DG} {z0 : Nat} {l : Launch} : ∀ (a0 : Option Nat) (a1 : Int32) (a2 : Int32) (σ : SG), V D z0 l RX6 cX6_put 3 wsX6_put none rmX6_put false tvU 0 [some (va_rf a0), some (.int a1), some (.int a2)] [] σ 0 0 (m_X6_put a0 a1 a2 σ) := by
  intro a0 a1 a2 σ
  unfold m_X6_put
  refine V_aload_n (x := a0) dX6_put_0 rfl ?_
  refine V_iconst (v := (1 : Int32)) dX6_put_1 rfl ?_
  refine V_putZ fd_X6_put_35_X6 fw_X6_put_X6_1 (fun h => by cases h) dX6_put_2 (fun σ1 hσ1 => ?_)
  refine V_aload_n (x := a0) dX6_put_5 rfl ?_
  refine V_iload_n (x := a1) dX6_put_6 rfl ?_
  refine V_putI fd_X6_put_38_X6 fw_X6_put_X6_2 (fun h => by cases h) dX6_put_7 (fun σ2 hσ2 => ?_)
  refine V_aload_n (x := a0) dX6_put_10 rfl ?_
  refine V_iload_n (x := a2) dX6_put_11 rfl ?_
  refine V_putI fd_X6_put_19_X6 fw_X6_put_X6_5 (fun h => by cases h) dX6_put_12 (fun σ3 hσ3 => ?_)
  refine V_aload_n (x := a0) dX6_put_15 rfl ?_
  refine V_iconst (v := (0 : Int32)) dX6_put_16 rfl ?_
  refine V_putI fd_X6_put_15_X6 fw_X6_put_X6_4 (fun h => by cases h) dX6_put_17 (fun σ4 hσ4 => ?_)
  refine V_aload_n (x := a0) dX6_put_20 rfl ?_
  refine V_iconst (v := (0 : Int32)) dX6_put_21 rfl ?_
  refine V_putZ fd_X6_put_22_X6 fw_X6_put_X6_6 (fun h => by cases h) dX6_put_22 (fun σ5 hσ5 => ?_)
  refine V_aload_n (x := a0) dX6_put_25 rfl ?_
  refine V_iconst (v := (0 : Int32)) dX6_put_26 rfl ?_
  refine V_putI fd_X6_put_26_X6 fw_X6_put_X6_7 (fun h => by cases h) dX6_put_27 (fun σ6 hσ6 => ?_)
  refine V_aload_n (x := a0) dX6_put_30 rfl ?_
  refine V_iconst (v := (0 : Int32)) dX6_put_31 rfl ?_
  refine V_putI fd_X6_put_29_X6 fw_X6_put_X6_8 (fun h => by cases h) dX6_put_32 (fun σ7 hσ7 => ?_)
  refine V_aload_n (x := a0) dX6_put_35 rfl ?_
  refine V_iconst (v := (0 : Int32)) dX6_put_36 rfl ?_
  refine V_putI fd_X6_put_32_X6 fw_X6_put_X6_9 (fun h => by cases h) dX6_put_37 (fun σ8 hσ8 => ?_)
  exact V_vret (fun _ => rfl) rfl (Nat.zero_le _) (Nat.zero_le _) dX6_put_40
theorem t_X6_put {D : DG} {z0 : Nat} {l : Launch} (a : Nat) (a1 : Int32) (a2 : Int32) (σ : SG) : MT D z0 l yX6_put wsX6_put rmX6_put tvU [.ref a, .int a1, .int a2] σ (m_X6_put (some a) a1 a2 σ) :=
  MT.of (own := RX6) (cc := cX6_put) (nL := 3) (ret := none) (ct := false) (by decide) rfl rfl (fun h => by cases h) (Nat.le_of_ble_eq_true rfl) (by intro v hv; simp only [List.mem_cons, List.not_mem_nil, or_false] at hv; first | (rcases hv with rfl | rfl | rfl <;> first | rfl | exact va_rf_cat _) | exact absurd hv (fun h => h)) (v_X6_put (some a) a1 a2 σ)
theorem in_X6_wordAt_X6 : ∀ w ∈ u_ws RX6 TX6 10, w ∈ wsX6_wordAt := by decide +kernel
theorem wd_X6_wordAt_1 : Cond.fieldLink RX6 15 "MainsWords$Sender" "queueLength" "I" ∈ wsX6_wordAt := by decide +kernel
theorem fd_X6_wordAt_15_X6 : FD RX6 15 wsX6_wordAt 6 4 := ⟨RX6, "MainsWords$Sender", TX6, 10, rfl, in_X6_wordAt_X6, by decide, wd_X6_wordAt_1, Or.inl rfl⟩
theorem wd_X6_wordAt_3 : Cond.fieldLink RX6 9 "MainsWords$Sender" "queue" "[I" ∈ wsX6_wordAt := by decide +kernel
theorem fd_X6_wordAt_9_X6 : FD RX6 9 wsX6_wordAt 6 3 := ⟨RX6, "MainsWords$Sender", TX6, 10, rfl, in_X6_wordAt_X6, by decide, wd_X6_wordAt_3, Or.inl rfl⟩
set_option maxRecDepth 100000 in
set_option maxHeartbeats 4000000 in
theorem v_X6_wordAt {D : DG} {z0 : Nat} {l : Launch} : ∀ (a0 : Option Nat) (a1 : Int32) (σ : SG), V D z0 l RX6 cX6_wordAt 2 wsX6_wordAt (some .int) rmX6_wordAt false tvI 0 [some (va_rf a0), some (.int a1)] [] σ 0 0 (m_X6_wordAt a0 a1 σ) := by
  intro a0 a1 σ
  unfold m_X6_wordAt
  refine V_iload_n (x := a1) dX6_wordAt_0 rfl ?_
  refine V_if_lt (tgt := 21) (x := a1) dX6_wordAt_1 (by decide) (fun hc1 => ?_) (fun hc1 => ?_)
  · refine V_bipush (v := (-5 : Int32)) dX6_wordAt_21 rfl ?_
    exact V_iret (fun _ => rfl) rfl (Nat.zero_le _) (Nat.zero_le _) dX6_wordAt_23
  · refine V_iload_n (x := a1) dX6_wordAt_4 rfl ?_
    refine V_aload_n (x := a0) dX6_wordAt_5 rfl ?_
    refine V_getI fd_X6_wordAt_15_X6 dX6_wordAt_6 (fun x2 => ?_)
    refine V_icmp_ge (tgt := 21) (x := a1) (y := x2) dX6_wordAt_9 (by decide) (fun hc3 => ?_) (fun hc3 => ?_)
    · refine V_bipush (v := (-5 : Int32)) dX6_wordAt_21 rfl ?_
      exact V_iret (fun _ => rfl) rfl (Nat.zero_le _) (Nat.zero_le _) dX6_wordAt_23
    · refine V_iload_n (x := a1) dX6_wordAt_12 rfl ?_
      refine V_aload_n (x := a0) dX6_wordAt_13 rfl ?_
      refine V_getR fd_X6_wordAt_9_X6 dX6_wordAt_14 (fun x4 => ?_)
      refine V_alen dX6_wordAt_17 (fun x5 => ?_)
      refine V_icmp_lt (tgt := 24) (x := a1) (y := x5) dX6_wordAt_18 (by decide) (fun hc6 => ?_) (fun hc6 => ?_)
      · refine V_aload_n (x := a0) dX6_wordAt_24 rfl ?_
        refine V_getR fd_X6_wordAt_9_X6 dX6_wordAt_25 (fun x7 => ?_)
        refine V_iload_n (x := a1) dX6_wordAt_28 rfl ?_
        refine V_iaload dX6_wordAt_29 (fun x8 => ?_)
        exact V_iret (fun _ => rfl) rfl (Nat.zero_le _) (Nat.zero_le _) dX6_wordAt_30
      · refine V_bipush (v := (-5 : Int32)) dX6_wordAt_21 rfl ?_
        exact V_iret (fun _ => rfl) rfl (Nat.zero_le _) (Nat.zero_le _) dX6_wordAt_23
theorem t_X6_wordAt {D : DG} {z0 : Nat} {l : Launch} (a : Nat) (a1 : Int32) (σ : SG) : MT D z0 l yX6_wordAt wsX6_wordAt rmX6_wordAt tvI [.ref a, .int a1] σ (m_X6_wordAt (some a) a1 σ) :=
  MT.of (own := RX6) (cc := cX6_wordAt) (nL := 2) (ret := (some .int)) (ct := false) (by decide) rfl rfl (fun h => by cases h) (Nat.le_of_ble_eq_true rfl) (by intro v hv; simp only [List.mem_cons, List.not_mem_nil, or_false] at hv; first | (rcases hv with rfl | rfl <;> first | rfl | exact va_rf_cat _) | exact absurd hv (fun h => h)) (v_X6_wordAt (some a) a1 σ)
theorem wd_X8_init_0 : Cond.methodLink RX8 1 objectInit ∈ wsX8_init := by decide +kernel
theorem wd_X8_init_1 : Cond.instanceMethod objectInit ∈ wsX8_init := by decide +kernel
theorem wd_X8_init_2 : Cond.code objectInit ⟨#[0xb1]⟩ 1 none ∈ wsX8_init := by decide +kernel
theorem in_X8_init_X3 : ∀ w ∈ u_ws RX3 TX3 8, w ∈ wsX8_init := by decide +kernel
theorem wd_X8_init_4 : Cond.classLink RX8 7 RX3 ∈ wsX8_init := by decide +kernel
theorem wd_X8_init_5 : Cond.instantiable RX3 8 ∈ wsX8_init := by decide +kernel
theorem wd_X8_init_6 : Cond.initialized RX3 ∈ wsX8_init := by decide +kernel
theorem wd_X8_init_7 : Cond.methodLink RX8 9 yX3_init ∈ wsX8_init := by decide +kernel
theorem wd_X8_init_8 : Cond.instanceMethod yX3_init ∈ wsX8_init := by decide +kernel
theorem in_X8_init_X8 : ∀ w ∈ u_ws RX8 TX8 6, w ∈ wsX8_init := by decide +kernel
theorem wd_X8_init_10 : Cond.fieldLink RX8 10 "MainsWords" "now" "LMainsWords$Net;" ∈ wsX8_init := by decide +kernel
theorem fd_X8_init_10_X8 : FD RX8 10 wsX8_init 7 0 := ⟨RX8, "MainsWords", TX8, 6, rfl, in_X8_init_X8, by decide, wd_X8_init_10, Or.inl rfl⟩
theorem fw_X8_init_X8_0 : FW RX8 wsX8_init 7 0 (.object "MainsWords$Net") true := ⟨RX8, TX8, 6, tyX8, rfl, in_X8_init_X8, tyX8_ok, nmX8, rfl, (fun _ => rfl), rfl⟩
theorem wd_X8_init_13 : Cond.fieldLink RX8 16 "MainsWords" "ahead" "LMainsWords$Net;" ∈ wsX8_init := by decide +kernel
theorem fd_X8_init_16_X8 : FD RX8 16 wsX8_init 7 1 := ⟨RX8, "MainsWords", TX8, 6, rfl, in_X8_init_X8, by decide, wd_X8_init_13, Or.inl rfl⟩
theorem fw_X8_init_X8_1 : FW RX8 wsX8_init 7 1 (.object "MainsWords$Net") true := ⟨RX8, TX8, 6, tyX8, rfl, in_X8_init_X8, tyX8_ok, nmX8, rfl, (fun _ => rfl), rfl⟩
theorem wd_X8_init_16 : Cond.fieldLink RX8 19 "MainsWords" "snapshot" "LMainsWords$Net;" ∈ wsX8_init := by decide +kernel
theorem fd_X8_init_19_X8 : FD RX8 19 wsX8_init 7 2 := ⟨RX8, "MainsWords", TX8, 6, rfl, in_X8_init_X8, by decide, wd_X8_init_16, Or.inl rfl⟩
theorem fw_X8_init_X8_2 : FW RX8 wsX8_init 7 2 (.object "MainsWords$Net") true := ⟨RX8, TX8, 6, tyX8, rfl, in_X8_init_X8, tyX8_ok, nmX8, rfl, (fun _ => rfl), rfl⟩
theorem wd_X8_init_19 : Cond.fieldLink RX8 22 "MainsWords" "hasSnapshot" "Z" ∈ wsX8_init := by decide +kernel
theorem fd_X8_init_22_X8 : FD RX8 22 wsX8_init 7 3 := ⟨RX8, "MainsWords", TX8, 6, rfl, in_X8_init_X8, by decide, wd_X8_init_19, Or.inl rfl⟩
theorem fw_X8_init_X8_3 : FW RX8 wsX8_init 7 3 .boolean false := ⟨RX8, TX8, 6, tyX8, rfl, in_X8_init_X8, tyX8_ok, nmX8, rfl, (fun h => by cases h), rfl⟩
theorem in_X8_init_X0 : ∀ w ∈ u_ws RX0 TX0 2, w ∈ wsX8_init := by decide +kernel
theorem wd_X8_init_23 : Cond.classLink RX8 26 RX0 ∈ wsX8_init := by decide +kernel
theorem wd_X8_init_24 : Cond.instantiable RX0 2 ∈ wsX8_init := by decide +kernel
theorem wd_X8_init_25 : Cond.initialized RX0 ∈ wsX8_init := by decide +kernel
theorem wd_X8_init_26 : Cond.methodLink RX8 28 yX0_init ∈ wsX8_init := by decide +kernel
theorem wd_X8_init_27 : Cond.instanceMethod yX0_init ∈ wsX8_init := by decide +kernel
theorem wd_X8_init_28 : Cond.fieldLink RX8 29 "MainsWords" "history" "LMainsWords$History;" ∈ wsX8_init := by decide +kernel
theorem fd_X8_init_29_X8 : FD RX8 29 wsX8_init 7 4 := ⟨RX8, "MainsWords", TX8, 6, rfl, in_X8_init_X8, by decide, wd_X8_init_28, Or.inl rfl⟩
theorem fw_X8_init_X8_4 : FW RX8 wsX8_init 7 4 (.object "MainsWords$History") true := ⟨RX8, TX8, 6, tyX8, rfl, in_X8_init_X8, tyX8_ok, nmX8, rfl, (fun _ => rfl), rfl⟩
theorem in_X8_init_X5 : ∀ w ∈ u_ws RX5 TX5 2, w ∈ wsX8_init := by decide +kernel
theorem wd_X8_init_32 : Cond.classLink RX8 33 RX5 ∈ wsX8_init := by decide +kernel
theorem wd_X8_init_33 : Cond.instantiable RX5 2 ∈ wsX8_init := by decide +kernel
theorem wd_X8_init_34 : Cond.initialized RX5 ∈ wsX8_init := by decide +kernel
theorem wd_X8_init_35 : Cond.instanceMethod yX5_init ∈ wsX8_init := by decide +kernel
theorem wd_X8_init_36 : Cond.fieldLink RX8 36 "MainsWords" "script" "LMainsWords$Script;" ∈ wsX8_init := by decide +kernel
theorem fd_X8_init_36_X8 : FD RX8 36 wsX8_init 7 5 := ⟨RX8, "MainsWords", TX8, 6, rfl, in_X8_init_X8, by decide, wd_X8_init_36, Or.inl rfl⟩
theorem fw_X8_init_X8_5 : FW RX8 wsX8_init 7 5 (.object "MainsWords$Script") true := ⟨RX8, TX8, 6, tyX8, rfl, in_X8_init_X8, tyX8_ok, nmX8, rfl, (fun _ => rfl), rfl⟩
set_option maxRecDepth 100000 in
set_option maxHeartbeats 4000000 in
theorem v_X8_init_e {D : DG} {z0 : Nat} {l : Launch} {szE lim : Nat} (hlim : lim = szE + rmX8_init.cells) : ∀ (a0 : Option Nat) (σ : SG) (cells slots : Nat), CB rmX8_init szE σ cells slots → V D z0 l RX8 cX8_init 1 wsX8_init none rmX8_init true tvU 0 [some (va_rf a0)] [] σ cells slots (m_X8_init_e lim a0 σ) := by
  intro a0 σ cells slots hB
  unfold m_X8_init_e
  refine V_aload_n (x := a0) dX8_init_0 rfl ?_
  refine V_objinitN wd_X8_init_0 wd_X8_init_1 wd_X8_init_2 (by decide) (by decide) dX8_init_1 ?_
  refine V_aload_n (x := a0) dX8_init_4 rfl ?_
  refine V_new hB hlim (ty0 := tyX3) (C := RX3) (T := TX3) (N := 8) rfl in_X8_init_X3 tyX3_ok wd_X8_init_4 wd_X8_init_5 wd_X8_init_6 (fun j hj => ?_) (by decide) dX8_init_5 (fun x1 σ2 _ _ hB3 => ?_)
  · exact dfl_X3 j hj
  refine V_dup dX8_init_8 (va_rf_cat _) ?_
  refine V.room hB3 hlim (fun hr1 hr2 => ?_)
  refine V_callI (ci := 3) (As := []) (st0 := [va_rf x1, va_rf a0]) (stI := [va_rf x1, va_rf x1, va_rf a0]) (fun _ h => by cases h; exact t_X3_init _ σ2) rfl (by simp only [List.map_cons, List.map_nil, List.sum_cons, List.sum_nil, va_rf_cat, catI, catF]; decide) rfl (fun s args hts => cwI 0 hts gX8_init_X3_init rfl rfl rfl (hts _ wd_X8_init_6) (hts _ wd_X8_init_7) (hts _ wd_X8_init_8) rfl (by decide +kernel) ⟨Nat.le_of_ble_eq_true rfl, Nat.le_of_ble_eq_true rfl⟩) ⟨hr1, hr2⟩ dX8_init_9 (fun _ σ4 _ => ?_)
  refine V.same (fun hs5 => ?_)
  refine V_putO fd_X8_init_10_X8 fw_X8_init_X8_0 (fun _ => rfl) dX8_init_12 (fun σ6 hσ6 => ?_)
  refine V_aload_n (x := a0) dX8_init_15 rfl ?_
  refine V_new (CB.go (CB.call hB3 rfl rfl hs5) hσ6) hlim (ty0 := tyX3) (C := RX3) (T := TX3) (N := 8) rfl in_X8_init_X3 tyX3_ok wd_X8_init_4 wd_X8_init_5 wd_X8_init_6 (fun j hj => ?_) (by decide) dX8_init_16 (fun x7 σ8 _ _ hB9 => ?_)
  · exact dfl_X3 j hj
  refine V_dup dX8_init_19 (va_rf_cat _) ?_
  refine V.room hB9 hlim (fun hr1 hr2 => ?_)
  refine V_callI (ci := 3) (As := []) (st0 := [va_rf x7, va_rf a0]) (stI := [va_rf x7, va_rf x7, va_rf a0]) (fun _ h => by cases h; exact t_X3_init _ σ8) rfl (by simp only [List.map_cons, List.map_nil, List.sum_cons, List.sum_nil, va_rf_cat, catI, catF]; decide) rfl (fun s args hts => cwI 0 hts gX8_init_X3_init rfl rfl rfl (hts _ wd_X8_init_6) (hts _ wd_X8_init_7) (hts _ wd_X8_init_8) rfl (by decide +kernel) ⟨Nat.le_of_ble_eq_true rfl, Nat.le_of_ble_eq_true rfl⟩) ⟨hr1, hr2⟩ dX8_init_20 (fun _ σ10 _ => ?_)
  refine V.same (fun hs11 => ?_)
  refine V_putO fd_X8_init_16_X8 fw_X8_init_X8_1 (fun _ => rfl) dX8_init_23 (fun σ12 hσ12 => ?_)
  refine V_aload_n (x := a0) dX8_init_26 rfl ?_
  refine V_new (CB.go (CB.call hB9 rfl rfl hs11) hσ12) hlim (ty0 := tyX3) (C := RX3) (T := TX3) (N := 8) rfl in_X8_init_X3 tyX3_ok wd_X8_init_4 wd_X8_init_5 wd_X8_init_6 (fun j hj => ?_) (by decide) dX8_init_27 (fun x13 σ14 _ _ hB15 => ?_)
  · exact dfl_X3 j hj
  refine V_dup dX8_init_30 (va_rf_cat _) ?_
  refine V.room hB15 hlim (fun hr1 hr2 => ?_)
  refine V_callI (ci := 3) (As := []) (st0 := [va_rf x13, va_rf a0]) (stI := [va_rf x13, va_rf x13, va_rf a0]) (fun _ h => by cases h; exact t_X3_init _ σ14) rfl (by simp only [List.map_cons, List.map_nil, List.sum_cons, List.sum_nil, va_rf_cat, catI, catF]; decide) rfl (fun s args hts => cwI 0 hts gX8_init_X3_init rfl rfl rfl (hts _ wd_X8_init_6) (hts _ wd_X8_init_7) (hts _ wd_X8_init_8) rfl (by decide +kernel) ⟨Nat.le_of_ble_eq_true rfl, Nat.le_of_ble_eq_true rfl⟩) ⟨hr1, hr2⟩ dX8_init_31 (fun _ σ16 _ => ?_)
  refine V.same (fun hs17 => ?_)
  refine V_putO fd_X8_init_19_X8 fw_X8_init_X8_2 (fun _ => rfl) dX8_init_34 (fun σ18 hσ18 => ?_)
  refine V_aload_n (x := a0) dX8_init_37 rfl ?_
  refine V_iconst (v := (0 : Int32)) dX8_init_38 rfl ?_
  refine V_putZ fd_X8_init_22_X8 fw_X8_init_X8_3 (fun h => by cases h) dX8_init_39 (fun σ19 hσ19 => ?_)
  refine V_aload_n (x := a0) dX8_init_42 rfl ?_
  refine V_new (CB.go (CB.go (CB.call hB15 rfl rfl hs17) hσ18) hσ19) hlim (ty0 := tyX0) (C := RX0) (T := TX0) (N := 2) rfl in_X8_init_X0 tyX0_ok wd_X8_init_23 wd_X8_init_24 wd_X8_init_25 (fun j hj => ?_) (by decide) dX8_init_43 (fun x20 σ21 _ _ hB22 => ?_)
  · exact dfl_X0 j hj
  refine V_dup dX8_init_46 (va_rf_cat _) ?_
  refine V.room hB22 hlim (fun hr1 hr2 => ?_)
  refine V_callI (ci := 0) (As := []) (st0 := [va_rf x20, va_rf a0]) (stI := [va_rf x20, va_rf x20, va_rf a0]) (fun _ h => by cases h; exact t_X0_init _ σ21) rfl (by simp only [List.map_cons, List.map_nil, List.sum_cons, List.sum_nil, va_rf_cat, catI, catF]; decide) rfl (fun s args hts => cwI 0 hts gX8_init_X0_init rfl rfl rfl (hts _ wd_X8_init_25) (hts _ wd_X8_init_26) (hts _ wd_X8_init_27) rfl (by decide +kernel) ⟨Nat.le_of_ble_eq_true rfl, Nat.le_of_ble_eq_true rfl⟩) ⟨hr1, hr2⟩ dX8_init_47 (fun _ σ23 _ => ?_)
  refine V.same (fun hs24 => ?_)
  refine V_putO fd_X8_init_29_X8 fw_X8_init_X8_4 (fun _ => rfl) dX8_init_50 (fun σ25 hσ25 => ?_)
  refine V_aload_n (x := a0) dX8_init_53 rfl ?_
  refine V_new (CB.go (CB.call hB22 rfl rfl hs24) hσ25) hlim (ty0 := tyX5) (C := RX5) (T := TX5) (N := 2) rfl in_X8_init_X5 tyX5_ok wd_X8_init_32 wd_X8_init_33 wd_X8_init_34 (fun j hj => ?_) (by decide) dX8_init_54 (fun x26 σ27 _ _ hB28 => ?_)
  · exact dfl_X5 j hj
  refine V_dup dX8_init_57 (va_rf_cat _) ?_
  refine V.room hB28 hlim (fun hr1 hr2 => ?_)
  refine V_callIN (host := "MainsWords") (As := []) (st0 := [va_rf x26, va_rf a0]) (stI := [va_rf x26, va_rf x26, va_rf a0]) (fun _ h => by cases h; exact t_X5_init _ σ27) rfl (by simp only [List.map_cons, List.map_nil, List.sum_cons, List.sum_nil, va_rf_cat, catI, catF]; decide) rfl (by decide +kernel) (fun s args hts hnw => ⟨va_cnB 0 hts gX8_init_X5_init_n35 rfl rfl rfl hnw (hts _ wd_X8_init_34) (by decide +kernel) ⟨Nat.le_of_ble_eq_true rfl, Nat.le_of_ble_eq_true rfl⟩, rfl, hts _ wd_X8_init_35⟩) ⟨hr1, hr2⟩ dX8_init_58 (fun _ σ29 _ => ?_)
  refine V.same (fun hs30 => ?_)
  refine V_putO fd_X8_init_36_X8 fw_X8_init_X8_5 (fun _ => rfl) dX8_init_61 (fun σ31 hσ31 => ?_)
  exact V_vretA (CB.go (CB.call hB28 rfl rfl hs30) hσ31) hlim (fun _ => rfl) rfl dX8_init_64
theorem t_X8_init {D : DG} {z0 : Nat} {l : Launch} (a : Nat)  (σ : SG) : MT D z0 l yX8_init wsX8_init rmX8_init tvU [.ref a] σ (m_X8_init (some a) σ) :=
  MT.of (own := RX8) (cc := cX8_init) (nL := 1) (ret := none) (ct := true) (by decide) rfl rfl (fun _ => rfl) (Nat.le_of_ble_eq_true rfl) (by intro v hv; simp only [List.mem_cons, List.not_mem_nil, or_false] at hv; first | (rcases hv with rfl <;> first | rfl | exact va_rf_cat _) | exact absurd hv (fun h => h)) (v_X8_init_e rfl (some a) σ 0 0 (CB.start rfl))
set_option maxRecDepth 100000 in
set_option maxHeartbeats 4000000 in
theorem v_X8_isWire {D : DG} {z0 : Nat} {l : Launch} : ∀ (a0 : Int32) (σ : SG), V D z0 l RX8 cX8_isWire 1 wsX8_isWire (some .boolean) rmX8_isWire false tvI 0 [some (.int a0)] [] σ 0 0 (m_X8_isWire a0 σ) := by
  intro a0 σ
  unfold m_X8_isWire
  refine V_iload_n (x := a0) dX8_isWire_0 rfl ?_
  refine V_if_lt (tgt := 14) (x := a0) dX8_isWire_1 (by decide) (fun hc1 => ?_) (fun hc1 => ?_)
  · refine V_iconst (v := (0 : Int32)) dX8_isWire_14 rfl ?_
    exact V_zret (fun _ => rfl) rfl (Nat.zero_le _) (Nat.zero_le _) dX8_isWire_15
  · refine V_iload_n (x := a0) dX8_isWire_4 rfl ?_
    refine V_bipush (v := (6 : Int32)) dX8_isWire_5 rfl ?_
    refine V_icmp_ge (tgt := 14) (x := a0) (y := (6 : Int32)) dX8_isWire_7 (by decide) (fun hc2 => ?_) (fun hc2 => ?_)
    · refine V_iconst (v := (0 : Int32)) dX8_isWire_14 rfl ?_
      exact V_zret (fun _ => rfl) rfl (Nat.zero_le _) (Nat.zero_le _) dX8_isWire_15
    · refine V_iconst (v := (1 : Int32)) dX8_isWire_10 rfl ?_
      refine V_goto (tgt := 15) dX8_isWire_11 (by decide) ?_
      exact V_zret (fun _ => rfl) rfl (Nat.zero_le _) (Nat.zero_le _) dX8_isWire_15
theorem t_X8_isWire {D : DG} {z0 : Nat} {l : Launch} (a0 : Int32) (σ : SG) : MT D z0 l yX8_isWire wsX8_isWire rmX8_isWire tvI [.int a0] σ (m_X8_isWire a0 σ) :=
  MT.of (own := RX8) (cc := cX8_isWire) (nL := 1) (ret := (some .boolean)) (ct := false) (by decide) rfl rfl (fun h => by cases h) (Nat.le_of_ble_eq_true rfl) (by intro v hv; simp only [List.mem_cons, List.not_mem_nil, or_false] at hv; first | (rcases hv with rfl <;> first | rfl | exact va_rf_cat _) | exact absurd hv (fun h => h)) (v_X8_isWire a0 σ)
theorem in_X8_sender_X8 : ∀ w ∈ u_ws RX8 TX8 6, w ∈ wsX8_sender := by decide +kernel
theorem wd_X8_sender_1 : Cond.fieldLink RX8 10 "MainsWords" "now" "LMainsWords$Net;" ∈ wsX8_sender := by decide +kernel
theorem fd_X8_sender_10_X8 : FD RX8 10 wsX8_sender 7 0 := ⟨RX8, "MainsWords", TX8, 6, rfl, in_X8_sender_X8, by decide, wd_X8_sender_1, Or.inl rfl⟩
theorem wd_X8_sender_3 : Cond.fieldLink RX8 29 "MainsWords" "history" "LMainsWords$History;" ∈ wsX8_sender := by decide +kernel
theorem fd_X8_sender_29_X8 : FD RX8 29 wsX8_sender 7 4 := ⟨RX8, "MainsWords", TX8, 6, rfl, in_X8_sender_X8, by decide, wd_X8_sender_3, Or.inl rfl⟩
theorem wd_X8_sender_5 : Cond.sameField "MainsWords$Sender" "MainsWords$Thing" "number" "I" ∈ wsX8_sender := by decide +kernel
theorem in_X8_sender_X6 : ∀ w ∈ u_ws RX6 TX6 10, w ∈ wsX8_sender := by decide +kernel
theorem wd_X8_sender_7 : Cond.fieldLink RX8 58 "MainsWords$Sender" "number" "I" ∈ wsX8_sender := by decide +kernel
theorem fd_X8_sender_58_X6 : FD RX8 58 wsX8_sender 6 0 := ⟨RX6, "MainsWords$Sender", TX6, 10, rfl, in_X8_sender_X6, by decide, wd_X8_sender_7, Or.inr wd_X8_sender_5⟩
set_option maxRecDepth 100000 in
set_option maxHeartbeats 4000000 in
theorem v_X8_sender {D : DG} {z0 : Nat} {l : Launch} : ∀ (a0 : Option Nat) (a1 : Int32) (a2 : Int32) (σ : SG), V D z0 l RX8 cX8_sender 4 wsX8_sender (some .int) rmX8_sender false tvI 0 [some (va_rf a0), some (.int a1), some (.int a2), none] [] σ 0 0 (m_X8_sender a0 a1 a2 σ) := by
  intro a0 a1 a2 σ
  unfold m_X8_sender
  refine V_iload_n (x := a1) dX8_sender_0 rfl ?_
  refine V_callS0 (As := [.int a1]) (st0 := []) (stI := [.int a1]) (t_X8_isWire a1 σ) rfl (Nat.le_of_ble_eq_true rfl) rfl (fun s args hts => va_cwS 1 hts gX8_sender_X8_isWire rfl rfl rfl (by decide +kernel) ⟨Nat.le_of_ble_eq_true rfl, Nat.le_of_ble_eq_true rfl⟩) rfl rfl dX8_sender_1 (fun r1 σ2 _ => ?_)
  refine V_if_ne (tgt := 9) (x := r1) dX8_sender_4 (by decide) (fun hc3 => ?_) (fun hc3 => ?_)
  · refine V_iconst (v := (-1 : Int32)) dX8_sender_7 rfl ?_
    exact V_iret (fun _ => rfl) rfl (Nat.zero_le _) (Nat.zero_le _) dX8_sender_8
  · refine V_iload_n (x := a2) dX8_sender_9 rfl ?_
    refine V_iconst (v := (1 : Int32)) dX8_sender_10 rfl ?_
    refine V_icmp_lt (tgt := 20) (x := a2) (y := (1 : Int32)) dX8_sender_11 (by decide) (fun hc4 => ?_) (fun hc4 => ?_)
    · refine V_bipush (v := (-2 : Int32)) dX8_sender_20 rfl ?_
      exact V_iret (fun _ => rfl) rfl (Nat.zero_le _) (Nat.zero_le _) dX8_sender_22
    · refine V_iload_n (x := a2) dX8_sender_14 rfl ?_
      refine V_bipush (v := (9 : Int32)) dX8_sender_15 rfl ?_
      refine V_icmp_le (tgt := 23) (x := a2) (y := (9 : Int32)) dX8_sender_17 (by decide) (fun hc5 => ?_) (fun hc5 => ?_)
      · refine V_aload_n (x := a0) dX8_sender_23 rfl ?_
        refine V_getR fd_X8_sender_10_X8 dX8_sender_24 (fun x6 => ?_)
        refine V_callV0 (As := []) (st0 := []) (stI := [va_rf x6]) (fun _ h => by cases h; exact t_X3_freeSender _ σ2) (q := (RX3, TX3, 8)) rfl rfl rfl (Nat.le_of_ble_eq_true rfl) rfl (fun s args hts => cwV 0 hts gX8_sender_X3_freeSender rfl rfl rfl (by decide +kernel) ⟨Nat.le_of_ble_eq_true rfl, Nat.le_of_ble_eq_true rfl⟩) rfl rfl dX8_sender_27 (fun r7 σ8 _ => ?_)
        refine V_astore_n (x := r7) (ls' := [some (va_rf a0), some (.int a1), some (.int a2), some (va_rf r7)]) dX8_sender_30 (by decide) rfl ?_
        refine V_aload_n (x := r7) dX8_sender_31 rfl ?_
        refine V_ifnonnull (tgt := 38) (x := r7) dX8_sender_32 (by decide) (fun hc9 => ?_) (fun hc9 => ?_)
        · refine V_bipush (v := (-3 : Int32)) dX8_sender_35 rfl ?_
          exact V_iret (fun _ => rfl) rfl (Nat.zero_le _) (Nat.zero_le _) dX8_sender_37
        · refine V_aload_n (x := a0) dX8_sender_38 rfl ?_
          refine V_getR fd_X8_sender_29_X8 dX8_sender_39 (fun x10 => ?_)
          refine V_aload_n (x := a0) dX8_sender_42 rfl ?_
          refine V_getR fd_X8_sender_10_X8 dX8_sender_43 (fun x11 => ?_)
          refine V_callV0 (As := [va_rf x11]) (st0 := []) (stI := [va_rf x11, va_rf x10]) (fun _ h => by cases h; exact t_X0_keep _ x11 σ8) (q := (RX0, TX0, 2)) rfl rfl rfl (Nat.le_of_ble_eq_true rfl) rfl (fun s args hts => cwV 1 hts gX8_sender_X0_keep rfl rfl rfl (by decide +kernel) ⟨Nat.le_of_ble_eq_true rfl, Nat.le_of_ble_eq_true rfl⟩) rfl rfl dX8_sender_46 (fun _ σ12 _ => ?_)
          refine V_aload_n (x := r7) dX8_sender_49 rfl ?_
          refine V_iload_n (x := a1) dX8_sender_50 rfl ?_
          refine V_iload_n (x := a2) dX8_sender_51 rfl ?_
          refine V_callV0 (As := [.int a1, .int a2]) (st0 := []) (stI := [.int a2, .int a1, va_rf r7]) (fun _ h => by cases h; exact t_X6_put _ a1 a2 σ12) (q := (RX6, TX6, 10)) rfl rfl rfl (Nat.le_of_ble_eq_true rfl) rfl (fun s args hts => cwV 2 hts gX8_sender_X6_put rfl rfl rfl (by decide +kernel) ⟨Nat.le_of_ble_eq_true rfl, Nat.le_of_ble_eq_true rfl⟩) rfl rfl dX8_sender_52 (fun _ σ13 _ => ?_)
          refine V_aload_n (x := r7) dX8_sender_55 rfl ?_
          refine V_getI fd_X8_sender_58_X6 dX8_sender_56 (fun x14 => ?_)
          exact V_iret (fun _ => rfl) rfl (Nat.zero_le _) (Nat.zero_le _) dX8_sender_59
      · refine V_bipush (v := (-2 : Int32)) dX8_sender_20 rfl ?_
        exact V_iret (fun _ => rfl) rfl (Nat.zero_le _) (Nat.zero_le _) dX8_sender_22
theorem t_X8_sender {D : DG} {z0 : Nat} {l : Launch} (a : Nat) (a1 : Int32) (a2 : Int32) (σ : SG) : MT D z0 l yX8_sender wsX8_sender rmX8_sender tvI [.ref a, .int a1, .int a2] σ (m_X8_sender (some a) a1 a2 σ) :=
  MT.of (own := RX8) (cc := cX8_sender) (nL := 4) (ret := (some .int)) (ct := false) (by decide) rfl rfl (fun h => by cases h) (Nat.le_of_ble_eq_true rfl) (by intro v hv; simp only [List.mem_cons, List.not_mem_nil, or_false] at hv; first | (rcases hv with rfl | rfl | rfl <;> first | rfl | exact va_rf_cat _) | exact absurd hv (fun h => h)) (v_X8_sender (some a) a1 a2 σ)
theorem in_X8_machine_X8 : ∀ w ∈ u_ws RX8 TX8 6, w ∈ wsX8_machine := by decide +kernel
theorem wd_X8_machine_1 : Cond.fieldLink RX8 10 "MainsWords" "now" "LMainsWords$Net;" ∈ wsX8_machine := by decide +kernel
theorem fd_X8_machine_10_X8 : FD RX8 10 wsX8_machine 7 0 := ⟨RX8, "MainsWords", TX8, 6, rfl, in_X8_machine_X8, by decide, wd_X8_machine_1, Or.inl rfl⟩
theorem wd_X8_machine_3 : Cond.fieldLink RX8 29 "MainsWords" "history" "LMainsWords$History;" ∈ wsX8_machine := by decide +kernel
theorem fd_X8_machine_29_X8 : FD RX8 29 wsX8_machine 7 4 := ⟨RX8, "MainsWords", TX8, 6, rfl, in_X8_machine_X8, by decide, wd_X8_machine_3, Or.inl rfl⟩
theorem wd_X8_machine_5 : Cond.sameField "MainsWords$Machine" "MainsWords$Thing" "number" "I" ∈ wsX8_machine := by decide +kernel
theorem in_X8_machine_X2 : ∀ w ∈ u_ws RX2 TX2 6, w ∈ wsX8_machine := by decide +kernel
theorem wd_X8_machine_7 : Cond.fieldLink RX8 71 "MainsWords$Machine" "number" "I" ∈ wsX8_machine := by decide +kernel
theorem fd_X8_machine_71_X2 : FD RX8 71 wsX8_machine 2 0 := ⟨RX2, "MainsWords$Machine", TX2, 6, rfl, in_X8_machine_X2, by decide, wd_X8_machine_7, Or.inr wd_X8_machine_5⟩
set_option maxRecDepth 100000 in
set_option maxHeartbeats 4000000 in
theorem v_X8_machine {D : DG} {z0 : Nat} {l : Launch} : ∀ (a0 : Option Nat) (a1 : Int32) (a2 : Int32) (a3 : Int32) (σ : SG), V D z0 l RX8 cX8_machine 5 wsX8_machine (some .int) rmX8_machine false tvI 0 [some (va_rf a0), some (.int a1), some (.int a2), some (.int a3), none] [] σ 0 0 (m_X8_machine a0 a1 a2 a3 σ) := by
  intro a0 a1 a2 a3 σ
  unfold m_X8_machine
  refine V_iload_n (x := a1) dX8_machine_0 rfl ?_
  refine V_callS0 (As := [.int a1]) (st0 := []) (stI := [.int a1]) (t_X8_isWire a1 σ) rfl (Nat.le_of_ble_eq_true rfl) rfl (fun s args hts => va_cwS 1 hts gX8_machine_X8_isWire rfl rfl rfl (by decide +kernel) ⟨Nat.le_of_ble_eq_true rfl, Nat.le_of_ble_eq_true rfl⟩) rfl rfl dX8_machine_1 (fun r1 σ2 _ => ?_)
  refine V_if_ne (tgt := 9) (x := r1) dX8_machine_4 (by decide) (fun hc3 => ?_) (fun hc3 => ?_)
  · refine V_iconst (v := (-1 : Int32)) dX8_machine_7 rfl ?_
    exact V_iret (fun _ => rfl) rfl (Nat.zero_le _) (Nat.zero_le _) dX8_machine_8
  · refine V_iload_n (x := a2) dX8_machine_9 rfl ?_
    refine V_iconst (v := (1 : Int32)) dX8_machine_10 rfl ?_
    refine V_icmp_lt (tgt := 20) (x := a2) (y := (1 : Int32)) dX8_machine_11 (by decide) (fun hc4 => ?_) (fun hc4 => ?_)
    · refine V_bipush (v := (-2 : Int32)) dX8_machine_20 rfl ?_
      exact V_iret (fun _ => rfl) rfl (Nat.zero_le _) (Nat.zero_le _) dX8_machine_22
    · refine V_iload_n (x := a2) dX8_machine_14 rfl ?_
      refine V_bipush (v := (9 : Int32)) dX8_machine_15 rfl ?_
      refine V_icmp_le (tgt := 23) (x := a2) (y := (9 : Int32)) dX8_machine_17 (by decide) (fun hc5 => ?_) (fun hc5 => ?_)
      · refine V_iload_n (x := a3) dX8_machine_23 rfl ?_
        refine V_iconst (v := (2 : Int32)) dX8_machine_24 rfl ?_
        refine V_icmp_lt (tgt := 34) (x := a3) (y := (2 : Int32)) dX8_machine_25 (by decide) (fun hc6 => ?_) (fun hc6 => ?_)
        · refine V_bipush (v := (-2 : Int32)) dX8_machine_34 rfl ?_
          exact V_iret (fun _ => rfl) rfl (Nat.zero_le _) (Nat.zero_le _) dX8_machine_36
        · refine V_iload_n (x := a3) dX8_machine_28 rfl ?_
          refine V_bipush (v := (20 : Int32)) dX8_machine_29 rfl ?_
          refine V_icmp_le (tgt := 37) (x := a3) (y := (20 : Int32)) dX8_machine_31 (by decide) (fun hc7 => ?_) (fun hc7 => ?_)
          · refine V_aload_n (x := a0) dX8_machine_37 rfl ?_
            refine V_getR fd_X8_machine_10_X8 dX8_machine_38 (fun x8 => ?_)
            refine V_callV0 (As := []) (st0 := []) (stI := [va_rf x8]) (fun _ h => by cases h; exact t_X3_freeMachine _ σ2) (q := (RX3, TX3, 8)) rfl rfl rfl (Nat.le_of_ble_eq_true rfl) rfl (fun s args hts => cwV 0 hts gX8_machine_X3_freeMachine rfl rfl rfl (by decide +kernel) ⟨Nat.le_of_ble_eq_true rfl, Nat.le_of_ble_eq_true rfl⟩) rfl rfl dX8_machine_41 (fun r9 σ10 _ => ?_)
            refine V_astore (x := r9) (ls' := [some (va_rf a0), some (.int a1), some (.int a2), some (.int a3), some (va_rf r9)]) dX8_machine_44 (by decide) rfl ?_
            refine V_aload (x := r9) dX8_machine_46 rfl ?_
            refine V_ifnonnull (tgt := 54) (x := r9) dX8_machine_48 (by decide) (fun hc11 => ?_) (fun hc11 => ?_)
            · refine V_bipush (v := (-3 : Int32)) dX8_machine_51 rfl ?_
              exact V_iret (fun _ => rfl) rfl (Nat.zero_le _) (Nat.zero_le _) dX8_machine_53
            · refine V_aload_n (x := a0) dX8_machine_54 rfl ?_
              refine V_getR fd_X8_machine_29_X8 dX8_machine_55 (fun x12 => ?_)
              refine V_aload_n (x := a0) dX8_machine_58 rfl ?_
              refine V_getR fd_X8_machine_10_X8 dX8_machine_59 (fun x13 => ?_)
              refine V_callV0 (As := [va_rf x13]) (st0 := []) (stI := [va_rf x13, va_rf x12]) (fun _ h => by cases h; exact t_X0_keep _ x13 σ10) (q := (RX0, TX0, 2)) rfl rfl rfl (Nat.le_of_ble_eq_true rfl) rfl (fun s args hts => cwV 1 hts gX8_machine_X0_keep rfl rfl rfl (by decide +kernel) ⟨Nat.le_of_ble_eq_true rfl, Nat.le_of_ble_eq_true rfl⟩) rfl rfl dX8_machine_62 (fun _ σ14 _ => ?_)
              refine V_aload (x := r9) dX8_machine_65 rfl ?_
              refine V_iload_n (x := a1) dX8_machine_67 rfl ?_
              refine V_iload_n (x := a2) dX8_machine_68 rfl ?_
              refine V_iload_n (x := a3) dX8_machine_69 rfl ?_
              refine V_callV0 (As := [.int a1, .int a2, .int a3]) (st0 := []) (stI := [.int a3, .int a2, .int a1, va_rf r9]) (fun _ h => by cases h; exact t_X2_put _ a1 a2 a3 σ14) (q := (RX2, TX2, 6)) rfl rfl rfl (Nat.le_of_ble_eq_true rfl) rfl (fun s args hts => cwV 3 hts gX8_machine_X2_put rfl rfl rfl (by decide +kernel) ⟨Nat.le_of_ble_eq_true rfl, Nat.le_of_ble_eq_true rfl⟩) rfl rfl dX8_machine_70 (fun _ σ15 _ => ?_)
              refine V_aload (x := r9) dX8_machine_73 rfl ?_
              refine V_getI fd_X8_machine_71_X2 dX8_machine_75 (fun x16 => ?_)
              exact V_iret (fun _ => rfl) rfl (Nat.zero_le _) (Nat.zero_le _) dX8_machine_78
          · refine V_bipush (v := (-2 : Int32)) dX8_machine_34 rfl ?_
            exact V_iret (fun _ => rfl) rfl (Nat.zero_le _) (Nat.zero_le _) dX8_machine_36
      · refine V_bipush (v := (-2 : Int32)) dX8_machine_20 rfl ?_
        exact V_iret (fun _ => rfl) rfl (Nat.zero_le _) (Nat.zero_le _) dX8_machine_22
theorem t_X8_machine {D : DG} {z0 : Nat} {l : Launch} (a : Nat) (a1 : Int32) (a2 : Int32) (a3 : Int32) (σ : SG) : MT D z0 l yX8_machine wsX8_machine rmX8_machine tvI [.ref a, .int a1, .int a2, .int a3] σ (m_X8_machine (some a) a1 a2 a3 σ) :=
  MT.of (own := RX8) (cc := cX8_machine) (nL := 5) (ret := (some .int)) (ct := false) (by decide) rfl rfl (fun h => by cases h) (Nat.le_of_ble_eq_true rfl) (by intro v hv; simp only [List.mem_cons, List.not_mem_nil, or_false] at hv; first | (rcases hv with rfl | rfl | rfl | rfl <;> first | rfl | exact va_rf_cat _) | exact absurd hv (fun h => h)) (v_X8_machine (some a) a1 a2 a3 σ)
theorem in_X8_lamp_X8 : ∀ w ∈ u_ws RX8 TX8 6, w ∈ wsX8_lamp := by decide +kernel
theorem wd_X8_lamp_1 : Cond.fieldLink RX8 10 "MainsWords" "now" "LMainsWords$Net;" ∈ wsX8_lamp := by decide +kernel
theorem fd_X8_lamp_10_X8 : FD RX8 10 wsX8_lamp 7 0 := ⟨RX8, "MainsWords", TX8, 6, rfl, in_X8_lamp_X8, by decide, wd_X8_lamp_1, Or.inl rfl⟩
theorem wd_X8_lamp_3 : Cond.fieldLink RX8 29 "MainsWords" "history" "LMainsWords$History;" ∈ wsX8_lamp := by decide +kernel
theorem fd_X8_lamp_29_X8 : FD RX8 29 wsX8_lamp 7 4 := ⟨RX8, "MainsWords", TX8, 6, rfl, in_X8_lamp_X8, by decide, wd_X8_lamp_3, Or.inl rfl⟩
theorem wd_X8_lamp_5 : Cond.sameField "MainsWords$Lamp" "MainsWords$Thing" "number" "I" ∈ wsX8_lamp := by decide +kernel
theorem in_X8_lamp_X1 : ∀ w ∈ u_ws RX1 TX1 7, w ∈ wsX8_lamp := by decide +kernel
theorem wd_X8_lamp_7 : Cond.fieldLink RX8 79 "MainsWords$Lamp" "number" "I" ∈ wsX8_lamp := by decide +kernel
theorem fd_X8_lamp_79_X1 : FD RX8 79 wsX8_lamp 1 0 := ⟨RX1, "MainsWords$Lamp", TX1, 7, rfl, in_X8_lamp_X1, by decide, wd_X8_lamp_7, Or.inr wd_X8_lamp_5⟩
set_option maxRecDepth 100000 in
set_option maxHeartbeats 4000000 in
theorem v_X8_lamp {D : DG} {z0 : Nat} {l : Launch} : ∀ (a0 : Option Nat) (a1 : Int32) (a2 : Int32) (a3 : Int32) (σ : SG), V D z0 l RX8 cX8_lamp 5 wsX8_lamp (some .int) rmX8_lamp false tvI 0 [some (va_rf a0), some (.int a1), some (.int a2), some (.int a3), none] [] σ 0 0 (m_X8_lamp a0 a1 a2 a3 σ) := by
  intro a0 a1 a2 a3 σ
  unfold m_X8_lamp
  refine V_iload_n (x := a1) dX8_lamp_0 rfl ?_
  refine V_callS0 (As := [.int a1]) (st0 := []) (stI := [.int a1]) (t_X8_isWire a1 σ) rfl (Nat.le_of_ble_eq_true rfl) rfl (fun s args hts => va_cwS 1 hts gX8_lamp_X8_isWire rfl rfl rfl (by decide +kernel) ⟨Nat.le_of_ble_eq_true rfl, Nat.le_of_ble_eq_true rfl⟩) rfl rfl dX8_lamp_1 (fun r1 σ2 _ => ?_)
  refine V_if_ne (tgt := 9) (x := r1) dX8_lamp_4 (by decide) (fun hc3 => ?_) (fun hc3 => ?_)
  · refine V_iconst (v := (-1 : Int32)) dX8_lamp_7 rfl ?_
    exact V_iret (fun _ => rfl) rfl (Nat.zero_le _) (Nat.zero_le _) dX8_lamp_8
  · refine V_iload_n (x := a2) dX8_lamp_9 rfl ?_
    refine V_if_lt (tgt := 27) (x := a2) dX8_lamp_10 (by decide) (fun hc4 => ?_) (fun hc4 => ?_)
    · refine V_bipush (v := (-2 : Int32)) dX8_lamp_27 rfl ?_
      exact V_iret (fun _ => rfl) rfl (Nat.zero_le _) (Nat.zero_le _) dX8_lamp_29
    · refine V_iload_n (x := a2) dX8_lamp_13 rfl ?_
      refine V_iconst (v := (4 : Int32)) dX8_lamp_14 rfl ?_
      refine V_icmp_ge (tgt := 27) (x := a2) (y := (4 : Int32)) dX8_lamp_15 (by decide) (fun hc5 => ?_) (fun hc5 => ?_)
      · refine V_bipush (v := (-2 : Int32)) dX8_lamp_27 rfl ?_
        exact V_iret (fun _ => rfl) rfl (Nat.zero_le _) (Nat.zero_le _) dX8_lamp_29
      · refine V_iload_n (x := a3) dX8_lamp_18 rfl ?_
        refine V_if_lt (tgt := 27) (x := a3) dX8_lamp_19 (by decide) (fun hc6 => ?_) (fun hc6 => ?_)
        · refine V_bipush (v := (-2 : Int32)) dX8_lamp_27 rfl ?_
          exact V_iret (fun _ => rfl) rfl (Nat.zero_le _) (Nat.zero_le _) dX8_lamp_29
        · refine V_iload_n (x := a3) dX8_lamp_22 rfl ?_
          refine V_iconst (v := (4 : Int32)) dX8_lamp_23 rfl ?_
          refine V_icmp_lt (tgt := 30) (x := a3) (y := (4 : Int32)) dX8_lamp_24 (by decide) (fun hc7 => ?_) (fun hc7 => ?_)
          · refine V_aload_n (x := a0) dX8_lamp_30 rfl ?_
            refine V_getR fd_X8_lamp_10_X8 dX8_lamp_31 (fun x8 => ?_)
            refine V_callV0 (As := []) (st0 := []) (stI := [va_rf x8]) (fun _ h => by cases h; exact t_X3_freeLamp _ σ2) (q := (RX3, TX3, 8)) rfl rfl rfl (Nat.le_of_ble_eq_true rfl) rfl (fun s args hts => cwV 0 hts gX8_lamp_X3_freeLamp rfl rfl rfl (by decide +kernel) ⟨Nat.le_of_ble_eq_true rfl, Nat.le_of_ble_eq_true rfl⟩) rfl rfl dX8_lamp_34 (fun r9 σ10 _ => ?_)
            refine V_astore (x := r9) (ls' := [some (va_rf a0), some (.int a1), some (.int a2), some (.int a3), some (va_rf r9)]) dX8_lamp_37 (by decide) rfl ?_
            refine V_aload (x := r9) dX8_lamp_39 rfl ?_
            refine V_ifnonnull (tgt := 47) (x := r9) dX8_lamp_41 (by decide) (fun hc11 => ?_) (fun hc11 => ?_)
            · refine V_bipush (v := (-3 : Int32)) dX8_lamp_44 rfl ?_
              exact V_iret (fun _ => rfl) rfl (Nat.zero_le _) (Nat.zero_le _) dX8_lamp_46
            · refine V_aload_n (x := a0) dX8_lamp_47 rfl ?_
              refine V_getR fd_X8_lamp_29_X8 dX8_lamp_48 (fun x12 => ?_)
              refine V_aload_n (x := a0) dX8_lamp_51 rfl ?_
              refine V_getR fd_X8_lamp_10_X8 dX8_lamp_52 (fun x13 => ?_)
              refine V_callV0 (As := [va_rf x13]) (st0 := []) (stI := [va_rf x13, va_rf x12]) (fun _ h => by cases h; exact t_X0_keep _ x13 σ10) (q := (RX0, TX0, 2)) rfl rfl rfl (Nat.le_of_ble_eq_true rfl) rfl (fun s args hts => cwV 1 hts gX8_lamp_X0_keep rfl rfl rfl (by decide +kernel) ⟨Nat.le_of_ble_eq_true rfl, Nat.le_of_ble_eq_true rfl⟩) rfl rfl dX8_lamp_55 (fun _ σ14 _ => ?_)
              refine V_aload (x := r9) dX8_lamp_58 rfl ?_
              refine V_iload_n (x := a1) dX8_lamp_60 rfl ?_
              refine V_iload_n (x := a2) dX8_lamp_61 rfl ?_
              refine V_iload_n (x := a3) dX8_lamp_62 rfl ?_
              refine V_callV0 (As := [.int a1, .int a2, .int a3]) (st0 := []) (stI := [.int a3, .int a2, .int a1, va_rf r9]) (fun _ h => by cases h; exact t_X1_put _ a1 a2 a3 σ14) (q := (RX1, TX1, 7)) rfl rfl rfl (Nat.le_of_ble_eq_true rfl) rfl (fun s args hts => cwV 3 hts gX8_lamp_X1_put rfl rfl rfl (by decide +kernel) ⟨Nat.le_of_ble_eq_true rfl, Nat.le_of_ble_eq_true rfl⟩) rfl rfl dX8_lamp_63 (fun _ σ15 _ => ?_)
              refine V_aload (x := r9) dX8_lamp_66 rfl ?_
              refine V_getI fd_X8_lamp_79_X1 dX8_lamp_68 (fun x16 => ?_)
              exact V_iret (fun _ => rfl) rfl (Nat.zero_le _) (Nat.zero_le _) dX8_lamp_71
          · refine V_bipush (v := (-2 : Int32)) dX8_lamp_27 rfl ?_
            exact V_iret (fun _ => rfl) rfl (Nat.zero_le _) (Nat.zero_le _) dX8_lamp_29
theorem t_X8_lamp {D : DG} {z0 : Nat} {l : Launch} (a : Nat) (a1 : Int32) (a2 : Int32) (a3 : Int32) (σ : SG) : MT D z0 l yX8_lamp wsX8_lamp rmX8_lamp tvI [.ref a, .int a1, .int a2, .int a3] σ (m_X8_lamp (some a) a1 a2 a3 σ) :=
  MT.of (own := RX8) (cc := cX8_lamp) (nL := 5) (ret := (some .int)) (ct := false) (by decide) rfl rfl (fun h => by cases h) (Nat.le_of_ble_eq_true rfl) (by intro v hv; simp only [List.mem_cons, List.not_mem_nil, or_false] at hv; first | (rcases hv with rfl | rfl | rfl | rfl <;> first | rfl | exact va_rf_cat _) | exact absurd hv (fun h => h)) (v_X8_lamp (some a) a1 a2 a3 σ)
theorem in_X8_remove_X8 : ∀ w ∈ u_ws RX8 TX8 6, w ∈ wsX8_remove := by decide +kernel
theorem wd_X8_remove_1 : Cond.fieldLink RX8 10 "MainsWords" "now" "LMainsWords$Net;" ∈ wsX8_remove := by decide +kernel
theorem fd_X8_remove_10_X8 : FD RX8 10 wsX8_remove 7 0 := ⟨RX8, "MainsWords", TX8, 6, rfl, in_X8_remove_X8, by decide, wd_X8_remove_1, Or.inl rfl⟩
theorem wd_X8_remove_3 : Cond.fieldLink RX8 29 "MainsWords" "history" "LMainsWords$History;" ∈ wsX8_remove := by decide +kernel
theorem fd_X8_remove_29_X8 : FD RX8 29 wsX8_remove 7 4 := ⟨RX8, "MainsWords", TX8, 6, rfl, in_X8_remove_X8, by decide, wd_X8_remove_3, Or.inl rfl⟩
theorem in_X8_remove_X1 : ∀ w ∈ u_ws RX1 TX1 7, w ∈ wsX8_remove := by decide +kernel
theorem wd_X8_remove_6 : Cond.fieldLink RX8 88 "MainsWords$Thing" "isPresent" "Z" ∈ wsX8_remove := by decide +kernel
theorem fd_X8_remove_88_X1 : FD RX8 88 wsX8_remove 1 1 := ⟨RX1, "MainsWords$Thing", TX1, 7, rfl, in_X8_remove_X1, by decide, wd_X8_remove_6, Or.inl rfl⟩
theorem fw_X8_remove_X1_1 : FW RX8 wsX8_remove 1 1 .boolean false := ⟨RX1, TX1, 7, tyX1, rfl, in_X8_remove_X1, tyX1_ok, nmX1, rfl, (fun h => by cases h), rfl⟩
theorem in_X8_remove_X2 : ∀ w ∈ u_ws RX2 TX2 6, w ∈ wsX8_remove := by decide +kernel
theorem fd_X8_remove_88_X2 : FD RX8 88 wsX8_remove 2 1 := ⟨RX2, "MainsWords$Thing", TX2, 6, rfl, in_X8_remove_X2, by decide, wd_X8_remove_6, Or.inl rfl⟩
theorem fw_X8_remove_X2_1 : FW RX8 wsX8_remove 2 1 .boolean false := ⟨RX2, TX2, 6, tyX2, rfl, in_X8_remove_X2, tyX2_ok, nmX2, rfl, (fun h => by cases h), rfl⟩
theorem in_X8_remove_X6 : ∀ w ∈ u_ws RX6 TX6 10, w ∈ wsX8_remove := by decide +kernel
theorem fd_X8_remove_88_X6 : FD RX8 88 wsX8_remove 6 1 := ⟨RX6, "MainsWords$Thing", TX6, 10, rfl, in_X8_remove_X6, by decide, wd_X8_remove_6, Or.inl rfl⟩
theorem fw_X8_remove_X6_1 : FW RX8 wsX8_remove 6 1 .boolean false := ⟨RX6, TX6, 10, tyX6, rfl, in_X8_remove_X6, tyX6_ok, nmX6, rfl, (fun h => by cases h), rfl⟩
theorem wd_X8_remove_15 : Cond.fieldLink RX8 93 "MainsWords$Thing" "wire" "I" ∈ wsX8_remove := by decide +kernel
theorem fd_X8_remove_93_X1 : FD RX8 93 wsX8_remove 1 2 := ⟨RX1, "MainsWords$Thing", TX1, 7, rfl, in_X8_remove_X1, by decide, wd_X8_remove_15, Or.inl rfl⟩
theorem fd_X8_remove_93_X2 : FD RX8 93 wsX8_remove 2 2 := ⟨RX2, "MainsWords$Thing", TX2, 6, rfl, in_X8_remove_X2, by decide, wd_X8_remove_15, Or.inl rfl⟩
theorem fd_X8_remove_93_X6 : FD RX8 93 wsX8_remove 6 2 := ⟨RX6, "MainsWords$Thing", TX6, 10, rfl, in_X8_remove_X6, by decide, wd_X8_remove_15, Or.inl rfl⟩
set_option maxRecDepth 100000 in
set_option maxHeartbeats 4000000 in
theorem v_X8_remove {D : DG} {z0 : Nat} {l : Launch} : ∀ (a0 : Option Nat) (a1 : Int32) (a2 : Int32) (σ : SG), V D z0 l RX8 cX8_remove 5 wsX8_remove (some .int) rmX8_remove false tvI 0 [some (va_rf a0), some (.int a1), some (.int a2), none, none] [] σ 0 0 (m_X8_remove a0 a1 a2 σ) := by
  intro a0 a1 a2 σ
  unfold m_X8_remove
  refine V_aload_n (x := a0) dX8_remove_0 rfl ?_
  refine V_getR fd_X8_remove_10_X8 dX8_remove_1 (fun x1 => ?_)
  refine V_iload_n (x := a1) dX8_remove_4 rfl ?_
  refine V_callV0 (As := [.int a1]) (st0 := []) (stI := [.int a1, va_rf x1]) (fun _ h => by cases h; exact t_X3_thingsOf _ a1 σ) (q := (RX3, TX3, 8)) rfl rfl rfl (Nat.le_of_ble_eq_true rfl) rfl (fun s args hts => cwV 1 hts gX8_remove_X3_thingsOf rfl rfl rfl (by decide +kernel) ⟨Nat.le_of_ble_eq_true rfl, Nat.le_of_ble_eq_true rfl⟩) rfl rfl dX8_remove_5 (fun r2 σ3 _ => ?_)
  refine V_astore_n (x := r2) (ls' := [some (va_rf a0), some (.int a1), some (.int a2), some (va_rf r2), none]) dX8_remove_8 (by decide) rfl ?_
  refine V_aload_n (x := r2) dX8_remove_9 rfl ?_
  refine V_ifnonnull (tgt := 16) (x := r2) dX8_remove_10 (by decide) (fun hc4 => ?_) (fun hc4 => ?_)
  · refine V_bipush (v := (-2 : Int32)) dX8_remove_13 rfl ?_
    exact V_iret (fun _ => rfl) rfl (Nat.zero_le _) (Nat.zero_le _) dX8_remove_15
  · refine V_aload_n (x := r2) dX8_remove_16 rfl ?_
    refine V_iload_n (x := a2) dX8_remove_17 rfl ?_
    refine V_callS0 (As := [va_rf r2, .int a2]) (st0 := []) (stI := [.int a2, va_rf r2]) (t_X8_presentAt r2 a2 σ3) rfl (Nat.le_of_ble_eq_true rfl) rfl (fun s args hts => va_cwS 2 hts gX8_remove_X8_presentAt rfl rfl rfl (by decide +kernel) ⟨Nat.le_of_ble_eq_true rfl, Nat.le_of_ble_eq_true rfl⟩) rfl rfl dX8_remove_18 (fun r5 σ6 _ => ?_)
    refine V_astore (x := r5) (ls' := [some (va_rf a0), some (.int a1), some (.int a2), some (va_rf r2), some (va_rf r5)]) dX8_remove_21 (by decide) rfl ?_
    refine V_aload (x := r5) dX8_remove_23 rfl ?_
    refine V_ifnonnull (tgt := 30) (x := r5) dX8_remove_25 (by decide) (fun hc7 => ?_) (fun hc7 => ?_)
    · refine V_iconst (v := (-1 : Int32)) dX8_remove_28 rfl ?_
      exact V_iret (fun _ => rfl) rfl (Nat.zero_le _) (Nat.zero_le _) dX8_remove_29
    · refine V_aload_n (x := a0) dX8_remove_30 rfl ?_
      refine V_getR fd_X8_remove_29_X8 dX8_remove_31 (fun x8 => ?_)
      refine V_aload_n (x := a0) dX8_remove_34 rfl ?_
      refine V_getR fd_X8_remove_10_X8 dX8_remove_35 (fun x9 => ?_)
      refine V_callV0 (As := [va_rf x9]) (st0 := []) (stI := [va_rf x9, va_rf x8]) (fun _ h => by cases h; exact t_X0_keep _ x9 σ6) (q := (RX0, TX0, 2)) rfl rfl rfl (Nat.le_of_ble_eq_true rfl) rfl (fun s args hts => cwV 1 hts gX8_remove_X0_keep rfl rfl rfl (by decide +kernel) ⟨Nat.le_of_ble_eq_true rfl, Nat.le_of_ble_eq_true rfl⟩) rfl rfl dX8_remove_38 (fun _ σ10 _ => ?_)
      refine V_aload (x := r5) dX8_remove_41 rfl ?_
      refine V_iconst (v := (0 : Int32)) dX8_remove_43 rfl ?_
      refine V_putZT (LE3 (⟨fd_X8_remove_88_X1, fw_X8_remove_X1_1⟩) (⟨fd_X8_remove_88_X2, fw_X8_remove_X2_1⟩) (⟨fd_X8_remove_88_X6, fw_X8_remove_X6_1⟩)) dX8_remove_44 (fun σ11 hσ11 => ?_)
      refine V_aload (x := r5) dX8_remove_47 rfl ?_
      refine V_getIT (LE3 fd_X8_remove_93_X1 fd_X8_remove_93_X2 fd_X8_remove_93_X6) dX8_remove_49 (fun x12 => ?_)
      exact V_iret (fun _ => rfl) rfl (Nat.zero_le _) (Nat.zero_le _) dX8_remove_52
theorem t_X8_remove {D : DG} {z0 : Nat} {l : Launch} (a : Nat) (a1 : Int32) (a2 : Int32) (σ : SG) : MT D z0 l yX8_remove wsX8_remove rmX8_remove tvI [.ref a, .int a1, .int a2] σ (m_X8_remove (some a) a1 a2 σ) :=
  MT.of (own := RX8) (cc := cX8_remove) (nL := 5) (ret := (some .int)) (ct := false) (by decide) rfl rfl (fun h => by cases h) (Nat.le_of_ble_eq_true rfl) (by intro v hv; simp only [List.mem_cons, List.not_mem_nil, or_false] at hv; first | (rcases hv with rfl | rfl | rfl <;> first | rfl | exact va_rf_cat _) | exact absurd hv (fun h => h)) (v_X8_remove (some a) a1 a2 σ)
theorem in_X8_say_X8 : ∀ w ∈ u_ws RX8 TX8 6, w ∈ wsX8_say := by decide +kernel
theorem wd_X8_say_1 : Cond.fieldLink RX8 10 "MainsWords" "now" "LMainsWords$Net;" ∈ wsX8_say := by decide +kernel
theorem fd_X8_say_10_X8 : FD RX8 10 wsX8_say 7 0 := ⟨RX8, "MainsWords", TX8, 6, rfl, in_X8_say_X8, by decide, wd_X8_say_1, Or.inl rfl⟩
theorem wd_X8_say_3 : Cond.fieldLink RX8 29 "MainsWords" "history" "LMainsWords$History;" ∈ wsX8_say := by decide +kernel
theorem fd_X8_say_29_X8 : FD RX8 29 wsX8_say 7 4 := ⟨RX8, "MainsWords", TX8, 6, rfl, in_X8_say_X8, by decide, wd_X8_say_3, Or.inl rfl⟩
set_option maxRecDepth 100000 in
set_option maxHeartbeats 4000000 in
theorem v_X8_say {D : DG} {z0 : Nat} {l : Launch} : ∀ (a0 : Option Nat) (a1 : Int32) (a2 : Int32) (σ : SG), V D z0 l RX8 cX8_say 4 wsX8_say (some .int) rmX8_say false tvI 0 [some (va_rf a0), some (.int a1), some (.int a2), none] [] σ 0 0 (m_X8_say a0 a1 a2 σ) := by
  intro a0 a1 a2 σ
  unfold m_X8_say
  refine V_aload_n (x := a0) dX8_say_0 rfl ?_
  refine V_getR fd_X8_say_10_X8 dX8_say_1 (fun x1 => ?_)
  refine V_iload_n (x := a1) dX8_say_4 rfl ?_
  refine V_iload_n (x := a2) dX8_say_5 rfl ?_
  refine V_callV0 (As := [.int a1, .int a2]) (st0 := []) (stI := [.int a2, .int a1, va_rf x1]) (fun _ h => by cases h; exact t_X3_refusalOfWord _ a1 a2 σ) (q := (RX3, TX3, 8)) rfl rfl rfl (Nat.le_of_ble_eq_true rfl) rfl (fun s args hts => cwV 2 hts gX8_say_X3_refusalOfWord rfl rfl rfl (by decide +kernel) ⟨Nat.le_of_ble_eq_true rfl, Nat.le_of_ble_eq_true rfl⟩) rfl rfl dX8_say_6 (fun r2 σ3 _ => ?_)
  refine V_istore_n (x := r2) (ls' := [some (va_rf a0), some (.int a1), some (.int a2), some (.int r2)]) dX8_say_9 (by decide) rfl ?_
  refine V_iload_n (x := r2) dX8_say_10 rfl ?_
  refine V_if_ge (tgt := 16) (x := r2) dX8_say_11 (by decide) (fun hc4 => ?_) (fun hc4 => ?_)
  · refine V_aload_n (x := a0) dX8_say_16 rfl ?_
    refine V_getR fd_X8_say_29_X8 dX8_say_17 (fun x5 => ?_)
    refine V_aload_n (x := a0) dX8_say_20 rfl ?_
    refine V_getR fd_X8_say_10_X8 dX8_say_21 (fun x6 => ?_)
    refine V_callV0 (As := [va_rf x6]) (st0 := []) (stI := [va_rf x6, va_rf x5]) (fun _ h => by cases h; exact t_X0_keep _ x6 σ3) (q := (RX0, TX0, 2)) rfl rfl rfl (Nat.le_of_ble_eq_true rfl) rfl (fun s args hts => cwV 1 hts gX8_say_X0_keep rfl rfl rfl (by decide +kernel) ⟨Nat.le_of_ble_eq_true rfl, Nat.le_of_ble_eq_true rfl⟩) rfl rfl dX8_say_24 (fun _ σ7 _ => ?_)
    refine V_aload_n (x := a0) dX8_say_27 rfl ?_
    refine V_getR fd_X8_say_10_X8 dX8_say_28 (fun x8 => ?_)
    refine V_iload_n (x := a1) dX8_say_31 rfl ?_
    refine V_iload_n (x := a2) dX8_say_32 rfl ?_
    refine V_callV0 (As := [.int a1, .int a2]) (st0 := []) (stI := [.int a2, .int a1, va_rf x8]) (fun _ h => by cases h; exact t_X3_giveWord _ a1 a2 σ7) (q := (RX3, TX3, 8)) rfl rfl rfl (Nat.le_of_ble_eq_true rfl) rfl (fun s args hts => cwV 2 hts gX8_say_X3_giveWord rfl rfl rfl (by decide +kernel) ⟨Nat.le_of_ble_eq_true rfl, Nat.le_of_ble_eq_true rfl⟩) rfl rfl dX8_say_33 (fun r9 σ10 _ => ?_)
    exact V_iret (fun _ => rfl) rfl (Nat.zero_le _) (Nat.zero_le _) dX8_say_36
  · refine V_iload_n (x := r2) dX8_say_14 rfl ?_
    exact V_iret (fun _ => rfl) rfl (Nat.zero_le _) (Nat.zero_le _) dX8_say_15
theorem t_X8_say {D : DG} {z0 : Nat} {l : Launch} (a : Nat) (a1 : Int32) (a2 : Int32) (σ : SG) : MT D z0 l yX8_say wsX8_say rmX8_say tvI [.ref a, .int a1, .int a2] σ (m_X8_say (some a) a1 a2 σ) :=
  MT.of (own := RX8) (cc := cX8_say) (nL := 4) (ret := (some .int)) (ct := false) (by decide) rfl rfl (fun h => by cases h) (Nat.le_of_ble_eq_true rfl) (by intro v hv; simp only [List.mem_cons, List.not_mem_nil, or_false] at hv; first | (rcases hv with rfl | rfl | rfl <;> first | rfl | exact va_rf_cat _) | exact absurd hv (fun h => h)) (v_X8_say (some a) a1 a2 σ)
theorem in_X8_run_X8 : ∀ w ∈ u_ws RX8 TX8 6, w ∈ wsX8_run := by decide +kernel
theorem wd_X8_run_1 : Cond.fieldLink RX8 10 "MainsWords" "now" "LMainsWords$Net;" ∈ wsX8_run := by decide +kernel
theorem fd_X8_run_10_X8 : FD RX8 10 wsX8_run 7 0 := ⟨RX8, "MainsWords", TX8, 6, rfl, in_X8_run_X8, by decide, wd_X8_run_1, Or.inl rfl⟩
theorem wd_X8_run_3 : Cond.fieldLink RX8 29 "MainsWords" "history" "LMainsWords$History;" ∈ wsX8_run := by decide +kernel
theorem fd_X8_run_29_X8 : FD RX8 29 wsX8_run 7 4 := ⟨RX8, "MainsWords", TX8, 6, rfl, in_X8_run_X8, by decide, wd_X8_run_3, Or.inl rfl⟩
theorem in_X8_run_X2 : ∀ w ∈ u_ws RX2 TX2 6, w ∈ wsX8_run := by decide +kernel
theorem wd_X8_run_6 : Cond.fieldLink RX8 107 "MainsWords$Machine" "isOn" "Z" ∈ wsX8_run := by decide +kernel
theorem fd_X8_run_107_X2 : FD RX8 107 wsX8_run 2 5 := ⟨RX2, "MainsWords$Machine", TX2, 6, rfl, in_X8_run_X2, by decide, wd_X8_run_6, Or.inl rfl⟩
theorem fw_X8_run_X2_5 : FW RX8 wsX8_run 2 5 .boolean false := ⟨RX2, TX2, 6, tyX2, rfl, in_X8_run_X2, tyX2_ok, nmX2, rfl, (fun h => by cases h), rfl⟩
set_option maxRecDepth 100000 in
set_option maxHeartbeats 4000000 in
theorem v_X8_run {D : DG} {z0 : Nat} {l : Launch} : ∀ (a0 : Option Nat) (a1 : Int32) (a2 : Int32) (σ : SG), V D z0 l RX8 cX8_run 5 wsX8_run (some .int) rmX8_run false tvI 0 [some (va_rf a0), some (.int a1), some (.int a2), none, none] [] σ 0 0 (m_X8_run a0 a1 a2 σ) := by
  intro a0 a1 a2 σ
  unfold m_X8_run
  refine V_aload_n (x := a0) dX8_run_0 rfl ?_
  refine V_getR fd_X8_run_10_X8 dX8_run_1 (fun x1 => ?_)
  refine V_iload_n (x := a1) dX8_run_4 rfl ?_
  refine V_callV0 (As := [.int a1]) (st0 := []) (stI := [.int a1, va_rf x1]) (fun _ h => by cases h; exact t_X3_machineAt _ a1 σ) (q := (RX3, TX3, 8)) rfl rfl rfl (Nat.le_of_ble_eq_true rfl) rfl (fun s args hts => cwV 1 hts gX8_run_X3_machineAt rfl rfl rfl (by decide +kernel) ⟨Nat.le_of_ble_eq_true rfl, Nat.le_of_ble_eq_true rfl⟩) rfl rfl dX8_run_5 (fun r2 σ3 _ => ?_)
  refine V_astore_n (x := r2) (ls' := [some (va_rf a0), some (.int a1), some (.int a2), some (va_rf r2), none]) dX8_run_8 (by decide) rfl ?_
  refine V_aload_n (x := r2) dX8_run_9 rfl ?_
  refine V_ifnonnull (tgt := 15) (x := r2) dX8_run_10 (by decide) (fun hc4 => ?_) (fun hc4 => ?_)
  · refine V_iconst (v := (-1 : Int32)) dX8_run_13 rfl ?_
    exact V_iret (fun _ => rfl) rfl (Nat.zero_le _) (Nat.zero_le _) dX8_run_14
  · refine V_aload_n (x := a0) dX8_run_15 rfl ?_
    refine V_getR fd_X8_run_29_X8 dX8_run_16 (fun x5 => ?_)
    refine V_aload_n (x := a0) dX8_run_19 rfl ?_
    refine V_getR fd_X8_run_10_X8 dX8_run_20 (fun x6 => ?_)
    refine V_callV0 (As := [va_rf x6]) (st0 := []) (stI := [va_rf x6, va_rf x5]) (fun _ h => by cases h; exact t_X0_keep _ x6 σ3) (q := (RX0, TX0, 2)) rfl rfl rfl (Nat.le_of_ble_eq_true rfl) rfl (fun s args hts => cwV 1 hts gX8_run_X0_keep rfl rfl rfl (by decide +kernel) ⟨Nat.le_of_ble_eq_true rfl, Nat.le_of_ble_eq_true rfl⟩) rfl rfl dX8_run_23 (fun _ σ7 _ => ?_)
    refine V_aload_n (x := r2) dX8_run_26 rfl ?_
    refine V_getI fd_X8_run_107_X2 dX8_run_27 (fun x8 => ?_)
    refine V_callS0 (As := [.int x8]) (st0 := []) (stI := [.int x8]) (t_X8_asNumber x8 σ7) rfl (Nat.le_of_ble_eq_true rfl) rfl (fun s args hts => va_cwS 1 hts gX8_run_X8_asNumber rfl rfl rfl (by decide +kernel) ⟨Nat.le_of_ble_eq_true rfl, Nat.le_of_ble_eq_true rfl⟩) rfl rfl dX8_run_30 (fun r9 σ10 _ => ?_)
    refine V_istore (x := r9) (ls' := [some (va_rf a0), some (.int a1), some (.int a2), some (va_rf r2), some (.int r9)]) dX8_run_33 (by decide) rfl ?_
    refine V_aload_n (x := r2) dX8_run_35 rfl ?_
    refine V_iload_n (x := a2) dX8_run_36 rfl ?_
    refine V_putZ fd_X8_run_107_X2 fw_X8_run_X2_5 (fun h => by cases h) dX8_run_37 (fun σ11 hσ11 => ?_)
    refine V_iload (x := r9) dX8_run_40 rfl ?_
    exact V_iret (fun _ => rfl) rfl (Nat.zero_le _) (Nat.zero_le _) dX8_run_42
theorem t_X8_run {D : DG} {z0 : Nat} {l : Launch} (a : Nat) (a1 : Int32) (a2 : Int32) (σ : SG) : MT D z0 l yX8_run wsX8_run rmX8_run tvI [.ref a, .int a1, .int a2] σ (m_X8_run (some a) a1 a2 σ) :=
  MT.of (own := RX8) (cc := cX8_run) (nL := 5) (ret := (some .int)) (ct := false) (by decide) rfl rfl (fun h => by cases h) (Nat.le_of_ble_eq_true rfl) (by intro v hv; simp only [List.mem_cons, List.not_mem_nil, or_false] at hv; first | (rcases hv with rfl | rfl | rfl <;> first | rfl | exact va_rf_cat _) | exact absurd hv (fun h => h)) (v_X8_run (some a) a1 a2 σ)
theorem wd_X8_set_0 : Cond.fieldLink RX8 114 "MainsWords" "LEAST_SETTING" "[I" ∈ wsX8_set := by decide +kernel
theorem wd_X8_set_1 : Cond.fieldLink RX8 118 "MainsWords" "MOST_SETTING" "[I" ∈ wsX8_set := by decide +kernel
theorem in_X8_set_X8 : ∀ w ∈ u_ws RX8 TX8 6, w ∈ wsX8_set := by decide +kernel
theorem wd_X8_set_3 : Cond.fieldLink RX8 29 "MainsWords" "history" "LMainsWords$History;" ∈ wsX8_set := by decide +kernel
theorem fd_X8_set_29_X8 : FD RX8 29 wsX8_set 7 4 := ⟨RX8, "MainsWords", TX8, 6, rfl, in_X8_set_X8, by decide, wd_X8_set_3, Or.inl rfl⟩
theorem wd_X8_set_5 : Cond.fieldLink RX8 10 "MainsWords" "now" "LMainsWords$Net;" ∈ wsX8_set := by decide +kernel
theorem fd_X8_set_10_X8 : FD RX8 10 wsX8_set 7 0 := ⟨RX8, "MainsWords", TX8, 6, rfl, in_X8_set_X8, by decide, wd_X8_set_5, Or.inl rfl⟩
theorem in_X8_set_X3 : ∀ w ∈ u_ws RX3 TX3 8, w ∈ wsX8_set := by decide +kernel
theorem wd_X8_set_8 : Cond.fieldLink RX8 121 "MainsWords$Net" "settings" "[I" ∈ wsX8_set := by decide +kernel
theorem fd_X8_set_121_X3 : FD RX8 121 wsX8_set 3 4 := ⟨RX3, "MainsWords$Net", TX3, 8, rfl, in_X8_set_X3, by decide, wd_X8_set_8, Or.inl rfl⟩
set_option maxRecDepth 100000 in
set_option maxHeartbeats 4000000 in
theorem v_X8_set {D : DG} {z0 : Nat} {l : Launch} : ∀ (a0 : Option Nat) (a1 : Int32) (a2 : Int32) (σ : SG), V D z0 l RX8 cX8_set 4 wsX8_set (some .int) rmX8_set false tvI 0 [some (va_rf a0), some (.int a1), some (.int a2), none] [] σ 0 0 (m_X8_set a0 a1 a2 σ) := by
  intro a0 a1 a2 σ
  unfold m_X8_set
  refine V_iload_n (x := a1) dX8_set_0 rfl ?_
  refine V_if_lt (tgt := 9) (x := a1) dX8_set_1 (by decide) (fun hc1 => ?_) (fun hc1 => ?_)
  · refine V_iconst (v := (-1 : Int32)) dX8_set_9 rfl ?_
    exact V_iret (fun _ => rfl) rfl (Nat.zero_le _) (Nat.zero_le _) dX8_set_10
  · refine V_iload_n (x := a1) dX8_set_4 rfl ?_
    refine V_iconst (v := (4 : Int32)) dX8_set_5 rfl ?_
    refine V_icmp_lt (tgt := 11) (x := a1) (y := (4 : Int32)) dX8_set_6 (by decide) (fun hc2 => ?_) (fun hc2 => ?_)
    · refine V_iload_n (x := a2) dX8_set_11 rfl ?_
      refine V_sld (x := a1) (Or.inl ⟨rfl, rfl⟩) wd_X8_set_0 dX8_set_12 dX8_set_15 dX8_set_16 rfl (fun x3 => ?_)
      refine V_icmp_lt (tgt := 29) (x := a2) (y := x3) dX8_set_17 (by decide) (fun hc4 => ?_) (fun hc4 => ?_)
      · refine V_bipush (v := (-2 : Int32)) dX8_set_29 rfl ?_
        exact V_iret (fun _ => rfl) rfl (Nat.zero_le _) (Nat.zero_le _) dX8_set_31
      · refine V_iload_n (x := a2) dX8_set_20 rfl ?_
        refine V_sld (x := a1) (Or.inr ⟨rfl, rfl⟩) wd_X8_set_1 dX8_set_21 dX8_set_24 dX8_set_25 rfl (fun x5 => ?_)
        refine V_icmp_le (tgt := 32) (x := a2) (y := x5) dX8_set_26 (by decide) (fun hc6 => ?_) (fun hc6 => ?_)
        · refine V_aload_n (x := a0) dX8_set_32 rfl ?_
          refine V_getR fd_X8_set_29_X8 dX8_set_33 (fun x7 => ?_)
          refine V_aload_n (x := a0) dX8_set_36 rfl ?_
          refine V_getR fd_X8_set_10_X8 dX8_set_37 (fun x8 => ?_)
          refine V_callV0 (As := [va_rf x8]) (st0 := []) (stI := [va_rf x8, va_rf x7]) (fun _ h => by cases h; exact t_X0_keep _ x8 σ) (q := (RX0, TX0, 2)) rfl rfl rfl (Nat.le_of_ble_eq_true rfl) rfl (fun s args hts => cwV 1 hts gX8_set_X0_keep rfl rfl rfl (by decide +kernel) ⟨Nat.le_of_ble_eq_true rfl, Nat.le_of_ble_eq_true rfl⟩) rfl rfl dX8_set_40 (fun _ σ9 _ => ?_)
          refine V_aload_n (x := a0) dX8_set_43 rfl ?_
          refine V_getR fd_X8_set_10_X8 dX8_set_44 (fun x10 => ?_)
          refine V_getR fd_X8_set_121_X3 dX8_set_47 (fun x11 => ?_)
          refine V_iload_n (x := a1) dX8_set_50 rfl ?_
          refine V_iaload dX8_set_51 (fun x12 => ?_)
          refine V_istore_n (x := x12) (ls' := [some (va_rf a0), some (.int a1), some (.int a2), some (.int x12)]) dX8_set_52 (by decide) rfl ?_
          refine V_aload_n (x := a0) dX8_set_53 rfl ?_
          refine V_getR fd_X8_set_10_X8 dX8_set_54 (fun x13 => ?_)
          refine V_getR fd_X8_set_121_X3 dX8_set_57 (fun x14 => ?_)
          refine V_iload_n (x := a1) dX8_set_60 rfl ?_
          refine V_iload_n (x := a2) dX8_set_61 rfl ?_
          refine V_iastore dX8_set_62 (fun σ15 hσ15 => ?_)
          refine V_iload_n (x := x12) dX8_set_63 rfl ?_
          exact V_iret (fun _ => rfl) rfl (Nat.zero_le _) (Nat.zero_le _) dX8_set_64
        · refine V_bipush (v := (-2 : Int32)) dX8_set_29 rfl ?_
          exact V_iret (fun _ => rfl) rfl (Nat.zero_le _) (Nat.zero_le _) dX8_set_31
    · refine V_iconst (v := (-1 : Int32)) dX8_set_9 rfl ?_
      exact V_iret (fun _ => rfl) rfl (Nat.zero_le _) (Nat.zero_le _) dX8_set_10
theorem t_X8_set {D : DG} {z0 : Nat} {l : Launch} (a : Nat) (a1 : Int32) (a2 : Int32) (σ : SG) : MT D z0 l yX8_set wsX8_set rmX8_set tvI [.ref a, .int a1, .int a2] σ (m_X8_set (some a) a1 a2 σ) :=
  MT.of (own := RX8) (cc := cX8_set) (nL := 4) (ret := (some .int)) (ct := false) (by decide) rfl rfl (fun h => by cases h) (Nat.le_of_ble_eq_true rfl) (by intro v hv; simp only [List.mem_cons, List.not_mem_nil, or_false] at hv; first | (rcases hv with rfl | rfl | rfl <;> first | rfl | exact va_rf_cat _) | exact absurd hv (fun h => h)) (v_X8_set (some a) a1 a2 σ)
theorem in_X8_pass_X8 : ∀ w ∈ u_ws RX8 TX8 6, w ∈ wsX8_pass := by decide +kernel
theorem wd_X8_pass_1 : Cond.fieldLink RX8 29 "MainsWords" "history" "LMainsWords$History;" ∈ wsX8_pass := by decide +kernel
theorem fd_X8_pass_29_X8 : FD RX8 29 wsX8_pass 7 4 := ⟨RX8, "MainsWords", TX8, 6, rfl, in_X8_pass_X8, by decide, wd_X8_pass_1, Or.inl rfl⟩
theorem wd_X8_pass_3 : Cond.fieldLink RX8 10 "MainsWords" "now" "LMainsWords$Net;" ∈ wsX8_pass := by decide +kernel
theorem fd_X8_pass_10_X8 : FD RX8 10 wsX8_pass 7 0 := ⟨RX8, "MainsWords", TX8, 6, rfl, in_X8_pass_X8, by decide, wd_X8_pass_3, Or.inl rfl⟩
set_option maxRecDepth 100000 in
set_option maxHeartbeats 4000000 in
theorem v_X8_pass {D : DG} {z0 : Nat} {l : Launch} : ∀ (a0 : Option Nat) (a1 : Int32) (σ : SG), V D z0 l RX8 cX8_pass 2 wsX8_pass (some .int) rmX8_pass false tvI 0 [some (va_rf a0), some (.int a1)] [] σ 0 0 (m_X8_pass a0 a1 σ) := by
  intro a0 a1 σ
  unfold m_X8_pass
  refine V_iload_n (x := a1) dX8_pass_0 rfl ?_
  refine V_iconst (v := (1 : Int32)) dX8_pass_1 rfl ?_
  refine V_icmp_lt (tgt := 11) (x := a1) (y := (1 : Int32)) dX8_pass_2 (by decide) (fun hc1 => ?_) (fun hc1 => ?_)
  · refine V_bipush (v := (-2 : Int32)) dX8_pass_11 rfl ?_
    exact V_iret (fun _ => rfl) rfl (Nat.zero_le _) (Nat.zero_le _) dX8_pass_13
  · refine V_iload_n (x := a1) dX8_pass_5 rfl ?_
    refine V_bipush (v := (99 : Int32)) dX8_pass_6 rfl ?_
    refine V_icmp_le (tgt := 14) (x := a1) (y := (99 : Int32)) dX8_pass_8 (by decide) (fun hc2 => ?_) (fun hc2 => ?_)
    · refine V_aload_n (x := a0) dX8_pass_14 rfl ?_
      refine V_getR fd_X8_pass_29_X8 dX8_pass_15 (fun x3 => ?_)
      refine V_aload_n (x := a0) dX8_pass_18 rfl ?_
      refine V_getR fd_X8_pass_10_X8 dX8_pass_19 (fun x4 => ?_)
      refine V_callV0 (As := [va_rf x4]) (st0 := []) (stI := [va_rf x4, va_rf x3]) (fun _ h => by cases h; exact t_X0_keep _ x4 σ) (q := (RX0, TX0, 2)) rfl rfl rfl (Nat.le_of_ble_eq_true rfl) rfl (fun s args hts => cwV 1 hts gX8_pass_X0_keep rfl rfl rfl (by decide +kernel) ⟨Nat.le_of_ble_eq_true rfl, Nat.le_of_ble_eq_true rfl⟩) rfl rfl dX8_pass_22 (fun _ σ5 _ => ?_)
      refine V_aload_n (x := a0) dX8_pass_25 rfl ?_
      refine V_getR fd_X8_pass_10_X8 dX8_pass_26 (fun x6 => ?_)
      refine V_iload_n (x := a1) dX8_pass_29 rfl ?_
      refine V_callV0 (As := [.int a1]) (st0 := []) (stI := [.int a1, va_rf x6]) (fun _ h => by cases h; exact t_X3_letPass _ a1 σ5) (q := (RX3, TX3, 8)) rfl rfl rfl (Nat.le_of_ble_eq_true rfl) rfl (fun s args hts => cwV 1 hts gX8_pass_X3_letPass rfl rfl rfl (by decide +kernel) ⟨Nat.le_of_ble_eq_true rfl, Nat.le_of_ble_eq_true rfl⟩) rfl rfl dX8_pass_30 (fun r7 σ8 _ => ?_)
      exact V_iret (fun _ => rfl) rfl (Nat.zero_le _) (Nat.zero_le _) dX8_pass_33
    · refine V_bipush (v := (-2 : Int32)) dX8_pass_11 rfl ?_
      exact V_iret (fun _ => rfl) rfl (Nat.zero_le _) (Nat.zero_le _) dX8_pass_13
theorem t_X8_pass {D : DG} {z0 : Nat} {l : Launch} (a : Nat) (a1 : Int32) (σ : SG) : MT D z0 l yX8_pass wsX8_pass rmX8_pass tvI [.ref a, .int a1] σ (m_X8_pass (some a) a1 σ) :=
  MT.of (own := RX8) (cc := cX8_pass) (nL := 2) (ret := (some .int)) (ct := false) (by decide) rfl rfl (fun h => by cases h) (Nat.le_of_ble_eq_true rfl) (by intro v hv; simp only [List.mem_cons, List.not_mem_nil, or_false] at hv; first | (rcases hv with rfl | rfl <;> first | rfl | exact va_rf_cat _) | exact absurd hv (fun h => h)) (v_X8_pass (some a) a1 σ)
theorem in_X8_undo_X8 : ∀ w ∈ u_ws RX8 TX8 6, w ∈ wsX8_undo := by decide +kernel
theorem wd_X8_undo_1 : Cond.fieldLink RX8 29 "MainsWords" "history" "LMainsWords$History;" ∈ wsX8_undo := by decide +kernel
theorem fd_X8_undo_29_X8 : FD RX8 29 wsX8_undo 7 4 := ⟨RX8, "MainsWords", TX8, 6, rfl, in_X8_undo_X8, by decide, wd_X8_undo_1, Or.inl rfl⟩
theorem wd_X8_undo_3 : Cond.fieldLink RX8 10 "MainsWords" "now" "LMainsWords$Net;" ∈ wsX8_undo := by decide +kernel
theorem fd_X8_undo_10_X8 : FD RX8 10 wsX8_undo 7 0 := ⟨RX8, "MainsWords", TX8, 6, rfl, in_X8_undo_X8, by decide, wd_X8_undo_3, Or.inl rfl⟩
theorem in_X8_undo_X0 : ∀ w ∈ u_ws RX0 TX0 2, w ∈ wsX8_undo := by decide +kernel
theorem wd_X8_undo_6 : Cond.fieldLink RX8 161 "MainsWords$History" "kept" "I" ∈ wsX8_undo := by decide +kernel
theorem fd_X8_undo_161_X0 : FD RX8 161 wsX8_undo 0 1 := ⟨RX0, "MainsWords$History", TX0, 2, rfl, in_X8_undo_X0, by decide, wd_X8_undo_6, Or.inl rfl⟩
set_option maxRecDepth 100000 in
set_option maxHeartbeats 4000000 in
theorem v_X8_undo {D : DG} {z0 : Nat} {l : Launch} : ∀ (a0 : Option Nat) (σ : SG), V D z0 l RX8 cX8_undo 1 wsX8_undo (some .int) rmX8_undo false tvI 0 [some (va_rf a0)] [] σ 0 0 (m_X8_undo a0 σ) := by
  intro a0 σ
  unfold m_X8_undo
  refine V_aload_n (x := a0) dX8_undo_0 rfl ?_
  refine V_getR fd_X8_undo_29_X8 dX8_undo_1 (fun x1 => ?_)
  refine V_callV0 (As := []) (st0 := []) (stI := [va_rf x1]) (fun _ h => by cases h; exact t_X0_isEmpty _ σ) (q := (RX0, TX0, 2)) rfl rfl rfl (Nat.le_of_ble_eq_true rfl) rfl (fun s args hts => cwV 0 hts gX8_undo_X0_isEmpty rfl rfl rfl (by decide +kernel) ⟨Nat.le_of_ble_eq_true rfl, Nat.le_of_ble_eq_true rfl⟩) rfl rfl dX8_undo_4 (fun r2 σ3 _ => ?_)
  refine V_if_eq (tgt := 13) (x := r2) dX8_undo_7 (by decide) (fun hc4 => ?_) (fun hc4 => ?_)
  · refine V_aload_n (x := a0) dX8_undo_13 rfl ?_
    refine V_getR fd_X8_undo_29_X8 dX8_undo_14 (fun x5 => ?_)
    refine V_aload_n (x := a0) dX8_undo_17 rfl ?_
    refine V_getR fd_X8_undo_10_X8 dX8_undo_18 (fun x6 => ?_)
    refine V_callV0 (As := [va_rf x6]) (st0 := []) (stI := [va_rf x6, va_rf x5]) (fun _ h => by cases h; exact t_X0_takeBack _ x6 σ3) (q := (RX0, TX0, 2)) rfl rfl rfl (Nat.le_of_ble_eq_true rfl) rfl (fun s args hts => cwV 1 hts gX8_undo_X0_takeBack rfl rfl rfl (by decide +kernel) ⟨Nat.le_of_ble_eq_true rfl, Nat.le_of_ble_eq_true rfl⟩) rfl rfl dX8_undo_21 (fun _ σ7 _ => ?_)
    refine V_aload_n (x := a0) dX8_undo_24 rfl ?_
    refine V_getR fd_X8_undo_29_X8 dX8_undo_25 (fun x8 => ?_)
    refine V_getI fd_X8_undo_161_X0 dX8_undo_28 (fun x9 => ?_)
    exact V_iret (fun _ => rfl) rfl (Nat.zero_le _) (Nat.zero_le _) dX8_undo_31
  · refine V_bipush (v := (-5 : Int32)) dX8_undo_10 rfl ?_
    exact V_iret (fun _ => rfl) rfl (Nat.zero_le _) (Nat.zero_le _) dX8_undo_12
theorem t_X8_undo {D : DG} {z0 : Nat} {l : Launch} (a : Nat)  (σ : SG) : MT D z0 l yX8_undo wsX8_undo rmX8_undo tvI [.ref a] σ (m_X8_undo (some a) σ) :=
  MT.of (own := RX8) (cc := cX8_undo) (nL := 1) (ret := (some .int)) (ct := false) (by decide) rfl rfl (fun h => by cases h) (Nat.le_of_ble_eq_true rfl) (by intro v hv; simp only [List.mem_cons, List.not_mem_nil, or_false] at hv; first | (rcases hv with rfl <;> first | rfl | exact va_rf_cat _) | exact absurd hv (fun h => h)) (v_X8_undo (some a) σ)
theorem in_X8_save_X8 : ∀ w ∈ u_ws RX8 TX8 6, w ∈ wsX8_save := by decide +kernel
theorem wd_X8_save_1 : Cond.fieldLink RX8 19 "MainsWords" "snapshot" "LMainsWords$Net;" ∈ wsX8_save := by decide +kernel
theorem fd_X8_save_19_X8 : FD RX8 19 wsX8_save 7 2 := ⟨RX8, "MainsWords", TX8, 6, rfl, in_X8_save_X8, by decide, wd_X8_save_1, Or.inl rfl⟩
theorem wd_X8_save_3 : Cond.fieldLink RX8 10 "MainsWords" "now" "LMainsWords$Net;" ∈ wsX8_save := by decide +kernel
theorem fd_X8_save_10_X8 : FD RX8 10 wsX8_save 7 0 := ⟨RX8, "MainsWords", TX8, 6, rfl, in_X8_save_X8, by decide, wd_X8_save_3, Or.inl rfl⟩
theorem wd_X8_save_5 : Cond.fieldLink RX8 22 "MainsWords" "hasSnapshot" "Z" ∈ wsX8_save := by decide +kernel
theorem fd_X8_save_22_X8 : FD RX8 22 wsX8_save 7 3 := ⟨RX8, "MainsWords", TX8, 6, rfl, in_X8_save_X8, by decide, wd_X8_save_5, Or.inl rfl⟩
theorem fw_X8_save_X8_3 : FW RX8 wsX8_save 7 3 .boolean false := ⟨RX8, TX8, 6, tyX8, rfl, in_X8_save_X8, tyX8_ok, nmX8, rfl, (fun h => by cases h), rfl⟩
theorem in_X8_save_X3 : ∀ w ∈ u_ws RX3 TX3 8, w ∈ wsX8_save := by decide +kernel
theorem wd_X8_save_9 : Cond.fieldLink RX8 167 "MainsWords$Net" "time" "I" ∈ wsX8_save := by decide +kernel
theorem fd_X8_save_167_X3 : FD RX8 167 wsX8_save 3 6 := ⟨RX3, "MainsWords$Net", TX3, 8, rfl, in_X8_save_X3, by decide, wd_X8_save_9, Or.inl rfl⟩
set_option maxRecDepth 100000 in
set_option maxHeartbeats 4000000 in
theorem v_X8_save {D : DG} {z0 : Nat} {l : Launch} : ∀ (a0 : Option Nat) (σ : SG), V D z0 l RX8 cX8_save 1 wsX8_save (some .int) rmX8_save false tvI 0 [some (va_rf a0)] [] σ 0 0 (m_X8_save a0 σ) := by
  intro a0 σ
  unfold m_X8_save
  refine V_aload_n (x := a0) dX8_save_0 rfl ?_
  refine V_getR fd_X8_save_19_X8 dX8_save_1 (fun x1 => ?_)
  refine V_aload_n (x := a0) dX8_save_4 rfl ?_
  refine V_getR fd_X8_save_10_X8 dX8_save_5 (fun x2 => ?_)
  refine V_callV0 (As := [va_rf x2]) (st0 := []) (stI := [va_rf x2, va_rf x1]) (fun _ h => by cases h; exact t_X3_copyFrom _ x2 σ) (q := (RX3, TX3, 8)) rfl rfl rfl (Nat.le_of_ble_eq_true rfl) rfl (fun s args hts => cwV 1 hts gX8_save_X3_copyFrom rfl rfl rfl (by decide +kernel) ⟨Nat.le_of_ble_eq_true rfl, Nat.le_of_ble_eq_true rfl⟩) rfl rfl dX8_save_8 (fun _ σ3 _ => ?_)
  refine V_aload_n (x := a0) dX8_save_11 rfl ?_
  refine V_iconst (v := (1 : Int32)) dX8_save_12 rfl ?_
  refine V_putZ fd_X8_save_22_X8 fw_X8_save_X8_3 (fun h => by cases h) dX8_save_13 (fun σ4 hσ4 => ?_)
  refine V_aload_n (x := a0) dX8_save_16 rfl ?_
  refine V_getR fd_X8_save_10_X8 dX8_save_17 (fun x5 => ?_)
  refine V_getI fd_X8_save_167_X3 dX8_save_20 (fun x6 => ?_)
  exact V_iret (fun _ => rfl) rfl (Nat.zero_le _) (Nat.zero_le _) dX8_save_23
theorem t_X8_save {D : DG} {z0 : Nat} {l : Launch} (a : Nat)  (σ : SG) : MT D z0 l yX8_save wsX8_save rmX8_save tvI [.ref a] σ (m_X8_save (some a) σ) :=
  MT.of (own := RX8) (cc := cX8_save) (nL := 1) (ret := (some .int)) (ct := false) (by decide) rfl rfl (fun h => by cases h) (Nat.le_of_ble_eq_true rfl) (by intro v hv; simp only [List.mem_cons, List.not_mem_nil, or_false] at hv; first | (rcases hv with rfl <;> first | rfl | exact va_rf_cat _) | exact absurd hv (fun h => h)) (v_X8_save (some a) σ)
theorem in_X8_restore_X8 : ∀ w ∈ u_ws RX8 TX8 6, w ∈ wsX8_restore := by decide +kernel
theorem wd_X8_restore_1 : Cond.fieldLink RX8 22 "MainsWords" "hasSnapshot" "Z" ∈ wsX8_restore := by decide +kernel
theorem fd_X8_restore_22_X8 : FD RX8 22 wsX8_restore 7 3 := ⟨RX8, "MainsWords", TX8, 6, rfl, in_X8_restore_X8, by decide, wd_X8_restore_1, Or.inl rfl⟩
theorem wd_X8_restore_3 : Cond.fieldLink RX8 29 "MainsWords" "history" "LMainsWords$History;" ∈ wsX8_restore := by decide +kernel
theorem fd_X8_restore_29_X8 : FD RX8 29 wsX8_restore 7 4 := ⟨RX8, "MainsWords", TX8, 6, rfl, in_X8_restore_X8, by decide, wd_X8_restore_3, Or.inl rfl⟩
theorem wd_X8_restore_5 : Cond.fieldLink RX8 10 "MainsWords" "now" "LMainsWords$Net;" ∈ wsX8_restore := by decide +kernel
theorem fd_X8_restore_10_X8 : FD RX8 10 wsX8_restore 7 0 := ⟨RX8, "MainsWords", TX8, 6, rfl, in_X8_restore_X8, by decide, wd_X8_restore_5, Or.inl rfl⟩
theorem wd_X8_restore_7 : Cond.fieldLink RX8 19 "MainsWords" "snapshot" "LMainsWords$Net;" ∈ wsX8_restore := by decide +kernel
theorem fd_X8_restore_19_X8 : FD RX8 19 wsX8_restore 7 2 := ⟨RX8, "MainsWords", TX8, 6, rfl, in_X8_restore_X8, by decide, wd_X8_restore_7, Or.inl rfl⟩
theorem in_X8_restore_X3 : ∀ w ∈ u_ws RX3 TX3 8, w ∈ wsX8_restore := by decide +kernel
theorem wd_X8_restore_10 : Cond.fieldLink RX8 167 "MainsWords$Net" "time" "I" ∈ wsX8_restore := by decide +kernel
theorem fd_X8_restore_167_X3 : FD RX8 167 wsX8_restore 3 6 := ⟨RX3, "MainsWords$Net", TX3, 8, rfl, in_X8_restore_X3, by decide, wd_X8_restore_10, Or.inl rfl⟩
set_option maxRecDepth 100000 in
set_option maxHeartbeats 4000000 in
theorem v_X8_restore {D : DG} {z0 : Nat} {l : Launch} : ∀ (a0 : Option Nat) (σ : SG), V D z0 l RX8 cX8_restore 1 wsX8_restore (some .int) rmX8_restore false tvI 0 [some (va_rf a0)] [] σ 0 0 (m_X8_restore a0 σ) := by
  intro a0 σ
  unfold m_X8_restore
  refine V_aload_n (x := a0) dX8_restore_0 rfl ?_
  refine V_getI fd_X8_restore_22_X8 dX8_restore_1 (fun x1 => ?_)
  refine V_if_ne (tgt := 10) (x := x1) dX8_restore_4 (by decide) (fun hc2 => ?_) (fun hc2 => ?_)
  · refine V_bipush (v := (-4 : Int32)) dX8_restore_7 rfl ?_
    exact V_iret (fun _ => rfl) rfl (Nat.zero_le _) (Nat.zero_le _) dX8_restore_9
  · refine V_aload_n (x := a0) dX8_restore_10 rfl ?_
    refine V_getR fd_X8_restore_29_X8 dX8_restore_11 (fun x3 => ?_)
    refine V_aload_n (x := a0) dX8_restore_14 rfl ?_
    refine V_getR fd_X8_restore_10_X8 dX8_restore_15 (fun x4 => ?_)
    refine V_callV0 (As := [va_rf x4]) (st0 := []) (stI := [va_rf x4, va_rf x3]) (fun _ h => by cases h; exact t_X0_keep _ x4 σ) (q := (RX0, TX0, 2)) rfl rfl rfl (Nat.le_of_ble_eq_true rfl) rfl (fun s args hts => cwV 1 hts gX8_restore_X0_keep rfl rfl rfl (by decide +kernel) ⟨Nat.le_of_ble_eq_true rfl, Nat.le_of_ble_eq_true rfl⟩) rfl rfl dX8_restore_18 (fun _ σ5 _ => ?_)
    refine V_aload_n (x := a0) dX8_restore_21 rfl ?_
    refine V_getR fd_X8_restore_10_X8 dX8_restore_22 (fun x6 => ?_)
    refine V_aload_n (x := a0) dX8_restore_25 rfl ?_
    refine V_getR fd_X8_restore_19_X8 dX8_restore_26 (fun x7 => ?_)
    refine V_callV0 (As := [va_rf x7]) (st0 := []) (stI := [va_rf x7, va_rf x6]) (fun _ h => by cases h; exact t_X3_copyFrom _ x7 σ5) (q := (RX3, TX3, 8)) rfl rfl rfl (Nat.le_of_ble_eq_true rfl) rfl (fun s args hts => cwV 1 hts gX8_restore_X3_copyFrom rfl rfl rfl (by decide +kernel) ⟨Nat.le_of_ble_eq_true rfl, Nat.le_of_ble_eq_true rfl⟩) rfl rfl dX8_restore_29 (fun _ σ8 _ => ?_)
    refine V_aload_n (x := a0) dX8_restore_32 rfl ?_
    refine V_getR fd_X8_restore_10_X8 dX8_restore_33 (fun x9 => ?_)
    refine V_getI fd_X8_restore_167_X3 dX8_restore_36 (fun x10 => ?_)
    exact V_iret (fun _ => rfl) rfl (Nat.zero_le _) (Nat.zero_le _) dX8_restore_39
theorem t_X8_restore {D : DG} {z0 : Nat} {l : Launch} (a : Nat)  (σ : SG) : MT D z0 l yX8_restore wsX8_restore rmX8_restore tvI [.ref a] σ (m_X8_restore (some a) σ) :=
  MT.of (own := RX8) (cc := cX8_restore) (nL := 1) (ret := (some .int)) (ct := false) (by decide) rfl rfl (fun h => by cases h) (Nat.le_of_ble_eq_true rfl) (by intro v hv; simp only [List.mem_cons, List.not_mem_nil, or_false] at hv; first | (rcases hv with rfl <;> first | rfl | exact va_rf_cat _) | exact absurd hv (fun h => h)) (v_X8_restore (some a) σ)
theorem in_X8_senderOf_X8 : ∀ w ∈ u_ws RX8 TX8 6, w ∈ wsX8_senderOf := by decide +kernel
theorem wd_X8_senderOf_1 : Cond.fieldLink RX8 10 "MainsWords" "now" "LMainsWords$Net;" ∈ wsX8_senderOf := by decide +kernel
theorem fd_X8_senderOf_10_X8 : FD RX8 10 wsX8_senderOf 7 0 := ⟨RX8, "MainsWords", TX8, 6, rfl, in_X8_senderOf_X8, by decide, wd_X8_senderOf_1, Or.inl rfl⟩
theorem wd_X8_senderOf_3 : Cond.sameField "MainsWords$Sender" "MainsWords$Thing" "wire" "I" ∈ wsX8_senderOf := by decide +kernel
theorem in_X8_senderOf_X6 : ∀ w ∈ u_ws RX6 TX6 10, w ∈ wsX8_senderOf := by decide +kernel
theorem wd_X8_senderOf_5 : Cond.fieldLink RX8 174 "MainsWords$Sender" "wire" "I" ∈ wsX8_senderOf := by decide +kernel
theorem fd_X8_senderOf_174_X6 : FD RX8 174 wsX8_senderOf 6 2 := ⟨RX6, "MainsWords$Sender", TX6, 10, rfl, in_X8_senderOf_X6, by decide, wd_X8_senderOf_5, Or.inr wd_X8_senderOf_3⟩
theorem wd_X8_senderOf_7 : Cond.fieldLink RX8 175 "MainsWords$Sender" "strength" "I" ∈ wsX8_senderOf := by decide +kernel
theorem fd_X8_senderOf_175_X6 : FD RX8 175 wsX8_senderOf 6 5 := ⟨RX6, "MainsWords$Sender", TX6, 10, rfl, in_X8_senderOf_X6, by decide, wd_X8_senderOf_7, Or.inl rfl⟩
theorem wd_X8_senderOf_9 : Cond.fieldLink RX8 178 "MainsWords$Sender" "queueLength" "I" ∈ wsX8_senderOf := by decide +kernel
theorem fd_X8_senderOf_178_X6 : FD RX8 178 wsX8_senderOf 6 4 := ⟨RX6, "MainsWords$Sender", TX6, 10, rfl, in_X8_senderOf_X6, by decide, wd_X8_senderOf_9, Or.inl rfl⟩
theorem wd_X8_senderOf_11 : Cond.fieldLink RX8 181 "MainsWords$Sender" "speaks" "Z" ∈ wsX8_senderOf := by decide +kernel
theorem fd_X8_senderOf_181_X6 : FD RX8 181 wsX8_senderOf 6 6 := ⟨RX6, "MainsWords$Sender", TX6, 10, rfl, in_X8_senderOf_X6, by decide, wd_X8_senderOf_11, Or.inl rfl⟩
theorem wd_X8_senderOf_13 : Cond.fieldLink RX8 184 "MainsWords$Sender" "place" "I" ∈ wsX8_senderOf := by decide +kernel
theorem fd_X8_senderOf_184_X6 : FD RX8 184 wsX8_senderOf 6 8 := ⟨RX6, "MainsWords$Sender", TX6, 10, rfl, in_X8_senderOf_X6, by decide, wd_X8_senderOf_13, Or.inl rfl⟩
theorem wd_X8_senderOf_15 : Cond.fieldLink RX8 187 "MainsWords$Sender" "copy" "I" ∈ wsX8_senderOf := by decide +kernel
theorem fd_X8_senderOf_187_X6 : FD RX8 187 wsX8_senderOf 6 7 := ⟨RX6, "MainsWords$Sender", TX6, 10, rfl, in_X8_senderOf_X6, by decide, wd_X8_senderOf_15, Or.inl rfl⟩
theorem wd_X8_senderOf_17 : Cond.fieldLink RX8 190 "MainsWords$Sender" "pause" "I" ∈ wsX8_senderOf := by decide +kernel
theorem fd_X8_senderOf_190_X6 : FD RX8 190 wsX8_senderOf 6 9 := ⟨RX6, "MainsWords$Sender", TX6, 10, rfl, in_X8_senderOf_X6, by decide, wd_X8_senderOf_17, Or.inl rfl⟩
set_option maxRecDepth 100000 in
set_option maxHeartbeats 4000000 in
theorem v_X8_senderOf {D : DG} {z0 : Nat} {l : Launch} : ∀ (a0 : Option Nat) (a1 : Int32) (a2 : Int32) (σ : SG), V D z0 l RX8 cX8_senderOf 4 wsX8_senderOf (some .int) rmX8_senderOf false tvI 0 [some (va_rf a0), some (.int a1), some (.int a2), none] [] σ 0 0 (m_X8_senderOf a0 a1 a2 σ) := by
  intro a0 a1 a2 σ
  unfold m_X8_senderOf
  refine V_aload_n (x := a0) dX8_senderOf_0 rfl ?_
  refine V_getR fd_X8_senderOf_10_X8 dX8_senderOf_1 (fun x1 => ?_)
  refine V_iload_n (x := a1) dX8_senderOf_4 rfl ?_
  refine V_callV0 (As := [.int a1]) (st0 := []) (stI := [.int a1, va_rf x1]) (fun _ h => by cases h; exact t_X3_senderAt _ a1 σ) (q := (RX3, TX3, 8)) rfl rfl rfl (Nat.le_of_ble_eq_true rfl) rfl (fun s args hts => cwV 1 hts gX8_senderOf_X3_senderAt rfl rfl rfl (by decide +kernel) ⟨Nat.le_of_ble_eq_true rfl, Nat.le_of_ble_eq_true rfl⟩) rfl rfl dX8_senderOf_5 (fun r2 σ3 _ => ?_)
  refine V_astore_n (x := r2) (ls' := [some (va_rf a0), some (.int a1), some (.int a2), some (va_rf r2)]) dX8_senderOf_8 (by decide) rfl ?_
  refine V_aload_n (x := r2) dX8_senderOf_9 rfl ?_
  refine V_ifnonnull (tgt := 15) (x := r2) dX8_senderOf_10 (by decide) (fun hc4 => ?_) (fun hc4 => ?_)
  · refine V_iconst (v := (-1 : Int32)) dX8_senderOf_13 rfl ?_
    exact V_iret (fun _ => rfl) rfl (Nat.zero_le _) (Nat.zero_le _) dX8_senderOf_14
  · refine V_iload_n (x := a2) dX8_senderOf_15 rfl ?_
    refine V_table (x := a2) (tb := [(0, 60), (1, 65), (2, 70), (3, 75), (4, 92), (5, 109), (6, 114)]) (tgt := 131) dX8_senderOf_16 (by decide) rfl (by decide) (List.forall_mem_cons.mpr ⟨?_, List.forall_mem_cons.mpr ⟨?_, List.forall_mem_cons.mpr ⟨?_, List.forall_mem_cons.mpr ⟨?_, List.forall_mem_cons.mpr ⟨?_, List.forall_mem_cons.mpr ⟨?_, List.forall_mem_cons.mpr ⟨?_, fun _ h => absurd h List.not_mem_nil⟩⟩⟩⟩⟩⟩⟩) ?_
    · dsimp only
      refine V_aload_n (x := r2) dX8_senderOf_60 rfl ?_
      refine V_getI fd_X8_senderOf_174_X6 dX8_senderOf_61 (fun x5 => ?_)
      exact V_iret (fun _ => rfl) rfl (Nat.zero_le _) (Nat.zero_le _) dX8_senderOf_64
    · dsimp only
      refine V_aload_n (x := r2) dX8_senderOf_65 rfl ?_
      refine V_getI fd_X8_senderOf_175_X6 dX8_senderOf_66 (fun x6 => ?_)
      exact V_iret (fun _ => rfl) rfl (Nat.zero_le _) (Nat.zero_le _) dX8_senderOf_69
    · dsimp only
      refine V_aload_n (x := r2) dX8_senderOf_70 rfl ?_
      refine V_getI fd_X8_senderOf_178_X6 dX8_senderOf_71 (fun x7 => ?_)
      exact V_iret (fun _ => rfl) rfl (Nat.zero_le _) (Nat.zero_le _) dX8_senderOf_74
    · dsimp only
      refine V_aload_n (x := r2) dX8_senderOf_75 rfl ?_
      refine V_getI fd_X8_senderOf_181_X6 dX8_senderOf_76 (fun x8 => ?_)
      refine V_if_eq (tgt := 89) (x := x8) dX8_senderOf_79 (by decide) (fun hc9 => ?_) (fun hc9 => ?_)
      · refine V_bipush (v := (-5 : Int32)) dX8_senderOf_89 rfl ?_
        exact V_iret (fun _ => rfl) rfl (Nat.zero_le _) (Nat.zero_le _) dX8_senderOf_91
      · refine V_aload_n (x := r2) dX8_senderOf_82 rfl ?_
        refine V_getI fd_X8_senderOf_184_X6 dX8_senderOf_83 (fun x10 => ?_)
        refine V_goto (tgt := 91) dX8_senderOf_86 (by decide) ?_
        exact V_iret (fun _ => rfl) rfl (Nat.zero_le _) (Nat.zero_le _) dX8_senderOf_91
    · dsimp only
      refine V_aload_n (x := r2) dX8_senderOf_92 rfl ?_
      refine V_getI fd_X8_senderOf_181_X6 dX8_senderOf_93 (fun x11 => ?_)
      refine V_if_eq (tgt := 106) (x := x11) dX8_senderOf_96 (by decide) (fun hc12 => ?_) (fun hc12 => ?_)
      · refine V_bipush (v := (-5 : Int32)) dX8_senderOf_106 rfl ?_
        exact V_iret (fun _ => rfl) rfl (Nat.zero_le _) (Nat.zero_le _) dX8_senderOf_108
      · refine V_aload_n (x := r2) dX8_senderOf_99 rfl ?_
        refine V_getI fd_X8_senderOf_187_X6 dX8_senderOf_100 (fun x13 => ?_)
        refine V_goto (tgt := 108) dX8_senderOf_103 (by decide) ?_
        exact V_iret (fun _ => rfl) rfl (Nat.zero_le _) (Nat.zero_le _) dX8_senderOf_108
    · dsimp only
      refine V_aload_n (x := r2) dX8_senderOf_109 rfl ?_
      refine V_getI fd_X8_senderOf_190_X6 dX8_senderOf_110 (fun x14 => ?_)
      exact V_iret (fun _ => rfl) rfl (Nat.zero_le _) (Nat.zero_le _) dX8_senderOf_113
    · dsimp only
      refine V_aload_n (x := r2) dX8_senderOf_114 rfl ?_
      refine V_getI fd_X8_senderOf_181_X6 dX8_senderOf_115 (fun x15 => ?_)
      refine V_if_eq (tgt := 128) (x := x15) dX8_senderOf_118 (by decide) (fun hc16 => ?_) (fun hc16 => ?_)
      · refine V_bipush (v := (-5 : Int32)) dX8_senderOf_128 rfl ?_
        exact V_iret (fun _ => rfl) rfl (Nat.zero_le _) (Nat.zero_le _) dX8_senderOf_130
      · refine V_aload_n (x := r2) dX8_senderOf_121 rfl ?_
        refine V_callV0 (As := []) (st0 := []) (stI := [va_rf r2]) (fun _ h => by cases h; exact t_X6_bitToSend _ σ3) (q := (RX6, TX6, 10)) rfl rfl rfl (Nat.le_of_ble_eq_true rfl) rfl (fun s args hts => cwV 0 hts gX8_senderOf_X6_bitToSend rfl rfl rfl (by decide +kernel) ⟨Nat.le_of_ble_eq_true rfl, Nat.le_of_ble_eq_true rfl⟩) rfl rfl dX8_senderOf_122 (fun r17 σ18 _ => ?_)
        refine V_goto (tgt := 130) dX8_senderOf_125 (by decide) ?_
        exact V_iret (fun _ => rfl) rfl (Nat.zero_le _) (Nat.zero_le _) dX8_senderOf_130
    · refine V_bipush (v := (-2 : Int32)) dX8_senderOf_131 rfl ?_
      exact V_iret (fun _ => rfl) rfl (Nat.zero_le _) (Nat.zero_le _) dX8_senderOf_133
theorem t_X8_senderOf {D : DG} {z0 : Nat} {l : Launch} (a : Nat) (a1 : Int32) (a2 : Int32) (σ : SG) : MT D z0 l yX8_senderOf wsX8_senderOf rmX8_senderOf tvI [.ref a, .int a1, .int a2] σ (m_X8_senderOf (some a) a1 a2 σ) :=
  MT.of (own := RX8) (cc := cX8_senderOf) (nL := 4) (ret := (some .int)) (ct := false) (by decide) rfl rfl (fun h => by cases h) (Nat.le_of_ble_eq_true rfl) (by intro v hv; simp only [List.mem_cons, List.not_mem_nil, or_false] at hv; first | (rcases hv with rfl | rfl | rfl <;> first | rfl | exact va_rf_cat _) | exact absurd hv (fun h => h)) (v_X8_senderOf (some a) a1 a2 σ)
theorem in_X8_queued_X8 : ∀ w ∈ u_ws RX8 TX8 6, w ∈ wsX8_queued := by decide +kernel
theorem wd_X8_queued_1 : Cond.fieldLink RX8 10 "MainsWords" "now" "LMainsWords$Net;" ∈ wsX8_queued := by decide +kernel
theorem fd_X8_queued_10_X8 : FD RX8 10 wsX8_queued 7 0 := ⟨RX8, "MainsWords", TX8, 6, rfl, in_X8_queued_X8, by decide, wd_X8_queued_1, Or.inl rfl⟩
set_option maxRecDepth 100000 in
set_option maxHeartbeats 4000000 in
theorem v_X8_queued {D : DG} {z0 : Nat} {l : Launch} : ∀ (a0 : Option Nat) (a1 : Int32) (a2 : Int32) (σ : SG), V D z0 l RX8 cX8_queued 4 wsX8_queued (some .int) rmX8_queued false tvI 0 [some (va_rf a0), some (.int a1), some (.int a2), none] [] σ 0 0 (m_X8_queued a0 a1 a2 σ) := by
  intro a0 a1 a2 σ
  unfold m_X8_queued
  refine V_aload_n (x := a0) dX8_queued_0 rfl ?_
  refine V_getR fd_X8_queued_10_X8 dX8_queued_1 (fun x1 => ?_)
  refine V_iload_n (x := a1) dX8_queued_4 rfl ?_
  refine V_callV0 (As := [.int a1]) (st0 := []) (stI := [.int a1, va_rf x1]) (fun _ h => by cases h; exact t_X3_senderAt _ a1 σ) (q := (RX3, TX3, 8)) rfl rfl rfl (Nat.le_of_ble_eq_true rfl) rfl (fun s args hts => cwV 1 hts gX8_queued_X3_senderAt rfl rfl rfl (by decide +kernel) ⟨Nat.le_of_ble_eq_true rfl, Nat.le_of_ble_eq_true rfl⟩) rfl rfl dX8_queued_5 (fun r2 σ3 _ => ?_)
  refine V_astore_n (x := r2) (ls' := [some (va_rf a0), some (.int a1), some (.int a2), some (va_rf r2)]) dX8_queued_8 (by decide) rfl ?_
  refine V_aload_n (x := r2) dX8_queued_9 rfl ?_
  refine V_ifnonnull (tgt := 15) (x := r2) dX8_queued_10 (by decide) (fun hc4 => ?_) (fun hc4 => ?_)
  · refine V_iconst (v := (-1 : Int32)) dX8_queued_13 rfl ?_
    exact V_iret (fun _ => rfl) rfl (Nat.zero_le _) (Nat.zero_le _) dX8_queued_14
  · refine V_iload_n (x := a2) dX8_queued_15 rfl ?_
    refine V_if_ge (tgt := 24) (x := a2) dX8_queued_16 (by decide) (fun hc5 => ?_) (fun hc5 => ?_)
    · refine V_aload_n (x := r2) dX8_queued_24 rfl ?_
      refine V_iload_n (x := a2) dX8_queued_25 rfl ?_
      refine V_callV0 (As := [.int a2]) (st0 := []) (stI := [.int a2, va_rf r2]) (fun _ h => by cases h; exact t_X6_wordAt _ a2 σ3) (q := (RX6, TX6, 10)) rfl rfl rfl (Nat.le_of_ble_eq_true rfl) rfl (fun s args hts => cwV 1 hts gX8_queued_X6_wordAt rfl rfl rfl (by decide +kernel) ⟨Nat.le_of_ble_eq_true rfl, Nat.le_of_ble_eq_true rfl⟩) rfl rfl dX8_queued_26 (fun r6 σ7 _ => ?_)
      exact V_iret (fun _ => rfl) rfl (Nat.zero_le _) (Nat.zero_le _) dX8_queued_29
    · refine V_bipush (v := (-2 : Int32)) dX8_queued_19 rfl ?_
      refine V_goto (tgt := 29) dX8_queued_21 (by decide) ?_
      exact V_iret (fun _ => rfl) rfl (Nat.zero_le _) (Nat.zero_le _) dX8_queued_29
theorem t_X8_queued {D : DG} {z0 : Nat} {l : Launch} (a : Nat) (a1 : Int32) (a2 : Int32) (σ : SG) : MT D z0 l yX8_queued wsX8_queued rmX8_queued tvI [.ref a, .int a1, .int a2] σ (m_X8_queued (some a) a1 a2 σ) :=
  MT.of (own := RX8) (cc := cX8_queued) (nL := 4) (ret := (some .int)) (ct := false) (by decide) rfl rfl (fun h => by cases h) (Nat.le_of_ble_eq_true rfl) (by intro v hv; simp only [List.mem_cons, List.not_mem_nil, or_false] at hv; first | (rcases hv with rfl | rfl | rfl <;> first | rfl | exact va_rf_cat _) | exact absurd hv (fun h => h)) (v_X8_queued (some a) a1 a2 σ)
theorem in_X8_machineOf_X8 : ∀ w ∈ u_ws RX8 TX8 6, w ∈ wsX8_machineOf := by decide +kernel
theorem wd_X8_machineOf_1 : Cond.fieldLink RX8 10 "MainsWords" "now" "LMainsWords$Net;" ∈ wsX8_machineOf := by decide +kernel
theorem fd_X8_machineOf_10_X8 : FD RX8 10 wsX8_machineOf 7 0 := ⟨RX8, "MainsWords", TX8, 6, rfl, in_X8_machineOf_X8, by decide, wd_X8_machineOf_1, Or.inl rfl⟩
theorem wd_X8_machineOf_3 : Cond.sameField "MainsWords$Machine" "MainsWords$Thing" "wire" "I" ∈ wsX8_machineOf := by decide +kernel
theorem in_X8_machineOf_X2 : ∀ w ∈ u_ws RX2 TX2 6, w ∈ wsX8_machineOf := by decide +kernel
theorem wd_X8_machineOf_5 : Cond.fieldLink RX8 199 "MainsWords$Machine" "wire" "I" ∈ wsX8_machineOf := by decide +kernel
theorem fd_X8_machineOf_199_X2 : FD RX8 199 wsX8_machineOf 2 2 := ⟨RX2, "MainsWords$Machine", TX2, 6, rfl, in_X8_machineOf_X2, by decide, wd_X8_machineOf_5, Or.inr wd_X8_machineOf_3⟩
theorem wd_X8_machineOf_7 : Cond.fieldLink RX8 200 "MainsWords$Machine" "strength" "I" ∈ wsX8_machineOf := by decide +kernel
theorem fd_X8_machineOf_200_X2 : FD RX8 200 wsX8_machineOf 2 3 := ⟨RX2, "MainsWords$Machine", TX2, 6, rfl, in_X8_machineOf_X2, by decide, wd_X8_machineOf_7, Or.inl rfl⟩
theorem wd_X8_machineOf_9 : Cond.fieldLink RX8 201 "MainsWords$Machine" "period" "I" ∈ wsX8_machineOf := by decide +kernel
theorem fd_X8_machineOf_201_X2 : FD RX8 201 wsX8_machineOf 2 4 := ⟨RX2, "MainsWords$Machine", TX2, 6, rfl, in_X8_machineOf_X2, by decide, wd_X8_machineOf_9, Or.inl rfl⟩
theorem wd_X8_machineOf_11 : Cond.fieldLink RX8 107 "MainsWords$Machine" "isOn" "Z" ∈ wsX8_machineOf := by decide +kernel
theorem fd_X8_machineOf_107_X2 : FD RX8 107 wsX8_machineOf 2 5 := ⟨RX2, "MainsWords$Machine", TX2, 6, rfl, in_X8_machineOf_X2, by decide, wd_X8_machineOf_11, Or.inl rfl⟩
set_option maxRecDepth 100000 in
set_option maxHeartbeats 4000000 in
theorem v_X8_machineOf {D : DG} {z0 : Nat} {l : Launch} : ∀ (a0 : Option Nat) (a1 : Int32) (a2 : Int32) (σ : SG), V D z0 l RX8 cX8_machineOf 4 wsX8_machineOf (some .int) rmX8_machineOf false tvI 0 [some (va_rf a0), some (.int a1), some (.int a2), none] [] σ 0 0 (m_X8_machineOf a0 a1 a2 σ) := by
  intro a0 a1 a2 σ
  unfold m_X8_machineOf
  refine V_aload_n (x := a0) dX8_machineOf_0 rfl ?_
  refine V_getR fd_X8_machineOf_10_X8 dX8_machineOf_1 (fun x1 => ?_)
  refine V_iload_n (x := a1) dX8_machineOf_4 rfl ?_
  refine V_callV0 (As := [.int a1]) (st0 := []) (stI := [.int a1, va_rf x1]) (fun _ h => by cases h; exact t_X3_machineAt _ a1 σ) (q := (RX3, TX3, 8)) rfl rfl rfl (Nat.le_of_ble_eq_true rfl) rfl (fun s args hts => cwV 1 hts gX8_machineOf_X3_machineAt rfl rfl rfl (by decide +kernel) ⟨Nat.le_of_ble_eq_true rfl, Nat.le_of_ble_eq_true rfl⟩) rfl rfl dX8_machineOf_5 (fun r2 σ3 _ => ?_)
  refine V_astore_n (x := r2) (ls' := [some (va_rf a0), some (.int a1), some (.int a2), some (va_rf r2)]) dX8_machineOf_8 (by decide) rfl ?_
  refine V_aload_n (x := r2) dX8_machineOf_9 rfl ?_
  refine V_ifnonnull (tgt := 15) (x := r2) dX8_machineOf_10 (by decide) (fun hc4 => ?_) (fun hc4 => ?_)
  · refine V_iconst (v := (-1 : Int32)) dX8_machineOf_13 rfl ?_
    exact V_iret (fun _ => rfl) rfl (Nat.zero_le _) (Nat.zero_le _) dX8_machineOf_14
  · refine V_iload_n (x := a2) dX8_machineOf_15 rfl ?_
    refine V_table (x := a2) (tb := [(0, 48), (1, 53), (2, 58), (3, 63)]) (tgt := 71) dX8_machineOf_16 (by decide) rfl (by decide) (List.forall_mem_cons.mpr ⟨?_, List.forall_mem_cons.mpr ⟨?_, List.forall_mem_cons.mpr ⟨?_, List.forall_mem_cons.mpr ⟨?_, fun _ h => absurd h List.not_mem_nil⟩⟩⟩⟩) ?_
    · dsimp only
      refine V_aload_n (x := r2) dX8_machineOf_48 rfl ?_
      refine V_getI fd_X8_machineOf_199_X2 dX8_machineOf_49 (fun x5 => ?_)
      exact V_iret (fun _ => rfl) rfl (Nat.zero_le _) (Nat.zero_le _) dX8_machineOf_52
    · dsimp only
      refine V_aload_n (x := r2) dX8_machineOf_53 rfl ?_
      refine V_getI fd_X8_machineOf_200_X2 dX8_machineOf_54 (fun x6 => ?_)
      exact V_iret (fun _ => rfl) rfl (Nat.zero_le _) (Nat.zero_le _) dX8_machineOf_57
    · dsimp only
      refine V_aload_n (x := r2) dX8_machineOf_58 rfl ?_
      refine V_getI fd_X8_machineOf_201_X2 dX8_machineOf_59 (fun x7 => ?_)
      exact V_iret (fun _ => rfl) rfl (Nat.zero_le _) (Nat.zero_le _) dX8_machineOf_62
    · dsimp only
      refine V_aload_n (x := r2) dX8_machineOf_63 rfl ?_
      refine V_getI fd_X8_machineOf_107_X2 dX8_machineOf_64 (fun x8 => ?_)
      refine V_callS0 (As := [.int x8]) (st0 := []) (stI := [.int x8]) (t_X8_asNumber x8 σ3) rfl (Nat.le_of_ble_eq_true rfl) rfl (fun s args hts => va_cwS 1 hts gX8_machineOf_X8_asNumber rfl rfl rfl (by decide +kernel) ⟨Nat.le_of_ble_eq_true rfl, Nat.le_of_ble_eq_true rfl⟩) rfl rfl dX8_machineOf_67 (fun r9 σ10 _ => ?_)
      exact V_iret (fun _ => rfl) rfl (Nat.zero_le _) (Nat.zero_le _) dX8_machineOf_70
    · refine V_bipush (v := (-2 : Int32)) dX8_machineOf_71 rfl ?_
      exact V_iret (fun _ => rfl) rfl (Nat.zero_le _) (Nat.zero_le _) dX8_machineOf_73
theorem t_X8_machineOf {D : DG} {z0 : Nat} {l : Launch} (a : Nat) (a1 : Int32) (a2 : Int32) (σ : SG) : MT D z0 l yX8_machineOf wsX8_machineOf rmX8_machineOf tvI [.ref a, .int a1, .int a2] σ (m_X8_machineOf (some a) a1 a2 σ) :=
  MT.of (own := RX8) (cc := cX8_machineOf) (nL := 4) (ret := (some .int)) (ct := false) (by decide) rfl rfl (fun h => by cases h) (Nat.le_of_ble_eq_true rfl) (by intro v hv; simp only [List.mem_cons, List.not_mem_nil, or_false] at hv; first | (rcases hv with rfl | rfl | rfl <;> first | rfl | exact va_rf_cat _) | exact absurd hv (fun h => h)) (v_X8_machineOf (some a) a1 a2 σ)
