theorem in_X3_takeBits_X3 : ∀ w ∈ u_ws RX3 TX3 8, w ∈ wsX3_takeBits := by decide +kernel
theorem wd_X3_takeBits_1 : Cond.fieldLink RX3 31 "MainsWords$Net" "receivers" "[LMainsWords$Receiver;" ∈ wsX3_takeBits := by decide +kernel
theorem fd_X3_takeBits_31_X3 : FD RX3 31 wsX3_takeBits 3 3 := ⟨RX3, "MainsWords$Net", TX3, 8, rfl, in_X3_takeBits_X3, by decide, wd_X3_takeBits_1, Or.inl rfl⟩
theorem wd_X3_takeBits_3 : Cond.initialized RX8 ∈ wsX3_takeBits := by decide +kernel
theorem wd_X3_takeBits_4 : Cond.static yX8_asNumber ∈ wsX3_takeBits := by decide +kernel
theorem wd_X3_takeBits_5 : Cond.fieldLink RX3 39 "MainsWords$Net" "totals" "[I" ∈ wsX3_takeBits := by decide +kernel
theorem fd_X3_takeBits_39_X3 : FD RX3 39 wsX3_takeBits 3 5 := ⟨RX3, "MainsWords$Net", TX3, 8, rfl, in_X3_takeBits_X3, by decide, wd_X3_takeBits_5, Or.inl rfl⟩
set_option maxRecDepth 100000 in
set_option maxHeartbeats 4000000 in
theorem v_X3_takeBits_b70 {D : DG} {z0 : Nat} {l : Launch} {rec4 : Option Nat → Int32 → Int32 → SG → Option (Int32 × SG)} (hrec4 : ∀ (v0 : Option Nat) (v1 : Int32) (v2 : Int32) (σ : SG), V D z0 l RX3 cX3_takeBits 4 wsX3_takeBits (some .int) rmX3_takeBits false tvI 4 [some (va_rf v0), some (.int v1), some (.int v2), none] [] σ 0 0 (rec4 v0 v1 v2 σ)) : ∀ (v0 : Option Nat) (v1 : Int32) (v2 : Int32) (σ : SG), V D z0 l RX3 cX3_takeBits 4 wsX3_takeBits (some .int) rmX3_takeBits false tvI 70 [some (va_rf v0), some (.int v1), some (.int v2), none] [] σ 0 0 (m_X3_takeBits_b70 rec4 v0 v1 v2 σ) := by
  intro v0 v1 v2 σ
  unfold m_X3_takeBits_b70
  refine V_iinc (x := v2) (v := (v2 + 1)) (ls' := [some (va_rf v0), some (.int v1), some (.int (v2 + 1)), none]) dX3_takeBits_70 rfl rfl (by decide) rfl ?_
  refine V_goto (tgt := 4) dX3_takeBits_73 (by decide) ?_
  exact hrec4 v0 v1 ((v2 + 1)) σ
set_option maxRecDepth 100000 in
set_option maxHeartbeats 4000000 in
theorem v_X3_takeBits_B4 {D : DG} {z0 : Nat} {l : Launch} {rec4 : Option Nat → Int32 → Int32 → SG → Option (Int32 × SG)} (hrec4 : ∀ (v0 : Option Nat) (v1 : Int32) (v2 : Int32) (σ : SG), V D z0 l RX3 cX3_takeBits 4 wsX3_takeBits (some .int) rmX3_takeBits false tvI 4 [some (va_rf v0), some (.int v1), some (.int v2), none] [] σ 0 0 (rec4 v0 v1 v2 σ)) : ∀ (v0 : Option Nat) (v1 : Int32) (v2 : Int32) (σ : SG), V D z0 l RX3 cX3_takeBits 4 wsX3_takeBits (some .int) rmX3_takeBits false tvI 4 [some (va_rf v0), some (.int v1), some (.int v2), none] [] σ 0 0 (m_X3_takeBits_B4 rec4 v0 v1 v2 σ) := by
  intro v0 v1 v2 σ
  unfold m_X3_takeBits_B4
  refine V_iload_n (x := v2) dX3_takeBits_4 rfl ?_
  refine V_aload_n (x := v0) dX3_takeBits_5 rfl ?_
  refine V_getR fd_X3_takeBits_31_X3 dX3_takeBits_6 (fun x1 => ?_)
  refine V_alen dX3_takeBits_9 (fun x2 => ?_)
  refine V_icmp_ge (tgt := 76) (x := v2) (y := x2) dX3_takeBits_10 (by decide) (fun hc3 => ?_) (fun hc3 => ?_)
  · refine V_iload_n (x := v1) dX3_takeBits_76 rfl ?_
    exact V_iret (fun _ => rfl) rfl (Nat.zero_le _) (Nat.zero_le _) dX3_takeBits_77
  · refine V_aload_n (x := v0) dX3_takeBits_13 rfl ?_
    refine V_getR fd_X3_takeBits_31_X3 dX3_takeBits_14 (fun x4 => ?_)
    refine V_iload_n (x := v2) dX3_takeBits_17 rfl ?_
    refine V_aaload dX3_takeBits_18 (fun x5 => ?_)
    refine V_aload_n (x := v0) dX3_takeBits_19 rfl ?_
    refine V_iload_n (x := v2) dX3_takeBits_20 rfl ?_
    refine V_callV0 (As := [.int v2]) (st0 := [va_rf x5]) (stI := [.int v2, va_rf v0, va_rf x5]) (fun _ h => by cases h; exact t_X3_isHeardOn _ v2 σ) (q := (RX3, TX3, 8)) rfl rfl rfl (by simp only [List.map_cons, List.map_nil, List.sum_cons, List.sum_nil, va_rf_cat, catI, catF]; decide) rfl (fun s args hts => cwV 1 hts gX3_takeBits_X3_isHeardOn rfl rfl rfl (by decide +kernel) ⟨Nat.le_of_ble_eq_true rfl, Nat.le_of_ble_eq_true rfl⟩) rfl rfl dX3_takeBits_21 (fun r6 σ7 _ => ?_)
    refine V_callSN0 (host := "MainsWords") (As := [.int r6]) (st0 := [va_rf x5]) (stI := [.int r6, va_rf x5]) (t_X8_asNumber r6 σ7) rfl (by simp only [List.map_cons, List.map_nil, List.sum_cons, List.sum_nil, va_rf_cat, catI, catF]; decide) rfl (by decide +kernel) (fun s args hts hnw => ⟨va_cnB 1 hts gX3_takeBits_X8_asNumber_n85 rfl rfl rfl hnw (hts _ wd_X3_takeBits_3) (by decide +kernel) ⟨Nat.le_of_ble_eq_true rfl, Nat.le_of_ble_eq_true rfl⟩, hts _ wd_X3_takeBits_4, trivial⟩) rfl rfl dX3_takeBits_24 (fun r8 σ9 _ => ?_)
    refine V_callV0 (As := [.int r8]) (st0 := []) (stI := [.int r8, va_rf x5]) (fun _ h => by cases h; exact t_X4_take _ r8 σ9) (q := (RX4, TX4, 7)) rfl rfl rfl (Nat.le_of_ble_eq_true rfl) rfl (fun s args hts => cwV 1 hts gX3_takeBits_X4_take rfl rfl rfl (by decide +kernel) ⟨Nat.le_of_ble_eq_true rfl, Nat.le_of_ble_eq_true rfl⟩) rfl rfl dX3_takeBits_27 (fun r10 σ11 _ => ?_)
    refine V_istore_n (x := r10) (ls' := [some (va_rf v0), some (.int v1), some (.int v2), some (.int r10)]) dX3_takeBits_30 (by decide) rfl ?_
    refine V_iload_n (x := r10) dX3_takeBits_31 rfl ?_
    refine V_bipush (v := (-2 : Int32)) dX3_takeBits_32 rfl ?_
    refine V_icmp_ne (tgt := 50) (x := r10) (y := (-2 : Int32)) dX3_takeBits_34 (by decide) (fun hc12 => ?_) (fun hc12 => ?_)
    · refine V_aload_n (x := v0) dX3_takeBits_37 rfl ?_
      refine V_getR fd_X3_takeBits_39_X3 dX3_takeBits_38 (fun x13 => ?_)
      refine V_iconst (v := (4 : Int32)) dX3_takeBits_41 rfl ?_
      refine V_dup2 dX3_takeBits_42 rfl (va_rf_cat _) ?_
      refine V_iaload dX3_takeBits_43 (fun x14 => ?_)
      refine V_iconst (v := (1 : Int32)) dX3_takeBits_44 rfl ?_
      refine V_iadd (x := x14) (y := (1 : Int32)) dX3_takeBits_45 ?_
      refine V_iastore dX3_takeBits_46 (fun σ15 hσ15 => ?_)
      refine V_goto (tgt := 70) dX3_takeBits_47 (by decide) ?_
      exact V_sub (LE.s (LE.s (LE.s (LE.n LE.e)))) (v_X3_takeBits_b70 hrec4 v0 v1 v2 σ15)
    · refine V_iload_n (x := r10) dX3_takeBits_50 rfl ?_
      refine V_iconst (v := (-1 : Int32)) dX3_takeBits_51 rfl ?_
      refine V_icmp_eq (tgt := 70) (x := r10) (y := (-1 : Int32)) dX3_takeBits_52 (by decide) (fun hc16 => ?_) (fun hc16 => ?_)
      · exact V_sub (LE.s (LE.s (LE.s (LE.n LE.e)))) (v_X3_takeBits_b70 hrec4 v0 v1 v2 σ11)
      · refine V_iload_n (x := v1) dX3_takeBits_55 rfl ?_
        refine V_aload_n (x := v0) dX3_takeBits_56 rfl ?_
        refine V_iload_n (x := v2) dX3_takeBits_57 rfl ?_
        refine V_aload_n (x := v0) dX3_takeBits_58 rfl ?_
        refine V_getR fd_X3_takeBits_31_X3 dX3_takeBits_59 (fun x17 => ?_)
        refine V_iload_n (x := v2) dX3_takeBits_62 rfl ?_
        refine V_aaload dX3_takeBits_63 (fun x18 => ?_)
        refine V_iload_n (x := r10) dX3_takeBits_64 rfl ?_
        refine V_callV0 (As := [.int v2, va_rf x18, .int r10]) (st0 := [.int v1]) (stI := [.int r10, va_rf x18, .int v2, va_rf v0, .int v1]) (fun _ h => by cases h; exact t_X3_hearWord _ v2 x18 r10 σ11) (q := (RX3, TX3, 8)) rfl rfl rfl (Nat.le_of_ble_eq_true rfl) rfl (fun s args hts => cwV 3 hts gX3_takeBits_X3_hearWord rfl rfl rfl (by decide +kernel) ⟨Nat.le_of_ble_eq_true rfl, Nat.le_of_ble_eq_true rfl⟩) rfl rfl dX3_takeBits_65 (fun r19 σ20 _ => ?_)
        refine V_iadd (x := v1) (y := r19) dX3_takeBits_68 ?_
        refine V_istore_n (x := (v1 + r19)) (ls' := [some (va_rf v0), some (.int (v1 + r19)), some (.int v2), some (.int r10)]) dX3_takeBits_69 (by decide) rfl ?_
        exact V_sub (LE.s (LE.s (LE.s (LE.n LE.e)))) (v_X3_takeBits_b70 hrec4 v0 ((v1 + r19)) v2 σ20)
theorem v_X3_takeBits_L4 {D : DG} {z0 : Nat} {l : Launch} : ∀ (n : Nat) (v0 : Option Nat) (v1 : Int32) (v2 : Int32) (σ : SG), V D z0 l RX3 cX3_takeBits 4 wsX3_takeBits (some .int) rmX3_takeBits false tvI 4 [some (va_rf v0), some (.int v1), some (.int v2), none] [] σ 0 0 (m_X3_takeBits_L4 n v0 v1 v2 σ) := by
  intro n
  induction n with
  | zero => intros; exact V_none
  | succ n ih => exact v_X3_takeBits_B4  ih
set_option maxRecDepth 100000 in
set_option maxHeartbeats 4000000 in
theorem v_X3_takeBits {D : DG} {z0 : Nat} {l : Launch} : ∀ (a0 : Option Nat) (σ : SG), V D z0 l RX3 cX3_takeBits 4 wsX3_takeBits (some .int) rmX3_takeBits false tvI 0 [some (va_rf a0), none, none, none] [] σ 0 0 (m_X3_takeBits a0 σ) := by
  intro a0 σ
  unfold m_X3_takeBits
  refine V_iconst (v := (0 : Int32)) dX3_takeBits_0 rfl ?_
  refine V_istore_n (x := (0 : Int32)) (ls' := [some (va_rf a0), some (.int (0 : Int32)), none, none]) dX3_takeBits_1 (by decide) rfl ?_
  refine V_iconst (v := (0 : Int32)) dX3_takeBits_2 rfl ?_
  refine V_istore_n (x := (0 : Int32)) (ls' := [some (va_rf a0), some (.int (0 : Int32)), some (.int (0 : Int32)), none]) dX3_takeBits_3 (by decide) rfl ?_
  exact v_X3_takeBits_L4  1000 a0 ((0 : Int32)) ((0 : Int32)) σ
theorem t_X3_takeBits {D : DG} {z0 : Nat} {l : Launch} (a : Nat)  (σ : SG) : MT D z0 l yX3_takeBits wsX3_takeBits rmX3_takeBits tvI [.ref a] σ (m_X3_takeBits (some a) σ) :=
  MT.of (own := RX3) (cc := cX3_takeBits) (nL := 4) (ret := (some .int)) (ct := false) (by decide) rfl rfl (fun h => by cases h) (Nat.le_of_ble_eq_true rfl) (by intro v hv; simp only [List.mem_cons, List.not_mem_nil, or_false] at hv; first | (rcases hv with rfl <;> first | rfl | exact va_rf_cat _) | exact absurd hv (fun h => h)) (v_X3_takeBits (some a) σ)
theorem in_X3_beat_X3 : ∀ w ∈ u_ws RX3 TX3 8, w ∈ wsX3_beat := by decide +kernel
theorem wd_X3_beat_1 : Cond.fieldLink RX3 42 "MainsWords$Net" "time" "I" ∈ wsX3_beat := by decide +kernel
theorem fd_X3_beat_42_X3 : FD RX3 42 wsX3_beat 3 6 := ⟨RX3, "MainsWords$Net", TX3, 8, rfl, in_X3_beat_X3, by decide, wd_X3_beat_1, Or.inl rfl⟩
theorem fw_X3_beat_X3_6 : FW RX3 wsX3_beat 3 6 .int false := ⟨RX3, TX3, 8, tyX3, rfl, in_X3_beat_X3, tyX3_ok, nmX3, rfl, (fun h => by cases h), rfl⟩
set_option maxRecDepth 100000 in
set_option maxHeartbeats 4000000 in
theorem v_X3_beat {D : DG} {z0 : Nat} {l : Launch} : ∀ (a0 : Option Nat) (σ : SG), V D z0 l RX3 cX3_beat 2 wsX3_beat (some .int) rmX3_beat false tvI 0 [some (va_rf a0), none] [] σ 0 0 (m_X3_beat a0 σ) := by
  intro a0 σ
  unfold m_X3_beat
  refine V_aload_n (x := a0) dX3_beat_0 rfl ?_
  refine V_callV0 (As := []) (st0 := []) (stI := [va_rf a0]) (fun _ h => by cases h; exact t_X3_beginSpeaking _ σ) (q := (RX3, TX3, 8)) rfl rfl rfl (Nat.le_of_ble_eq_true rfl) rfl (fun s args hts => cwV 0 hts gX3_beat_X3_beginSpeaking rfl rfl rfl (by decide +kernel) ⟨Nat.le_of_ble_eq_true rfl, Nat.le_of_ble_eq_true rfl⟩) rfl rfl dX3_beat_1 (fun _ σ1 _ => ?_)
  refine V_aload_n (x := a0) dX3_beat_4 rfl ?_
  refine V_callV0 (As := []) (st0 := []) (stI := [va_rf a0]) (fun _ h => by cases h; exact t_X3_carryBits _ σ1) (q := (RX3, TX3, 8)) rfl rfl rfl (Nat.le_of_ble_eq_true rfl) rfl (fun s args hts => cwV 0 hts gX3_beat_X3_carryBits rfl rfl rfl (by decide +kernel) ⟨Nat.le_of_ble_eq_true rfl, Nat.le_of_ble_eq_true rfl⟩) rfl rfl dX3_beat_5 (fun _ σ2 _ => ?_)
  refine V_aload_n (x := a0) dX3_beat_8 rfl ?_
  refine V_callV0 (As := []) (st0 := []) (stI := [va_rf a0]) (fun _ h => by cases h; exact t_X3_moveSenders _ σ2) (q := (RX3, TX3, 8)) rfl rfl rfl (Nat.le_of_ble_eq_true rfl) rfl (fun s args hts => cwV 0 hts gX3_beat_X3_moveSenders rfl rfl rfl (by decide +kernel) ⟨Nat.le_of_ble_eq_true rfl, Nat.le_of_ble_eq_true rfl⟩) rfl rfl dX3_beat_9 (fun _ σ3 _ => ?_)
  refine V_aload_n (x := a0) dX3_beat_12 rfl ?_
  refine V_callV0 (As := []) (st0 := []) (stI := [va_rf a0]) (fun _ h => by cases h; exact t_X3_takeBits _ σ3) (q := (RX3, TX3, 8)) rfl rfl rfl (Nat.le_of_ble_eq_true rfl) rfl (fun s args hts => cwV 0 hts gX3_beat_X3_takeBits rfl rfl rfl (by decide +kernel) ⟨Nat.le_of_ble_eq_true rfl, Nat.le_of_ble_eq_true rfl⟩) rfl rfl dX3_beat_13 (fun r4 σ5 _ => ?_)
  refine V_istore_n (x := r4) (ls' := [some (va_rf a0), some (.int r4)]) dX3_beat_16 (by decide) rfl ?_
  refine V_aload_n (x := a0) dX3_beat_17 rfl ?_
  refine V_dup dX3_beat_18 (va_rf_cat _) ?_
  refine V_getI fd_X3_beat_42_X3 dX3_beat_19 (fun x6 => ?_)
  refine V_iconst (v := (1 : Int32)) dX3_beat_22 rfl ?_
  refine V_iadd (x := x6) (y := (1 : Int32)) dX3_beat_23 ?_
  refine V_putI fd_X3_beat_42_X3 fw_X3_beat_X3_6 (fun h => by cases h) dX3_beat_24 (fun σ7 hσ7 => ?_)
  refine V_iload_n (x := r4) dX3_beat_27 rfl ?_
  exact V_iret (fun _ => rfl) rfl (Nat.zero_le _) (Nat.zero_le _) dX3_beat_28
theorem t_X3_beat {D : DG} {z0 : Nat} {l : Launch} (a : Nat)  (σ : SG) : MT D z0 l yX3_beat wsX3_beat rmX3_beat tvI [.ref a] σ (m_X3_beat (some a) σ) :=
  MT.of (own := RX3) (cc := cX3_beat) (nL := 2) (ret := (some .int)) (ct := false) (by decide) rfl rfl (fun h => by cases h) (Nat.le_of_ble_eq_true rfl) (by intro v hv; simp only [List.mem_cons, List.not_mem_nil, or_false] at hv; first | (rcases hv with rfl <;> first | rfl | exact va_rf_cat _) | exact absurd hv (fun h => h)) (v_X3_beat (some a) σ)
set_option maxRecDepth 100000 in
set_option maxHeartbeats 4000000 in
theorem v_X3_letPass_B4 {D : DG} {z0 : Nat} {l : Launch} {rec4 : Option Nat → Int32 → Int32 → Int32 → SG → Option (Int32 × SG)} (hrec4 : ∀ (v0 : Option Nat) (v1 : Int32) (v2 : Int32) (v3 : Int32) (σ : SG), V D z0 l RX3 cX3_letPass 4 wsX3_letPass (some .int) rmX3_letPass false tvI 4 [some (va_rf v0), some (.int v1), some (.int v2), some (.int v3)] [] σ 0 0 (rec4 v0 v1 v2 v3 σ)) : ∀ (v0 : Option Nat) (v1 : Int32) (v2 : Int32) (v3 : Int32) (σ : SG), V D z0 l RX3 cX3_letPass 4 wsX3_letPass (some .int) rmX3_letPass false tvI 4 [some (va_rf v0), some (.int v1), some (.int v2), some (.int v3)] [] σ 0 0 (m_X3_letPass_B4 rec4 v0 v1 v2 v3 σ) := by
  intro v0 v1 v2 v3 σ
  unfold m_X3_letPass_B4
  refine V_iload_n (x := v3) dX3_letPass_4 rfl ?_
  refine V_iload_n (x := v1) dX3_letPass_5 rfl ?_
  refine V_icmp_ge (tgt := 22) (x := v3) (y := v1) dX3_letPass_6 (by decide) (fun hc1 => ?_) (fun hc1 => ?_)
  · refine V_iload_n (x := v2) dX3_letPass_22 rfl ?_
    exact V_iret (fun _ => rfl) rfl (Nat.zero_le _) (Nat.zero_le _) dX3_letPass_23
  · refine V_iload_n (x := v2) dX3_letPass_9 rfl ?_
    refine V_aload_n (x := v0) dX3_letPass_10 rfl ?_
    refine V_callV0 (As := []) (st0 := [.int v2]) (stI := [va_rf v0, .int v2]) (fun _ h => by cases h; exact t_X3_beat _ σ) (q := (RX3, TX3, 8)) rfl rfl rfl (Nat.le_of_ble_eq_true rfl) rfl (fun s args hts => cwV 0 hts gX3_letPass_X3_beat rfl rfl rfl (by decide +kernel) ⟨Nat.le_of_ble_eq_true rfl, Nat.le_of_ble_eq_true rfl⟩) rfl rfl dX3_letPass_11 (fun r2 σ3 _ => ?_)
    refine V_iadd (x := v2) (y := r2) dX3_letPass_14 ?_
    refine V_istore_n (x := (v2 + r2)) (ls' := [some (va_rf v0), some (.int v1), some (.int (v2 + r2)), some (.int v3)]) dX3_letPass_15 (by decide) rfl ?_
    refine V_iinc (x := v3) (v := (v3 + 1)) (ls' := [some (va_rf v0), some (.int v1), some (.int (v2 + r2)), some (.int (v3 + 1))]) dX3_letPass_16 rfl rfl (by decide) rfl ?_
    refine V_goto (tgt := 4) dX3_letPass_19 (by decide) ?_
    exact hrec4 v0 v1 ((v2 + r2)) ((v3 + 1)) σ3
theorem v_X3_letPass_L4 {D : DG} {z0 : Nat} {l : Launch} : ∀ (n : Nat) (v0 : Option Nat) (v1 : Int32) (v2 : Int32) (v3 : Int32) (σ : SG), V D z0 l RX3 cX3_letPass 4 wsX3_letPass (some .int) rmX3_letPass false tvI 4 [some (va_rf v0), some (.int v1), some (.int v2), some (.int v3)] [] σ 0 0 (m_X3_letPass_L4 n v0 v1 v2 v3 σ) := by
  intro n
  induction n with
  | zero => intros; exact V_none
  | succ n ih => exact v_X3_letPass_B4  ih
set_option maxRecDepth 100000 in
set_option maxHeartbeats 4000000 in
theorem v_X3_letPass {D : DG} {z0 : Nat} {l : Launch} : ∀ (a0 : Option Nat) (a1 : Int32) (σ : SG), V D z0 l RX3 cX3_letPass 4 wsX3_letPass (some .int) rmX3_letPass false tvI 0 [some (va_rf a0), some (.int a1), none, none] [] σ 0 0 (m_X3_letPass a0 a1 σ) := by
  intro a0 a1 σ
  unfold m_X3_letPass
  refine V_iconst (v := (0 : Int32)) dX3_letPass_0 rfl ?_
  refine V_istore_n (x := (0 : Int32)) (ls' := [some (va_rf a0), some (.int a1), some (.int (0 : Int32)), none]) dX3_letPass_1 (by decide) rfl ?_
  refine V_iconst (v := (0 : Int32)) dX3_letPass_2 rfl ?_
  refine V_istore_n (x := (0 : Int32)) (ls' := [some (va_rf a0), some (.int a1), some (.int (0 : Int32)), some (.int (0 : Int32))]) dX3_letPass_3 (by decide) rfl ?_
  exact v_X3_letPass_L4  1000 a0 a1 ((0 : Int32)) ((0 : Int32)) σ
theorem t_X3_letPass {D : DG} {z0 : Nat} {l : Launch} (a : Nat) (a1 : Int32) (σ : SG) : MT D z0 l yX3_letPass wsX3_letPass rmX3_letPass tvI [.ref a, .int a1] σ (m_X3_letPass (some a) a1 σ) :=
  MT.of (own := RX3) (cc := cX3_letPass) (nL := 4) (ret := (some .int)) (ct := false) (by decide) rfl rfl (fun h => by cases h) (Nat.le_of_ble_eq_true rfl) (by intro v hv; simp only [List.mem_cons, List.not_mem_nil, or_false] at hv; first | (rcases hv with rfl | rfl <;> first | rfl | exact va_rf_cat _) | exact absurd hv (fun h => h)) (v_X3_letPass (some a) a1 σ)
theorem wd_X5_init_0 : Cond.methodLink RX5 3 objectInit ∈ wsX5_init := by decide +kernel
theorem wd_X5_init_1 : Cond.instanceMethod objectInit ∈ wsX5_init := by decide +kernel
theorem wd_X5_init_2 : Cond.code objectInit ⟨#[0xb1]⟩ 1 none ∈ wsX5_init := by decide +kernel
theorem wd_X5_init_3 : Cond.arrayClass .int ∈ wsX5_init := by decide +kernel
theorem in_X5_init_X5 : ∀ w ∈ u_ws RX5 TX5 2, w ∈ wsX5_init := by decide +kernel
theorem wd_X5_init_5 : Cond.fieldLink RX5 9 "MainsWords$Script" "signs" "[I" ∈ wsX5_init := by decide +kernel
theorem fd_X5_init_9_X5 : FD RX5 9 wsX5_init 5 0 := ⟨RX5, "MainsWords$Script", TX5, 2, rfl, in_X5_init_X5, by decide, wd_X5_init_5, Or.inl rfl⟩
theorem fw_X5_init_X5_0 : FW RX5 wsX5_init 5 0 (.array .int) true := ⟨RX5, TX5, 2, tyX5, rfl, in_X5_init_X5, tyX5_ok, nmX5, rfl, (fun _ => rfl), rfl⟩
theorem wd_X5_init_8 : Cond.fieldLink RX5 15 "MainsWords$Script" "length" "I" ∈ wsX5_init := by decide +kernel
theorem fd_X5_init_15_X5 : FD RX5 15 wsX5_init 5 1 := ⟨RX5, "MainsWords$Script", TX5, 2, rfl, in_X5_init_X5, by decide, wd_X5_init_8, Or.inl rfl⟩
theorem fw_X5_init_X5_1 : FW RX5 wsX5_init 5 1 .int false := ⟨RX5, TX5, 2, tyX5, rfl, in_X5_init_X5, tyX5_ok, nmX5, rfl, (fun h => by cases h), rfl⟩
set_option maxRecDepth 100000 in
set_option maxHeartbeats 4000000 in
theorem v_X5_init_e {D : DG} {z0 : Nat} {l : Launch} {szE lim : Nat} (hlim : lim = szE + rmX5_init.cells) : ∀ (a0 : Option Nat) (σ : SG) (cells slots : Nat), CB rmX5_init szE σ cells slots → V D z0 l RX5 cX5_init 1 wsX5_init none rmX5_init true tvU 0 [some (va_rf a0)] [] σ cells slots (m_X5_init_e lim a0 σ) := by
  intro a0 σ cells slots hB
  unfold m_X5_init_e
  refine V_aload_n (x := a0) dX5_init_0 rfl ?_
  refine V_objinitN wd_X5_init_0 wd_X5_init_1 wd_X5_init_2 (by decide) (by decide) dX5_init_1 ?_
  refine V_aload_n (x := a0) dX5_init_4 rfl ?_
  refine V_bipush (v := (80 : Int32)) dX5_init_5 rfl ?_
  refine V_newA (at0 := .int) (ty := .int) hB hlim rfl rfl (by decide) rfl (fun _ _ => rfl) wd_X5_init_3 dX5_init_7 (fun x1 σ2 _ _ hB3 => ?_)
  refine V_putA fd_X5_init_9_X5 fw_X5_init_X5_0 (fun _ => rfl) dX5_init_9 (fun σ4 hσ4 => ?_)
  refine V_aload_n (x := a0) dX5_init_12 rfl ?_
  refine V_iconst (v := (0 : Int32)) dX5_init_13 rfl ?_
  refine V_putI fd_X5_init_15_X5 fw_X5_init_X5_1 (fun h => by cases h) dX5_init_14 (fun σ5 hσ5 => ?_)
  exact V_vretA (CB.go (CB.go hB3 hσ4) hσ5) hlim (fun _ => rfl) rfl dX5_init_17
theorem t_X5_init {D : DG} {z0 : Nat} {l : Launch} (a : Nat)  (σ : SG) : MT D z0 l yX5_init wsX5_init rmX5_init tvU [.ref a] σ (m_X5_init (some a) σ) :=
  MT.of (own := RX5) (cc := cX5_init) (nL := 1) (ret := none) (ct := true) (by decide) rfl rfl (fun _ => rfl) (Nat.le_of_ble_eq_true rfl) (by intro v hv; simp only [List.mem_cons, List.not_mem_nil, or_false] at hv; first | (rcases hv with rfl <;> first | rfl | exact va_rf_cat _) | exact absurd hv (fun h => h)) (v_X5_init_e rfl (some a) σ 0 0 (CB.start rfl))
theorem in_X5_isFull_X5 : ∀ w ∈ u_ws RX5 TX5 2, w ∈ wsX5_isFull := by decide +kernel
theorem wd_X5_isFull_1 : Cond.fieldLink RX5 15 "MainsWords$Script" "length" "I" ∈ wsX5_isFull := by decide +kernel
theorem fd_X5_isFull_15_X5 : FD RX5 15 wsX5_isFull 5 1 := ⟨RX5, "MainsWords$Script", TX5, 2, rfl, in_X5_isFull_X5, by decide, wd_X5_isFull_1, Or.inl rfl⟩
theorem wd_X5_isFull_3 : Cond.fieldLink RX5 9 "MainsWords$Script" "signs" "[I" ∈ wsX5_isFull := by decide +kernel
theorem fd_X5_isFull_9_X5 : FD RX5 9 wsX5_isFull 5 0 := ⟨RX5, "MainsWords$Script", TX5, 2, rfl, in_X5_isFull_X5, by decide, wd_X5_isFull_3, Or.inl rfl⟩
set_option maxRecDepth 100000 in
set_option maxHeartbeats 4000000 in
theorem v_X5_isFull {D : DG} {z0 : Nat} {l : Launch} : ∀ (a0 : Option Nat) (σ : SG), V D z0 l RX5 cX5_isFull 1 wsX5_isFull (some .boolean) rmX5_isFull false tvI 0 [some (va_rf a0)] [] σ 0 0 (m_X5_isFull a0 σ) := by
  intro a0 σ
  unfold m_X5_isFull
  refine V_aload_n (x := a0) dX5_isFull_0 rfl ?_
  refine V_getI fd_X5_isFull_15_X5 dX5_isFull_1 (fun x1 => ?_)
  refine V_aload_n (x := a0) dX5_isFull_4 rfl ?_
  refine V_getR fd_X5_isFull_9_X5 dX5_isFull_5 (fun x2 => ?_)
  refine V_alen dX5_isFull_8 (fun x3 => ?_)
  refine V_icmp_lt (tgt := 16) (x := x1) (y := x3) dX5_isFull_9 (by decide) (fun hc4 => ?_) (fun hc4 => ?_)
  · refine V_iconst (v := (0 : Int32)) dX5_isFull_16 rfl ?_
    exact V_zret (fun _ => rfl) rfl (Nat.zero_le _) (Nat.zero_le _) dX5_isFull_17
  · refine V_iconst (v := (1 : Int32)) dX5_isFull_12 rfl ?_
    refine V_goto (tgt := 17) dX5_isFull_13 (by decide) ?_
    exact V_zret (fun _ => rfl) rfl (Nat.zero_le _) (Nat.zero_le _) dX5_isFull_17
theorem t_X5_isFull {D : DG} {z0 : Nat} {l : Launch} (a : Nat)  (σ : SG) : MT D z0 l yX5_isFull wsX5_isFull rmX5_isFull tvI [.ref a] σ (m_X5_isFull (some a) σ) :=
  MT.of (own := RX5) (cc := cX5_isFull) (nL := 1) (ret := (some .boolean)) (ct := false) (by decide) rfl rfl (fun h => by cases h) (Nat.le_of_ble_eq_true rfl) (by intro v hv; simp only [List.mem_cons, List.not_mem_nil, or_false] at hv; first | (rcases hv with rfl <;> first | rfl | exact va_rf_cat _) | exact absurd hv (fun h => h)) (v_X5_isFull (some a) σ)
theorem in_X5_add_X5 : ∀ w ∈ u_ws RX5 TX5 2, w ∈ wsX5_add := by decide +kernel
theorem wd_X5_add_1 : Cond.fieldLink RX5 15 "MainsWords$Script" "length" "I" ∈ wsX5_add := by decide +kernel
theorem fd_X5_add_15_X5 : FD RX5 15 wsX5_add 5 1 := ⟨RX5, "MainsWords$Script", TX5, 2, rfl, in_X5_add_X5, by decide, wd_X5_add_1, Or.inl rfl⟩
theorem wd_X5_add_3 : Cond.fieldLink RX5 9 "MainsWords$Script" "signs" "[I" ∈ wsX5_add := by decide +kernel
theorem fd_X5_add_9_X5 : FD RX5 9 wsX5_add 5 0 := ⟨RX5, "MainsWords$Script", TX5, 2, rfl, in_X5_add_X5, by decide, wd_X5_add_3, Or.inl rfl⟩
theorem fw_X5_add_X5_1 : FW RX5 wsX5_add 5 1 .int false := ⟨RX5, TX5, 2, tyX5, rfl, in_X5_add_X5, tyX5_ok, nmX5, rfl, (fun h => by cases h), rfl⟩
set_option maxRecDepth 100000 in
set_option maxHeartbeats 4000000 in
theorem v_X5_add {D : DG} {z0 : Nat} {l : Launch} : ∀ (a0 : Option Nat) (a1 : Int32) (σ : SG), V D z0 l RX5 cX5_add 2 wsX5_add none rmX5_add false tvU 0 [some (va_rf a0), some (.int a1)] [] σ 0 0 (m_X5_add a0 a1 σ) := by
  intro a0 a1 σ
  unfold m_X5_add
  refine V_aload_n (x := a0) dX5_add_0 rfl ?_
  refine V_getI fd_X5_add_15_X5 dX5_add_1 (fun x1 => ?_)
  refine V_if_lt (tgt := 39) (x := x1) dX5_add_4 (by decide) (fun hc2 => ?_) (fun hc2 => ?_)
  · exact V_vret (fun _ => rfl) rfl (Nat.zero_le _) (Nat.zero_le _) dX5_add_39
  · refine V_aload_n (x := a0) dX5_add_7 rfl ?_
    refine V_getI fd_X5_add_15_X5 dX5_add_8 (fun x3 => ?_)
    refine V_aload_n (x := a0) dX5_add_11 rfl ?_
    refine V_getR fd_X5_add_9_X5 dX5_add_12 (fun x4 => ?_)
    refine V_alen dX5_add_15 (fun x5 => ?_)
    refine V_icmp_ge (tgt := 39) (x := x3) (y := x5) dX5_add_16 (by decide) (fun hc6 => ?_) (fun hc6 => ?_)
    · exact V_vret (fun _ => rfl) rfl (Nat.zero_le _) (Nat.zero_le _) dX5_add_39
    · refine V_aload_n (x := a0) dX5_add_19 rfl ?_
      refine V_getR fd_X5_add_9_X5 dX5_add_20 (fun x7 => ?_)
      refine V_aload_n (x := a0) dX5_add_23 rfl ?_
      refine V_getI fd_X5_add_15_X5 dX5_add_24 (fun x8 => ?_)
      refine V_iload_n (x := a1) dX5_add_27 rfl ?_
      refine V_iastore dX5_add_28 (fun σ9 hσ9 => ?_)
      refine V_aload_n (x := a0) dX5_add_29 rfl ?_
      refine V_dup dX5_add_30 (va_rf_cat _) ?_
      refine V_getI fd_X5_add_15_X5 dX5_add_31 (fun x10 => ?_)
      refine V_iconst (v := (1 : Int32)) dX5_add_34 rfl ?_
      refine V_iadd (x := x10) (y := (1 : Int32)) dX5_add_35 ?_
      refine V_putI fd_X5_add_15_X5 fw_X5_add_X5_1 (fun h => by cases h) dX5_add_36 (fun σ11 hσ11 => ?_)
      exact V_vret (fun _ => rfl) rfl (Nat.zero_le _) (Nat.zero_le _) dX5_add_39
theorem t_X5_add {D : DG} {z0 : Nat} {l : Launch} (a : Nat) (a1 : Int32) (σ : SG) : MT D z0 l yX5_add wsX5_add rmX5_add tvU [.ref a, .int a1] σ (m_X5_add (some a) a1 σ) :=
  MT.of (own := RX5) (cc := cX5_add) (nL := 2) (ret := none) (ct := false) (by decide) rfl rfl (fun h => by cases h) (Nat.le_of_ble_eq_true rfl) (by intro v hv; simp only [List.mem_cons, List.not_mem_nil, or_false] at hv; first | (rcases hv with rfl | rfl <;> first | rfl | exact va_rf_cat _) | exact absurd hv (fun h => h)) (v_X5_add (some a) a1 σ)
theorem in_X5_signAt_X5 : ∀ w ∈ u_ws RX5 TX5 2, w ∈ wsX5_signAt := by decide +kernel
theorem wd_X5_signAt_1 : Cond.fieldLink RX5 15 "MainsWords$Script" "length" "I" ∈ wsX5_signAt := by decide +kernel
theorem fd_X5_signAt_15_X5 : FD RX5 15 wsX5_signAt 5 1 := ⟨RX5, "MainsWords$Script", TX5, 2, rfl, in_X5_signAt_X5, by decide, wd_X5_signAt_1, Or.inl rfl⟩
theorem wd_X5_signAt_3 : Cond.fieldLink RX5 9 "MainsWords$Script" "signs" "[I" ∈ wsX5_signAt := by decide +kernel
theorem fd_X5_signAt_9_X5 : FD RX5 9 wsX5_signAt 5 0 := ⟨RX5, "MainsWords$Script", TX5, 2, rfl, in_X5_signAt_X5, by decide, wd_X5_signAt_3, Or.inl rfl⟩
set_option maxRecDepth 100000 in
set_option maxHeartbeats 4000000 in
theorem v_X5_signAt {D : DG} {z0 : Nat} {l : Launch} : ∀ (a0 : Option Nat) (a1 : Int32) (σ : SG), V D z0 l RX5 cX5_signAt 2 wsX5_signAt (some .int) rmX5_signAt false tvI 0 [some (va_rf a0), some (.int a1)] [] σ 0 0 (m_X5_signAt a0 a1 σ) := by
  intro a0 a1 σ
  unfold m_X5_signAt
  refine V_iload_n (x := a1) dX5_signAt_0 rfl ?_
  refine V_if_lt (tgt := 30) (x := a1) dX5_signAt_1 (by decide) (fun hc1 => ?_) (fun hc1 => ?_)
  · refine V_iconst (v := (0 : Int32)) dX5_signAt_30 rfl ?_
    exact V_iret (fun _ => rfl) rfl (Nat.zero_le _) (Nat.zero_le _) dX5_signAt_31
  · refine V_iload_n (x := a1) dX5_signAt_4 rfl ?_
    refine V_aload_n (x := a0) dX5_signAt_5 rfl ?_
    refine V_getI fd_X5_signAt_15_X5 dX5_signAt_6 (fun x2 => ?_)
    refine V_icmp_ge (tgt := 30) (x := a1) (y := x2) dX5_signAt_9 (by decide) (fun hc3 => ?_) (fun hc3 => ?_)
    · refine V_iconst (v := (0 : Int32)) dX5_signAt_30 rfl ?_
      exact V_iret (fun _ => rfl) rfl (Nat.zero_le _) (Nat.zero_le _) dX5_signAt_31
    · refine V_iload_n (x := a1) dX5_signAt_12 rfl ?_
      refine V_aload_n (x := a0) dX5_signAt_13 rfl ?_
      refine V_getR fd_X5_signAt_9_X5 dX5_signAt_14 (fun x4 => ?_)
      refine V_alen dX5_signAt_17 (fun x5 => ?_)
      refine V_icmp_ge (tgt := 30) (x := a1) (y := x5) dX5_signAt_18 (by decide) (fun hc6 => ?_) (fun hc6 => ?_)
      · refine V_iconst (v := (0 : Int32)) dX5_signAt_30 rfl ?_
        exact V_iret (fun _ => rfl) rfl (Nat.zero_le _) (Nat.zero_le _) dX5_signAt_31
      · refine V_aload_n (x := a0) dX5_signAt_21 rfl ?_
        refine V_getR fd_X5_signAt_9_X5 dX5_signAt_22 (fun x7 => ?_)
        refine V_iload_n (x := a1) dX5_signAt_25 rfl ?_
        refine V_iaload dX5_signAt_26 (fun x8 => ?_)
        refine V_goto (tgt := 31) dX5_signAt_27 (by decide) ?_
        exact V_iret (fun _ => rfl) rfl (Nat.zero_le _) (Nat.zero_le _) dX5_signAt_31
theorem t_X5_signAt {D : DG} {z0 : Nat} {l : Launch} (a : Nat) (a1 : Int32) (σ : SG) : MT D z0 l yX5_signAt wsX5_signAt rmX5_signAt tvI [.ref a, .int a1] σ (m_X5_signAt (some a) a1 σ) :=
  MT.of (own := RX5) (cc := cX5_signAt) (nL := 2) (ret := (some .int)) (ct := false) (by decide) rfl rfl (fun h => by cases h) (Nat.le_of_ble_eq_true rfl) (by intro v hv; simp only [List.mem_cons, List.not_mem_nil, or_false] at hv; first | (rcases hv with rfl | rfl <;> first | rfl | exact va_rf_cat _) | exact absurd hv (fun h => h)) (v_X5_signAt (some a) a1 σ)
set_option maxRecDepth 100000 in
set_option maxHeartbeats 4000000 in
theorem v_X5_isDigit {D : DG} {z0 : Nat} {l : Launch} : ∀ (a0 : Int32) (σ : SG), V D z0 l RX5 cX5_isDigit 1 wsX5_isDigit (some .boolean) rmX5_isDigit false tvI 0 [some (.int a0)] [] σ 0 0 (m_X5_isDigit a0 σ) := by
  intro a0 σ
  unfold m_X5_isDigit
  refine V_iload_n (x := a0) dX5_isDigit_0 rfl ?_
  refine V_bipush (v := (48 : Int32)) dX5_isDigit_1 rfl ?_
  refine V_icmp_lt (tgt := 16) (x := a0) (y := (48 : Int32)) dX5_isDigit_3 (by decide) (fun hc1 => ?_) (fun hc1 => ?_)
  · refine V_iconst (v := (0 : Int32)) dX5_isDigit_16 rfl ?_
    exact V_zret (fun _ => rfl) rfl (Nat.zero_le _) (Nat.zero_le _) dX5_isDigit_17
  · refine V_iload_n (x := a0) dX5_isDigit_6 rfl ?_
    refine V_bipush (v := (57 : Int32)) dX5_isDigit_7 rfl ?_
    refine V_icmp_gt (tgt := 16) (x := a0) (y := (57 : Int32)) dX5_isDigit_9 (by decide) (fun hc2 => ?_) (fun hc2 => ?_)
    · refine V_iconst (v := (0 : Int32)) dX5_isDigit_16 rfl ?_
      exact V_zret (fun _ => rfl) rfl (Nat.zero_le _) (Nat.zero_le _) dX5_isDigit_17
    · refine V_iconst (v := (1 : Int32)) dX5_isDigit_12 rfl ?_
      refine V_goto (tgt := 17) dX5_isDigit_13 (by decide) ?_
      exact V_zret (fun _ => rfl) rfl (Nat.zero_le _) (Nat.zero_le _) dX5_isDigit_17
theorem t_X5_isDigit {D : DG} {z0 : Nat} {l : Launch} (a0 : Int32) (σ : SG) : MT D z0 l yX5_isDigit wsX5_isDigit rmX5_isDigit tvI [.int a0] σ (m_X5_isDigit a0 σ) :=
  MT.of (own := RX5) (cc := cX5_isDigit) (nL := 1) (ret := (some .boolean)) (ct := false) (by decide) rfl rfl (fun h => by cases h) (Nat.le_of_ble_eq_true rfl) (by intro v hv; simp only [List.mem_cons, List.not_mem_nil, or_false] at hv; first | (rcases hv with rfl <;> first | rfl | exact va_rf_cat _) | exact absurd hv (fun h => h)) (v_X5_isDigit a0 σ)
set_option maxRecDepth 100000 in
set_option maxHeartbeats 4000000 in
theorem v_X5_isSenderDigit {D : DG} {z0 : Nat} {l : Launch} : ∀ (a0 : Int32) (σ : SG), V D z0 l RX5 cX5_isSenderDigit 1 wsX5_isSenderDigit (some .boolean) rmX5_isSenderDigit false tvI 0 [some (.int a0)] [] σ 0 0 (m_X5_isSenderDigit a0 σ) := by
  intro a0 σ
  unfold m_X5_isSenderDigit
  refine V_iload_n (x := a0) dX5_isSenderDigit_0 rfl ?_
  refine V_callS0 (As := [.int a0]) (st0 := []) (stI := [.int a0]) (t_X5_isDigit a0 σ) rfl (Nat.le_of_ble_eq_true rfl) rfl (fun s args hts => va_cwS 1 hts gX5_isSenderDigit_X5_isDigit rfl rfl rfl (by decide +kernel) ⟨Nat.le_of_ble_eq_true rfl, Nat.le_of_ble_eq_true rfl⟩) rfl rfl dX5_isSenderDigit_1 (fun r1 σ2 _ => ?_)
  refine V_if_eq (tgt := 19) (x := r1) dX5_isSenderDigit_4 (by decide) (fun hc3 => ?_) (fun hc3 => ?_)
  · refine V_iconst (v := (0 : Int32)) dX5_isSenderDigit_19 rfl ?_
    exact V_zret (fun _ => rfl) rfl (Nat.zero_le _) (Nat.zero_le _) dX5_isSenderDigit_20
  · refine V_iload_n (x := a0) dX5_isSenderDigit_7 rfl ?_
    refine V_bipush (v := (48 : Int32)) dX5_isSenderDigit_8 rfl ?_
    refine V_isub (x := a0) (y := (48 : Int32)) dX5_isSenderDigit_10 ?_
    refine V_iconst (v := (5 : Int32)) dX5_isSenderDigit_11 rfl ?_
    refine V_icmp_ge (tgt := 19) (x := (a0 - (48 : Int32))) (y := (5 : Int32)) dX5_isSenderDigit_12 (by decide) (fun hc4 => ?_) (fun hc4 => ?_)
    · refine V_iconst (v := (0 : Int32)) dX5_isSenderDigit_19 rfl ?_
      exact V_zret (fun _ => rfl) rfl (Nat.zero_le _) (Nat.zero_le _) dX5_isSenderDigit_20
    · refine V_iconst (v := (1 : Int32)) dX5_isSenderDigit_15 rfl ?_
      refine V_goto (tgt := 20) dX5_isSenderDigit_16 (by decide) ?_
      exact V_zret (fun _ => rfl) rfl (Nat.zero_le _) (Nat.zero_le _) dX5_isSenderDigit_20
theorem t_X5_isSenderDigit {D : DG} {z0 : Nat} {l : Launch} (a0 : Int32) (σ : SG) : MT D z0 l yX5_isSenderDigit wsX5_isSenderDigit rmX5_isSenderDigit tvI [.int a0] σ (m_X5_isSenderDigit a0 σ) :=
  MT.of (own := RX5) (cc := cX5_isSenderDigit) (nL := 1) (ret := (some .boolean)) (ct := false) (by decide) rfl rfl (fun h => by cases h) (Nat.le_of_ble_eq_true rfl) (by intro v hv; simp only [List.mem_cons, List.not_mem_nil, or_false] at hv; first | (rcases hv with rfl <;> first | rfl | exact va_rf_cat _) | exact absurd hv (fun h => h)) (v_X5_isSenderDigit a0 σ)
set_option maxRecDepth 100000 in
set_option maxHeartbeats 4000000 in
theorem v_X5_isLetter {D : DG} {z0 : Nat} {l : Launch} : ∀ (a0 : Int32) (σ : SG), V D z0 l RX5 cX5_isLetter 1 wsX5_isLetter (some .boolean) rmX5_isLetter false tvI 0 [some (.int a0)] [] σ 0 0 (m_X5_isLetter a0 σ) := by
  intro a0 σ
  unfold m_X5_isLetter
  refine V_iload_n (x := a0) dX5_isLetter_0 rfl ?_
  refine V_bipush (v := (65 : Int32)) dX5_isLetter_1 rfl ?_
  refine V_icmp_lt (tgt := 16) (x := a0) (y := (65 : Int32)) dX5_isLetter_3 (by decide) (fun hc1 => ?_) (fun hc1 => ?_)
  · refine V_iconst (v := (0 : Int32)) dX5_isLetter_16 rfl ?_
    exact V_zret (fun _ => rfl) rfl (Nat.zero_le _) (Nat.zero_le _) dX5_isLetter_17
  · refine V_iload_n (x := a0) dX5_isLetter_6 rfl ?_
    refine V_bipush (v := (69 : Int32)) dX5_isLetter_7 rfl ?_
    refine V_icmp_ge (tgt := 16) (x := a0) (y := (69 : Int32)) dX5_isLetter_9 (by decide) (fun hc2 => ?_) (fun hc2 => ?_)
    · refine V_iconst (v := (0 : Int32)) dX5_isLetter_16 rfl ?_
      exact V_zret (fun _ => rfl) rfl (Nat.zero_le _) (Nat.zero_le _) dX5_isLetter_17
    · refine V_iconst (v := (1 : Int32)) dX5_isLetter_12 rfl ?_
      refine V_goto (tgt := 17) dX5_isLetter_13 (by decide) ?_
      exact V_zret (fun _ => rfl) rfl (Nat.zero_le _) (Nat.zero_le _) dX5_isLetter_17
theorem t_X5_isLetter {D : DG} {z0 : Nat} {l : Launch} (a0 : Int32) (σ : SG) : MT D z0 l yX5_isLetter wsX5_isLetter rmX5_isLetter tvI [.int a0] σ (m_X5_isLetter a0 σ) :=
  MT.of (own := RX5) (cc := cX5_isLetter) (nL := 1) (ret := (some .boolean)) (ct := false) (by decide) rfl rfl (fun h => by cases h) (Nat.le_of_ble_eq_true rfl) (by intro v hv; simp only [List.mem_cons, List.not_mem_nil, or_false] at hv; first | (rcases hv with rfl <;> first | rfl | exact va_rf_cat _) | exact absurd hv (fun h => h)) (v_X5_isLetter a0 σ)
set_option maxRecDepth 100000 in
set_option maxHeartbeats 4000000 in
theorem v_X5_codeOf {D : DG} {z0 : Nat} {l : Launch} : ∀ (a0 : Int32) (σ : SG), V D z0 l RX5 cX5_codeOf 1 wsX5_codeOf (some .int) rmX5_codeOf false tvI 0 [some (.int a0)] [] σ 0 0 (m_X5_codeOf a0 σ) := by
  intro a0 σ
  unfold m_X5_codeOf
  refine V_iload_n (x := a0) dX5_codeOf_0 rfl ?_
  refine V_lookup (x := a0) (tb := [(33, 51), (43, 44), (45, 46), (94, 48)]) (tgt := 54) dX5_codeOf_1 (by decide) rfl rfl (by decide) (by decide) (lkOut_X5_codeOf a0) (List.forall_mem_cons.mpr ⟨?_, List.forall_mem_cons.mpr ⟨?_, List.forall_mem_cons.mpr ⟨?_, List.forall_mem_cons.mpr ⟨?_, fun _ h => absurd h List.not_mem_nil⟩⟩⟩⟩) ?_
  · dsimp only
    refine V_bipush (v := (7 : Int32)) dX5_codeOf_51 rfl ?_
    exact V_iret (fun _ => rfl) rfl (Nat.zero_le _) (Nat.zero_le _) dX5_codeOf_53
  · dsimp only
    refine V_iconst (v := (4 : Int32)) dX5_codeOf_44 rfl ?_
    exact V_iret (fun _ => rfl) rfl (Nat.zero_le _) (Nat.zero_le _) dX5_codeOf_45
  · dsimp only
    refine V_iconst (v := (5 : Int32)) dX5_codeOf_46 rfl ?_
    exact V_iret (fun _ => rfl) rfl (Nat.zero_le _) (Nat.zero_le _) dX5_codeOf_47
  · dsimp only
    refine V_bipush (v := (6 : Int32)) dX5_codeOf_48 rfl ?_
    exact V_iret (fun _ => rfl) rfl (Nat.zero_le _) (Nat.zero_le _) dX5_codeOf_50
  · refine V_iload_n (x := a0) dX5_codeOf_54 rfl ?_
    refine V_bipush (v := (48 : Int32)) dX5_codeOf_55 rfl ?_
    refine V_icmp_lt (tgt := 73) (x := a0) (y := (48 : Int32)) dX5_codeOf_57 (by decide) (fun hc1 => ?_) (fun hc1 => ?_)
    · refine V_iconst (v := (-1 : Int32)) dX5_codeOf_73 rfl ?_
      exact V_iret (fun _ => rfl) rfl (Nat.zero_le _) (Nat.zero_le _) dX5_codeOf_74
    · refine V_iload_n (x := a0) dX5_codeOf_60 rfl ?_
      refine V_bipush (v := (52 : Int32)) dX5_codeOf_61 rfl ?_
      refine V_icmp_ge (tgt := 73) (x := a0) (y := (52 : Int32)) dX5_codeOf_63 (by decide) (fun hc2 => ?_) (fun hc2 => ?_)
      · refine V_iconst (v := (-1 : Int32)) dX5_codeOf_73 rfl ?_
        exact V_iret (fun _ => rfl) rfl (Nat.zero_le _) (Nat.zero_le _) dX5_codeOf_74
      · refine V_iload_n (x := a0) dX5_codeOf_66 rfl ?_
        refine V_bipush (v := (48 : Int32)) dX5_codeOf_67 rfl ?_
        refine V_isub (x := a0) (y := (48 : Int32)) dX5_codeOf_69 ?_
        refine V_goto (tgt := 74) dX5_codeOf_70 (by decide) ?_
        exact V_iret (fun _ => rfl) rfl (Nat.zero_le _) (Nat.zero_le _) dX5_codeOf_74
theorem t_X5_codeOf {D : DG} {z0 : Nat} {l : Launch} (a0 : Int32) (σ : SG) : MT D z0 l yX5_codeOf wsX5_codeOf rmX5_codeOf tvI [.int a0] σ (m_X5_codeOf a0 σ) :=
  MT.of (own := RX5) (cc := cX5_codeOf) (nL := 1) (ret := (some .int)) (ct := false) (by decide) rfl rfl (fun h => by cases h) (Nat.le_of_ble_eq_true rfl) (by intro v hv; simp only [List.mem_cons, List.not_mem_nil, or_false] at hv; first | (rcases hv with rfl <;> first | rfl | exact va_rf_cat _) | exact absurd hv (fun h => h)) (v_X5_codeOf a0 σ)
set_option maxRecDepth 100000 in
set_option maxHeartbeats 4000000 in
theorem v_X5_next {D : DG} {z0 : Nat} {l : Launch} : ∀ (a0 : Int32) (a1 : Int32) (σ : SG), V D z0 l RX5 cX5_next 2 wsX5_next (some .int) rmX5_next false tvI 0 [some (.int a0), some (.int a1)] [] σ 0 0 (m_X5_next a0 a1 σ) := by
  intro a0 a1 σ
  unfold m_X5_next
  refine V_iload_n (x := a0) dX5_next_0 rfl ?_
  refine V_table (x := a0) (tb := [(0, 48), (1, 71), (2, 83), (3, 96), (4, 110), (5, 133), (6, 153), (7, 177)]) (tgt := 189) dX5_next_1 (by decide) rfl (by decide) (List.forall_mem_cons.mpr ⟨?_, List.forall_mem_cons.mpr ⟨?_, List.forall_mem_cons.mpr ⟨?_, List.forall_mem_cons.mpr ⟨?_, List.forall_mem_cons.mpr ⟨?_, List.forall_mem_cons.mpr ⟨?_, List.forall_mem_cons.mpr ⟨?_, List.forall_mem_cons.mpr ⟨?_, fun _ h => absurd h List.not_mem_nil⟩⟩⟩⟩⟩⟩⟩⟩) ?_
  · dsimp only
    refine V_iload_n (x := a1) dX5_next_48 rfl ?_
    refine V_bipush (v := (116 : Int32)) dX5_next_49 rfl ?_
    refine V_icmp_ne (tgt := 58) (x := a1) (y := (116 : Int32)) dX5_next_51 (by decide) (fun hc1 => ?_) (fun hc1 => ?_)
    · refine V_iconst (v := (5 : Int32)) dX5_next_54 rfl ?_
      refine V_goto (tgt := 70) dX5_next_55 (by decide) ?_
      exact V_iret (fun _ => rfl) rfl (Nat.zero_le _) (Nat.zero_le _) dX5_next_70
    · refine V_iload_n (x := a1) dX5_next_58 rfl ?_
      refine V_callS0 (As := [.int a1]) (st0 := []) (stI := [.int a1]) (t_X5_isSenderDigit a1 σ) rfl (Nat.le_of_ble_eq_true rfl) rfl (fun s args hts => va_cwS 1 hts gX5_next_X5_isSenderDigit rfl rfl rfl (by decide +kernel) ⟨Nat.le_of_ble_eq_true rfl, Nat.le_of_ble_eq_true rfl⟩) rfl rfl dX5_next_59 (fun r2 σ3 _ => ?_)
      refine V_if_eq (tgt := 69) (x := r2) dX5_next_62 (by decide) (fun hc4 => ?_) (fun hc4 => ?_)
      · refine V_iconst (v := (-1 : Int32)) dX5_next_69 rfl ?_
        exact V_iret (fun _ => rfl) rfl (Nat.zero_le _) (Nat.zero_le _) dX5_next_70
      · refine V_iconst (v := (1 : Int32)) dX5_next_65 rfl ?_
        refine V_goto (tgt := 70) dX5_next_66 (by decide) ?_
        exact V_iret (fun _ => rfl) rfl (Nat.zero_le _) (Nat.zero_le _) dX5_next_70
  · dsimp only
    refine V_iload_n (x := a1) dX5_next_71 rfl ?_
    refine V_bipush (v := (58 : Int32)) dX5_next_72 rfl ?_
    refine V_icmp_ne (tgt := 81) (x := a1) (y := (58 : Int32)) dX5_next_74 (by decide) (fun hc5 => ?_) (fun hc5 => ?_)
    · refine V_iconst (v := (2 : Int32)) dX5_next_77 rfl ?_
      refine V_goto (tgt := 82) dX5_next_78 (by decide) ?_
      exact V_iret (fun _ => rfl) rfl (Nat.zero_le _) (Nat.zero_le _) dX5_next_82
    · refine V_iconst (v := (-1 : Int32)) dX5_next_81 rfl ?_
      exact V_iret (fun _ => rfl) rfl (Nat.zero_le _) (Nat.zero_le _) dX5_next_82
  · dsimp only
    refine V_iload_n (x := a1) dX5_next_83 rfl ?_
    refine V_callS0 (As := [.int a1]) (st0 := []) (stI := [.int a1]) (t_X5_isLetter a1 σ) rfl (Nat.le_of_ble_eq_true rfl) rfl (fun s args hts => va_cwS 1 hts gX5_next_X5_isLetter rfl rfl rfl (by decide +kernel) ⟨Nat.le_of_ble_eq_true rfl, Nat.le_of_ble_eq_true rfl⟩) rfl rfl dX5_next_84 (fun r6 σ7 _ => ?_)
    refine V_if_eq (tgt := 94) (x := r6) dX5_next_87 (by decide) (fun hc8 => ?_) (fun hc8 => ?_)
    · refine V_iconst (v := (-1 : Int32)) dX5_next_94 rfl ?_
      exact V_iret (fun _ => rfl) rfl (Nat.zero_le _) (Nat.zero_le _) dX5_next_95
    · refine V_iconst (v := (3 : Int32)) dX5_next_90 rfl ?_
      refine V_goto (tgt := 95) dX5_next_91 (by decide) ?_
      exact V_iret (fun _ => rfl) rfl (Nat.zero_le _) (Nat.zero_le _) dX5_next_95
  · dsimp only
    refine V_iload_n (x := a1) dX5_next_96 rfl ?_
    refine V_callS0 (As := [.int a1]) (st0 := []) (stI := [.int a1]) (t_X5_codeOf a1 σ) rfl (Nat.le_of_ble_eq_true rfl) rfl (fun s args hts => va_cwS 1 hts gX5_next_X5_codeOf rfl rfl rfl (by decide +kernel) ⟨Nat.le_of_ble_eq_true rfl, Nat.le_of_ble_eq_true rfl⟩) rfl rfl dX5_next_97 (fun r9 σ10 _ => ?_)
    refine V_iconst (v := (-1 : Int32)) dX5_next_100 rfl ?_
    refine V_icmp_eq (tgt := 108) (x := r9) (y := (-1 : Int32)) dX5_next_101 (by decide) (fun hc11 => ?_) (fun hc11 => ?_)
    · refine V_iconst (v := (-1 : Int32)) dX5_next_108 rfl ?_
      exact V_iret (fun _ => rfl) rfl (Nat.zero_le _) (Nat.zero_le _) dX5_next_109
    · refine V_iconst (v := (4 : Int32)) dX5_next_104 rfl ?_
      refine V_goto (tgt := 109) dX5_next_105 (by decide) ?_
      exact V_iret (fun _ => rfl) rfl (Nat.zero_le _) (Nat.zero_le _) dX5_next_109
  · dsimp only
    refine V_iload_n (x := a1) dX5_next_110 rfl ?_
    refine V_bipush (v := (44 : Int32)) dX5_next_111 rfl ?_
    refine V_icmp_ne (tgt := 120) (x := a1) (y := (44 : Int32)) dX5_next_113 (by decide) (fun hc12 => ?_) (fun hc12 => ?_)
    · refine V_iconst (v := (0 : Int32)) dX5_next_116 rfl ?_
      refine V_goto (tgt := 132) dX5_next_117 (by decide) ?_
      exact V_iret (fun _ => rfl) rfl (Nat.zero_le _) (Nat.zero_le _) dX5_next_132
    · refine V_iload_n (x := a1) dX5_next_120 rfl ?_
      refine V_callS0 (As := [.int a1]) (st0 := []) (stI := [.int a1]) (t_X5_isLetter a1 σ) rfl (Nat.le_of_ble_eq_true rfl) rfl (fun s args hts => va_cwS 1 hts gX5_next_X5_isLetter rfl rfl rfl (by decide +kernel) ⟨Nat.le_of_ble_eq_true rfl, Nat.le_of_ble_eq_true rfl⟩) rfl rfl dX5_next_121 (fun r13 σ14 _ => ?_)
      refine V_if_eq (tgt := 131) (x := r13) dX5_next_124 (by decide) (fun hc15 => ?_) (fun hc15 => ?_)
      · refine V_iconst (v := (-1 : Int32)) dX5_next_131 rfl ?_
        exact V_iret (fun _ => rfl) rfl (Nat.zero_le _) (Nat.zero_le _) dX5_next_132
      · refine V_iconst (v := (3 : Int32)) dX5_next_127 rfl ?_
        refine V_goto (tgt := 132) dX5_next_128 (by decide) ?_
        exact V_iret (fun _ => rfl) rfl (Nat.zero_le _) (Nat.zero_le _) dX5_next_132
  · dsimp only
    refine V_iload_n (x := a1) dX5_next_133 rfl ?_
    refine V_callS0 (As := [.int a1]) (st0 := []) (stI := [.int a1]) (t_X5_isDigit a1 σ) rfl (Nat.le_of_ble_eq_true rfl) rfl (fun s args hts => va_cwS 1 hts gX5_next_X5_isDigit rfl rfl rfl (by decide +kernel) ⟨Nat.le_of_ble_eq_true rfl, Nat.le_of_ble_eq_true rfl⟩) rfl rfl dX5_next_134 (fun r16 σ17 _ => ?_)
    refine V_if_eq (tgt := 151) (x := r16) dX5_next_137 (by decide) (fun hc18 => ?_) (fun hc18 => ?_)
    · refine V_iconst (v := (-1 : Int32)) dX5_next_151 rfl ?_
      exact V_iret (fun _ => rfl) rfl (Nat.zero_le _) (Nat.zero_le _) dX5_next_152
    · refine V_iload_n (x := a1) dX5_next_140 rfl ?_
      refine V_bipush (v := (48 : Int32)) dX5_next_141 rfl ?_
      refine V_icmp_eq (tgt := 151) (x := a1) (y := (48 : Int32)) dX5_next_143 (by decide) (fun hc19 => ?_) (fun hc19 => ?_)
      · refine V_iconst (v := (-1 : Int32)) dX5_next_151 rfl ?_
        exact V_iret (fun _ => rfl) rfl (Nat.zero_le _) (Nat.zero_le _) dX5_next_152
      · refine V_bipush (v := (6 : Int32)) dX5_next_146 rfl ?_
        refine V_goto (tgt := 152) dX5_next_148 (by decide) ?_
        exact V_iret (fun _ => rfl) rfl (Nat.zero_le _) (Nat.zero_le _) dX5_next_152
  · dsimp only
    refine V_iload_n (x := a1) dX5_next_153 rfl ?_
    refine V_bipush (v := (44 : Int32)) dX5_next_154 rfl ?_
    refine V_icmp_ne (tgt := 163) (x := a1) (y := (44 : Int32)) dX5_next_156 (by decide) (fun hc20 => ?_) (fun hc20 => ?_)
    · refine V_iconst (v := (0 : Int32)) dX5_next_159 rfl ?_
      refine V_goto (tgt := 176) dX5_next_160 (by decide) ?_
      exact V_iret (fun _ => rfl) rfl (Nat.zero_le _) (Nat.zero_le _) dX5_next_176
    · refine V_iload_n (x := a1) dX5_next_163 rfl ?_
      refine V_callS0 (As := [.int a1]) (st0 := []) (stI := [.int a1]) (t_X5_isDigit a1 σ) rfl (Nat.le_of_ble_eq_true rfl) rfl (fun s args hts => va_cwS 1 hts gX5_next_X5_isDigit rfl rfl rfl (by decide +kernel) ⟨Nat.le_of_ble_eq_true rfl, Nat.le_of_ble_eq_true rfl⟩) rfl rfl dX5_next_164 (fun r21 σ22 _ => ?_)
      refine V_if_eq (tgt := 175) (x := r21) dX5_next_167 (by decide) (fun hc23 => ?_) (fun hc23 => ?_)
      · refine V_iconst (v := (-1 : Int32)) dX5_next_175 rfl ?_
        exact V_iret (fun _ => rfl) rfl (Nat.zero_le _) (Nat.zero_le _) dX5_next_176
      · refine V_bipush (v := (7 : Int32)) dX5_next_170 rfl ?_
        refine V_goto (tgt := 176) dX5_next_172 (by decide) ?_
        exact V_iret (fun _ => rfl) rfl (Nat.zero_le _) (Nat.zero_le _) dX5_next_176
  · dsimp only
    refine V_iload_n (x := a1) dX5_next_177 rfl ?_
    refine V_bipush (v := (44 : Int32)) dX5_next_178 rfl ?_
    refine V_icmp_ne (tgt := 187) (x := a1) (y := (44 : Int32)) dX5_next_180 (by decide) (fun hc24 => ?_) (fun hc24 => ?_)
    · refine V_iconst (v := (0 : Int32)) dX5_next_183 rfl ?_
      refine V_goto (tgt := 188) dX5_next_184 (by decide) ?_
      exact V_iret (fun _ => rfl) rfl (Nat.zero_le _) (Nat.zero_le _) dX5_next_188
    · refine V_iconst (v := (-1 : Int32)) dX5_next_187 rfl ?_
      exact V_iret (fun _ => rfl) rfl (Nat.zero_le _) (Nat.zero_le _) dX5_next_188
  · refine V_iconst (v := (-1 : Int32)) dX5_next_189 rfl ?_
    exact V_iret (fun _ => rfl) rfl (Nat.zero_le _) (Nat.zero_le _) dX5_next_190
theorem t_X5_next {D : DG} {z0 : Nat} {l : Launch} (a0 : Int32) (a1 : Int32) (σ : SG) : MT D z0 l yX5_next wsX5_next rmX5_next tvI [.int a0, .int a1] σ (m_X5_next a0 a1 σ) :=
  MT.of (own := RX5) (cc := cX5_next) (nL := 2) (ret := (some .int)) (ct := false) (by decide) rfl rfl (fun h => by cases h) (Nat.le_of_ble_eq_true rfl) (by intro v hv; simp only [List.mem_cons, List.not_mem_nil, or_false] at hv; first | (rcases hv with rfl | rfl <;> first | rfl | exact va_rf_cat _) | exact absurd hv (fun h => h)) (v_X5_next a0 a1 σ)
theorem in_X5_firstFault_X5 : ∀ w ∈ u_ws RX5 TX5 2, w ∈ wsX5_firstFault := by decide +kernel
theorem wd_X5_firstFault_1 : Cond.fieldLink RX5 15 "MainsWords$Script" "length" "I" ∈ wsX5_firstFault := by decide +kernel
theorem fd_X5_firstFault_15_X5 : FD RX5 15 wsX5_firstFault 5 1 := ⟨RX5, "MainsWords$Script", TX5, 2, rfl, in_X5_firstFault_X5, by decide, wd_X5_firstFault_1, Or.inl rfl⟩
set_option maxRecDepth 100000 in
set_option maxHeartbeats 4000000 in
theorem v_X5_firstFault_b57 {D : DG} {z0 : Nat} {l : Launch} : ∀ (v0 : Option Nat) (s0 : Int32) (σ : SG), V D z0 l RX5 cX5_firstFault 3 wsX5_firstFault (some .int) rmX5_firstFault false tvI 57 [some (va_rf v0), none, none] [.int s0] σ 0 0 (m_X5_firstFault_b57 v0 s0 σ) := by
  intro v0 s0 σ
  unfold m_X5_firstFault_b57
  refine V_istore_n (x := s0) (ls' := [some (va_rf v0), none, some (.int s0)]) dX5_firstFault_57 (by decide) rfl ?_
  refine V_iload_n (x := s0) dX5_firstFault_58 rfl ?_
  refine V_if_eq (tgt := 67) (x := s0) dX5_firstFault_59 (by decide) (fun hc1 => ?_) (fun hc1 => ?_)
  · refine V_aload_n (x := v0) dX5_firstFault_67 rfl ?_
    refine V_getI fd_X5_firstFault_15_X5 dX5_firstFault_68 (fun x2 => ?_)
    exact V_iret (fun _ => rfl) rfl (Nat.zero_le _) (Nat.zero_le _) dX5_firstFault_71
  · refine V_bipush (v := (-5 : Int32)) dX5_firstFault_62 rfl ?_
    refine V_goto (tgt := 71) dX5_firstFault_64 (by decide) ?_
    exact V_iret (fun _ => rfl) rfl (Nat.zero_le _) (Nat.zero_le _) dX5_firstFault_71
set_option maxRecDepth 100000 in
set_option maxHeartbeats 4000000 in
theorem v_X5_firstFault_b52 {D : DG} {z0 : Nat} {l : Launch} : ∀ (v0 : Option Nat) (σ : SG), V D z0 l RX5 cX5_firstFault 3 wsX5_firstFault (some .int) rmX5_firstFault false tvI 52 [some (va_rf v0), none, none] [] σ 0 0 (m_X5_firstFault_b52 v0 σ) := by
  intro v0 σ
  unfold m_X5_firstFault_b52
  refine V_iconst (v := (1 : Int32)) dX5_firstFault_52 rfl ?_
  refine V_goto (tgt := 57) dX5_firstFault_53 (by decide) ?_
  exact v_X5_firstFault_b57  v0 ((1 : Int32)) σ
set_option maxRecDepth 100000 in
set_option maxHeartbeats 4000000 in
theorem v_X5_firstFault_B4 {D : DG} {z0 : Nat} {l : Launch} {rec4 : Option Nat → Int32 → Int32 → SG → Option (Int32 × SG)} (hrec4 : ∀ (v0 : Option Nat) (v1 : Int32) (v2 : Int32) (σ : SG), V D z0 l RX5 cX5_firstFault 3 wsX5_firstFault (some .int) rmX5_firstFault false tvI 4 [some (va_rf v0), some (.int v1), some (.int v2)] [] σ 0 0 (rec4 v0 v1 v2 σ)) : ∀ (v0 : Option Nat) (v1 : Int32) (v2 : Int32) (σ : SG), V D z0 l RX5 cX5_firstFault 3 wsX5_firstFault (some .int) rmX5_firstFault false tvI 4 [some (va_rf v0), some (.int v1), some (.int v2)] [] σ 0 0 (m_X5_firstFault_B4 rec4 v0 v1 v2 σ) := by
  intro v0 v1 v2 σ
  unfold m_X5_firstFault_B4
  refine V_iload_n (x := v2) dX5_firstFault_4 rfl ?_
  refine V_aload_n (x := v0) dX5_firstFault_5 rfl ?_
  refine V_getI fd_X5_firstFault_15_X5 dX5_firstFault_6 (fun x3 => ?_)
  refine V_icmp_ge (tgt := 35) (x := v2) (y := x3) dX5_firstFault_9 (by decide) (fun hc4 => ?_) (fun hc4 => ?_)
  · refine V_iload_n (x := v1) dX5_firstFault_35 rfl ?_
    refine V_iconst (v := (4 : Int32)) dX5_firstFault_36 rfl ?_
    refine V_icmp_eq (tgt := 52) (x := v1) (y := (4 : Int32)) dX5_firstFault_37 (by decide) (fun hc5 => ?_) (fun hc5 => ?_)
    · exact V_sub (LE.s (LE.n (LE.n LE.e))) (v_X5_firstFault_b52  v0 σ)
    · refine V_iload_n (x := v1) dX5_firstFault_40 rfl ?_
      refine V_bipush (v := (6 : Int32)) dX5_firstFault_41 rfl ?_
      refine V_icmp_eq (tgt := 52) (x := v1) (y := (6 : Int32)) dX5_firstFault_43 (by decide) (fun hc6 => ?_) (fun hc6 => ?_)
      · exact V_sub (LE.s (LE.n (LE.n LE.e))) (v_X5_firstFault_b52  v0 σ)
      · refine V_iload_n (x := v1) dX5_firstFault_46 rfl ?_
        refine V_bipush (v := (7 : Int32)) dX5_firstFault_47 rfl ?_
        refine V_icmp_ne (tgt := 56) (x := v1) (y := (7 : Int32)) dX5_firstFault_49 (by decide) (fun hc7 => ?_) (fun hc7 => ?_)
        · exact V_sub (LE.s (LE.n (LE.n LE.e))) (v_X5_firstFault_b52  v0 σ)
        · refine V_iconst (v := (0 : Int32)) dX5_firstFault_56 rfl ?_
          exact V_sub (LE.s (LE.n (LE.n LE.e))) (v_X5_firstFault_b57  v0 ((0 : Int32)) σ)
  · refine V_iload_n (x := v1) dX5_firstFault_12 rfl ?_
    refine V_aload_n (x := v0) dX5_firstFault_13 rfl ?_
    refine V_iload_n (x := v2) dX5_firstFault_14 rfl ?_
    refine V_callV0 (As := [.int v2]) (st0 := [.int v1]) (stI := [.int v2, va_rf v0, .int v1]) (fun _ h => by cases h; exact t_X5_signAt _ v2 σ) (q := (RX5, TX5, 2)) rfl rfl rfl (Nat.le_of_ble_eq_true rfl) rfl (fun s args hts => cwV 1 hts gX5_firstFault_X5_signAt rfl rfl rfl (by decide +kernel) ⟨Nat.le_of_ble_eq_true rfl, Nat.le_of_ble_eq_true rfl⟩) rfl rfl dX5_firstFault_15 (fun r8 σ9 _ => ?_)
    refine V_callS0 (As := [.int v1, .int r8]) (st0 := []) (stI := [.int r8, .int v1]) (t_X5_next v1 r8 σ9) rfl (Nat.le_of_ble_eq_true rfl) rfl (fun s args hts => va_cwS 2 hts gX5_firstFault_X5_next rfl rfl rfl (by decide +kernel) ⟨Nat.le_of_ble_eq_true rfl, Nat.le_of_ble_eq_true rfl⟩) rfl rfl dX5_firstFault_18 (fun r10 σ11 _ => ?_)
    refine V_istore_n (x := r10) (ls' := [some (va_rf v0), some (.int r10), some (.int v2)]) dX5_firstFault_21 (by decide) rfl ?_
    refine V_iload_n (x := r10) dX5_firstFault_22 rfl ?_
    refine V_iconst (v := (-1 : Int32)) dX5_firstFault_23 rfl ?_
    refine V_icmp_ne (tgt := 29) (x := r10) (y := (-1 : Int32)) dX5_firstFault_24 (by decide) (fun hc12 => ?_) (fun hc12 => ?_)
    · refine V_iload_n (x := v2) dX5_firstFault_27 rfl ?_
      exact V_iret (fun _ => rfl) rfl (Nat.zero_le _) (Nat.zero_le _) dX5_firstFault_28
    · refine V_iinc (x := v2) (v := (v2 + 1)) (ls' := [some (va_rf v0), some (.int r10), some (.int (v2 + 1))]) dX5_firstFault_29 rfl rfl (by decide) rfl ?_
      refine V_goto (tgt := 4) dX5_firstFault_32 (by decide) ?_
      exact hrec4 v0 r10 ((v2 + 1)) σ11
theorem v_X5_firstFault_L4 {D : DG} {z0 : Nat} {l : Launch} : ∀ (n : Nat) (v0 : Option Nat) (v1 : Int32) (v2 : Int32) (σ : SG), V D z0 l RX5 cX5_firstFault 3 wsX5_firstFault (some .int) rmX5_firstFault false tvI 4 [some (va_rf v0), some (.int v1), some (.int v2)] [] σ 0 0 (m_X5_firstFault_L4 n v0 v1 v2 σ) := by
  intro n
  induction n with
  | zero => intros; exact V_none
  | succ n ih => exact v_X5_firstFault_B4  ih
set_option maxRecDepth 100000 in
set_option maxHeartbeats 4000000 in
theorem v_X5_firstFault {D : DG} {z0 : Nat} {l : Launch} : ∀ (a0 : Option Nat) (σ : SG), V D z0 l RX5 cX5_firstFault 3 wsX5_firstFault (some .int) rmX5_firstFault false tvI 0 [some (va_rf a0), none, none] [] σ 0 0 (m_X5_firstFault a0 σ) := by
  intro a0 σ
  unfold m_X5_firstFault
  refine V_iconst (v := (0 : Int32)) dX5_firstFault_0 rfl ?_
  refine V_istore_n (x := (0 : Int32)) (ls' := [some (va_rf a0), some (.int (0 : Int32)), none]) dX5_firstFault_1 (by decide) rfl ?_
  refine V_iconst (v := (0 : Int32)) dX5_firstFault_2 rfl ?_
  refine V_istore_n (x := (0 : Int32)) (ls' := [some (va_rf a0), some (.int (0 : Int32)), some (.int (0 : Int32))]) dX5_firstFault_3 (by decide) rfl ?_
  exact v_X5_firstFault_L4  1000 a0 ((0 : Int32)) ((0 : Int32)) σ
theorem t_X5_firstFault {D : DG} {z0 : Nat} {l : Launch} (a : Nat)  (σ : SG) : MT D z0 l yX5_firstFault wsX5_firstFault rmX5_firstFault tvI [.ref a] σ (m_X5_firstFault (some a) σ) :=
  MT.of (own := RX5) (cc := cX5_firstFault) (nL := 3) (ret := (some .int)) (ct := false) (by decide) rfl rfl (fun h => by cases h) (Nat.le_of_ble_eq_true rfl) (by intro v hv; simp only [List.mem_cons, List.not_mem_nil, or_false] at hv; first | (rcases hv with rfl <;> first | rfl | exact va_rf_cat _) | exact absurd hv (fun h => h)) (v_X5_firstFault (some a) σ)
set_option maxRecDepth 100000 in
set_option maxHeartbeats 4000000 in
theorem v_X5_wordOf {D : DG} {z0 : Nat} {l : Launch} : ∀ (a0 : Int32) (a1 : Int32) (σ : SG), V D z0 l RX5 cX5_wordOf 2 wsX5_wordOf (some .int) rmX5_wordOf false tvI 0 [some (.int a0), some (.int a1)] [] σ 0 0 (m_X5_wordOf a0 a1 σ) := by
  intro a0 a1 σ
  unfold m_X5_wordOf
  refine V_bipush (v := (8 : Int32)) dX5_wordOf_0 rfl ?_
  refine V_iload_n (x := a0) dX5_wordOf_2 rfl ?_
  refine V_bipush (v := (65 : Int32)) dX5_wordOf_3 rfl ?_
  refine V_isub (x := a0) (y := (65 : Int32)) dX5_wordOf_5 ?_
  refine V_imul (x := (8 : Int32)) (y := (a0 - (65 : Int32))) dX5_wordOf_6 ?_
  refine V_iload_n (x := a1) dX5_wordOf_7 rfl ?_
  refine V_callS0 (As := [.int a1]) (st0 := [.int ((8 : Int32) * (a0 - (65 : Int32)))]) (stI := [.int a1, .int ((8 : Int32) * (a0 - (65 : Int32)))]) (t_X5_codeOf a1 σ) rfl (Nat.le_of_ble_eq_true rfl) rfl (fun s args hts => va_cwS 1 hts gX5_wordOf_X5_codeOf rfl rfl rfl (by decide +kernel) ⟨Nat.le_of_ble_eq_true rfl, Nat.le_of_ble_eq_true rfl⟩) rfl rfl dX5_wordOf_8 (fun r1 σ2 _ => ?_)
  refine V_iadd (x := ((8 : Int32) * (a0 - (65 : Int32)))) (y := r1) dX5_wordOf_11 ?_
  exact V_iret (fun _ => rfl) rfl (Nat.zero_le _) (Nat.zero_le _) dX5_wordOf_12
theorem t_X5_wordOf {D : DG} {z0 : Nat} {l : Launch} (a0 : Int32) (a1 : Int32) (σ : SG) : MT D z0 l yX5_wordOf wsX5_wordOf rmX5_wordOf tvI [.int a0, .int a1] σ (m_X5_wordOf a0 a1 σ) :=
  MT.of (own := RX5) (cc := cX5_wordOf) (nL := 2) (ret := (some .int)) (ct := false) (by decide) rfl rfl (fun h => by cases h) (Nat.le_of_ble_eq_true rfl) (by intro v hv; simp only [List.mem_cons, List.not_mem_nil, or_false] at hv; first | (rcases hv with rfl | rfl <;> first | rfl | exact va_rf_cat _) | exact absurd hv (fun h => h)) (v_X5_wordOf a0 a1 σ)
set_option maxRecDepth 100000 in
set_option maxHeartbeats 4000000 in
theorem v_X5_beatsBehind_B4 {D : DG} {z0 : Nat} {l : Launch} {rec4 : Option Nat → Int32 → Int32 → Int32 → SG → Option (Int32 × SG)} (hrec4 : ∀ (v0 : Option Nat) (v1 : Int32) (v2 : Int32) (v3 : Int32) (σ : SG), V D z0 l RX5 cX5_beatsBehind 4 wsX5_beatsBehind (some .int) rmX5_beatsBehind false tvI 4 [some (va_rf v0), some (.int v1), some (.int v2), some (.int v3)] [] σ 0 0 (rec4 v0 v1 v2 v3 σ)) : ∀ (v0 : Option Nat) (v1 : Int32) (v2 : Int32) (v3 : Int32) (σ : SG), V D z0 l RX5 cX5_beatsBehind 4 wsX5_beatsBehind (some .int) rmX5_beatsBehind false tvI 4 [some (va_rf v0), some (.int v1), some (.int v2), some (.int v3)] [] σ 0 0 (m_X5_beatsBehind_B4 rec4 v0 v1 v2 v3 σ) := by
  intro v0 v1 v2 v3 σ
  unfold m_X5_beatsBehind_B4
  refine V_iload_n (x := v3) dX5_beatsBehind_4 rfl ?_
  refine V_iconst (v := (2 : Int32)) dX5_beatsBehind_5 rfl ?_
  refine V_icmp_gt (tgt := 44) (x := v3) (y := (2 : Int32)) dX5_beatsBehind_6 (by decide) (fun hc1 => ?_) (fun hc1 => ?_)
  · refine V_iload_n (x := v2) dX5_beatsBehind_44 rfl ?_
    exact V_iret (fun _ => rfl) rfl (Nat.zero_le _) (Nat.zero_le _) dX5_beatsBehind_45
  · refine V_aload_n (x := v0) dX5_beatsBehind_9 rfl ?_
    refine V_iload_n (x := v1) dX5_beatsBehind_10 rfl ?_
    refine V_iload_n (x := v3) dX5_beatsBehind_11 rfl ?_
    refine V_iadd (x := v1) (y := v3) dX5_beatsBehind_12 ?_
    refine V_callV0 (As := [.int (v1 + v3)]) (st0 := []) (stI := [.int (v1 + v3), va_rf v0]) (fun _ h => by cases h; exact t_X5_signAt _ (v1 + v3) σ) (q := (RX5, TX5, 2)) rfl rfl rfl (Nat.le_of_ble_eq_true rfl) rfl (fun s args hts => cwV 1 hts gX5_beatsBehind_X5_signAt rfl rfl rfl (by decide +kernel) ⟨Nat.le_of_ble_eq_true rfl, Nat.le_of_ble_eq_true rfl⟩) rfl rfl dX5_beatsBehind_13 (fun r2 σ3 _ => ?_)
    refine V_callS0 (As := [.int r2]) (st0 := []) (stI := [.int r2]) (t_X5_isDigit r2 σ3) rfl (Nat.le_of_ble_eq_true rfl) rfl (fun s args hts => va_cwS 1 hts gX5_beatsBehind_X5_isDigit rfl rfl rfl (by decide +kernel) ⟨Nat.le_of_ble_eq_true rfl, Nat.le_of_ble_eq_true rfl⟩) rfl rfl dX5_beatsBehind_16 (fun r4 σ5 _ => ?_)
    refine V_if_eq (tgt := 44) (x := r4) dX5_beatsBehind_19 (by decide) (fun hc6 => ?_) (fun hc6 => ?_)
    · refine V_iload_n (x := v2) dX5_beatsBehind_44 rfl ?_
      exact V_iret (fun _ => rfl) rfl (Nat.zero_le _) (Nat.zero_le _) dX5_beatsBehind_45
    · refine V_bipush (v := (10 : Int32)) dX5_beatsBehind_22 rfl ?_
      refine V_iload_n (x := v2) dX5_beatsBehind_24 rfl ?_
      refine V_imul (x := (10 : Int32)) (y := v2) dX5_beatsBehind_25 ?_
      refine V_aload_n (x := v0) dX5_beatsBehind_26 rfl ?_
      refine V_iload_n (x := v1) dX5_beatsBehind_27 rfl ?_
      refine V_iload_n (x := v3) dX5_beatsBehind_28 rfl ?_
      refine V_iadd (x := v1) (y := v3) dX5_beatsBehind_29 ?_
      refine V_callV0 (As := [.int (v1 + v3)]) (st0 := [.int ((10 : Int32) * v2)]) (stI := [.int (v1 + v3), va_rf v0, .int ((10 : Int32) * v2)]) (fun _ h => by cases h; exact t_X5_signAt _ (v1 + v3) σ5) (q := (RX5, TX5, 2)) rfl rfl rfl (Nat.le_of_ble_eq_true rfl) rfl (fun s args hts => cwV 1 hts gX5_beatsBehind_X5_signAt rfl rfl rfl (by decide +kernel) ⟨Nat.le_of_ble_eq_true rfl, Nat.le_of_ble_eq_true rfl⟩) rfl rfl dX5_beatsBehind_30 (fun r7 σ8 _ => ?_)
      refine V_iadd (x := ((10 : Int32) * v2)) (y := r7) dX5_beatsBehind_33 ?_
      refine V_bipush (v := (48 : Int32)) dX5_beatsBehind_34 rfl ?_
      refine V_isub (x := (((10 : Int32) * v2) + r7)) (y := (48 : Int32)) dX5_beatsBehind_36 ?_
      refine V_istore_n (x := ((((10 : Int32) * v2) + r7) - (48 : Int32))) (ls' := [some (va_rf v0), some (.int v1), some (.int ((((10 : Int32) * v2) + r7) - (48 : Int32))), some (.int v3)]) dX5_beatsBehind_37 (by decide) rfl ?_
      refine V_iinc (x := v3) (v := (v3 + 1)) (ls' := [some (va_rf v0), some (.int v1), some (.int ((((10 : Int32) * v2) + r7) - (48 : Int32))), some (.int (v3 + 1))]) dX5_beatsBehind_38 rfl rfl (by decide) rfl ?_
      refine V_goto (tgt := 4) dX5_beatsBehind_41 (by decide) ?_
      exact hrec4 v0 v1 (((((10 : Int32) * v2) + r7) - (48 : Int32))) ((v3 + 1)) σ8
theorem v_X5_beatsBehind_L4 {D : DG} {z0 : Nat} {l : Launch} : ∀ (n : Nat) (v0 : Option Nat) (v1 : Int32) (v2 : Int32) (v3 : Int32) (σ : SG), V D z0 l RX5 cX5_beatsBehind 4 wsX5_beatsBehind (some .int) rmX5_beatsBehind false tvI 4 [some (va_rf v0), some (.int v1), some (.int v2), some (.int v3)] [] σ 0 0 (m_X5_beatsBehind_L4 n v0 v1 v2 v3 σ) := by
  intro n
  induction n with
  | zero => intros; exact V_none
  | succ n ih => exact v_X5_beatsBehind_B4  ih
set_option maxRecDepth 100000 in
set_option maxHeartbeats 4000000 in
theorem v_X5_beatsBehind {D : DG} {z0 : Nat} {l : Launch} : ∀ (a0 : Option Nat) (a1 : Int32) (σ : SG), V D z0 l RX5 cX5_beatsBehind 4 wsX5_beatsBehind (some .int) rmX5_beatsBehind false tvI 0 [some (va_rf a0), some (.int a1), none, none] [] σ 0 0 (m_X5_beatsBehind a0 a1 σ) := by
  intro a0 a1 σ
  unfold m_X5_beatsBehind
  refine V_iconst (v := (0 : Int32)) dX5_beatsBehind_0 rfl ?_
  refine V_istore_n (x := (0 : Int32)) (ls' := [some (va_rf a0), some (.int a1), some (.int (0 : Int32)), none]) dX5_beatsBehind_1 (by decide) rfl ?_
  refine V_iconst (v := (1 : Int32)) dX5_beatsBehind_2 rfl ?_
  refine V_istore_n (x := (1 : Int32)) (ls' := [some (va_rf a0), some (.int a1), some (.int (0 : Int32)), some (.int (1 : Int32))]) dX5_beatsBehind_3 (by decide) rfl ?_
  exact v_X5_beatsBehind_L4  1000 a0 a1 ((0 : Int32)) ((1 : Int32)) σ
theorem t_X5_beatsBehind {D : DG} {z0 : Nat} {l : Launch} (a : Nat) (a1 : Int32) (σ : SG) : MT D z0 l yX5_beatsBehind wsX5_beatsBehind rmX5_beatsBehind tvI [.ref a, .int a1] σ (m_X5_beatsBehind (some a) a1 σ) :=
  MT.of (own := RX5) (cc := cX5_beatsBehind) (nL := 4) (ret := (some .int)) (ct := false) (by decide) rfl rfl (fun h => by cases h) (Nat.le_of_ble_eq_true rfl) (by intro v hv; simp only [List.mem_cons, List.not_mem_nil, or_false] at hv; first | (rcases hv with rfl | rfl <;> first | rfl | exact va_rf_cat _) | exact absurd hv (fun h => h)) (v_X5_beatsBehind (some a) a1 σ)
theorem wd_X6_put_0 : Cond.sameField "MainsWords$Sender" "MainsWords$Thing" "isPresent" "Z" ∈ wsX6_put := by decide +kernel
theorem in_X6_put_X6 : ∀ w ∈ u_ws RX6 TX6 10, w ∈ wsX6_put := by decide +kernel
theorem wd_X6_put_2 : Cond.fieldLink RX6 35 "MainsWords$Sender" "isPresent" "Z" ∈ wsX6_put := by decide +kernel
theorem fd_X6_put_35_X6 : FD RX6 35 wsX6_put 6 1 := ⟨RX6, "MainsWords$Sender", TX6, 10, rfl, in_X6_put_X6, by decide, wd_X6_put_2, Or.inr wd_X6_put_0⟩
theorem fw_X6_put_X6_1 : FW RX6 wsX6_put 6 1 .boolean false := ⟨RX6, TX6, 10, tyX6, rfl, in_X6_put_X6, tyX6_ok, nmX6, rfl, (fun h => by cases h), rfl⟩
theorem wd_X6_put_5 : Cond.sameField "MainsWords$Sender" "MainsWords$Thing" "wire" "I" ∈ wsX6_put := by decide +kernel
theorem wd_X6_put_6 : Cond.fieldLink RX6 38 "MainsWords$Sender" "wire" "I" ∈ wsX6_put := by decide +kernel
theorem fd_X6_put_38_X6 : FD RX6 38 wsX6_put 6 2 := ⟨RX6, "MainsWords$Sender", TX6, 10, rfl, in_X6_put_X6, by decide, wd_X6_put_6, Or.inr wd_X6_put_5⟩
theorem fw_X6_put_X6_2 : FW RX6 wsX6_put 6 2 .int false := ⟨RX6, TX6, 10, tyX6, rfl, in_X6_put_X6, tyX6_ok, nmX6, rfl, (fun h => by cases h), rfl⟩
theorem wd_X6_put_9 : Cond.fieldLink RX6 19 "MainsWords$Sender" "strength" "I" ∈ wsX6_put := by decide +kernel
theorem fd_X6_put_19_X6 : FD RX6 19 wsX6_put 6 5 := ⟨RX6, "MainsWords$Sender", TX6, 10, rfl, in_X6_put_X6, by decide, wd_X6_put_9, Or.inl rfl⟩
theorem fw_X6_put_X6_5 : FW RX6 wsX6_put 6 5 .int false := ⟨RX6, TX6, 10, tyX6, rfl, in_X6_put_X6, tyX6_ok, nmX6, rfl, (fun h => by cases h), rfl⟩
theorem wd_X6_put_12 : Cond.fieldLink RX6 15 "MainsWords$Sender" "queueLength" "I" ∈ wsX6_put := by decide +kernel
theorem fd_X6_put_15_X6 : FD RX6 15 wsX6_put 6 4 := ⟨RX6, "MainsWords$Sender", TX6, 10, rfl, in_X6_put_X6, by decide, wd_X6_put_12, Or.inl rfl⟩
theorem fw_X6_put_X6_4 : FW RX6 wsX6_put 6 4 .int false := ⟨RX6, TX6, 10, tyX6, rfl, in_X6_put_X6, tyX6_ok, nmX6, rfl, (fun h => by cases h), rfl⟩
theorem wd_X6_put_15 : Cond.fieldLink RX6 22 "MainsWords$Sender" "speaks" "Z" ∈ wsX6_put := by decide +kernel
theorem fd_X6_put_22_X6 : FD RX6 22 wsX6_put 6 6 := ⟨RX6, "MainsWords$Sender", TX6, 10, rfl, in_X6_put_X6, by decide, wd_X6_put_15, Or.inl rfl⟩
theorem fw_X6_put_X6_6 : FW RX6 wsX6_put 6 6 .boolean false := ⟨RX6, TX6, 10, tyX6, rfl, in_X6_put_X6, tyX6_ok, nmX6, rfl, (fun h => by cases h), rfl⟩
theorem wd_X6_put_18 : Cond.fieldLink RX6 26 "MainsWords$Sender" "copy" "I" ∈ wsX6_put := by decide +kernel
theorem fd_X6_put_26_X6 : FD RX6 26 wsX6_put 6 7 := ⟨RX6, "MainsWords$Sender", TX6, 10, rfl, in_X6_put_X6, by decide, wd_X6_put_18, Or.inl rfl⟩
theorem fw_X6_put_X6_7 : FW RX6 wsX6_put 6 7 .int false := ⟨RX6, TX6, 10, tyX6, rfl, in_X6_put_X6, tyX6_ok, nmX6, rfl, (fun h => by cases h), rfl⟩
theorem wd_X6_put_21 : Cond.fieldLink RX6 29 "MainsWords$Sender" "place" "I" ∈ wsX6_put := by decide +kernel
theorem fd_X6_put_29_X6 : FD RX6 29 wsX6_put 6 8 := ⟨RX6, "MainsWords$Sender", TX6, 10, rfl, in_X6_put_X6, by decide, wd_X6_put_21, Or.inl rfl⟩
theorem fw_X6_put_X6_8 : FW RX6 wsX6_put 6 8 .int false := ⟨RX6, TX6, 10, tyX6, rfl, in_X6_put_X6, tyX6_ok, nmX6, rfl, (fun h => by cases h), rfl⟩
theorem wd_X6_put_24 : Cond.fieldLink RX6 32 "MainsWords$Sender" "pause" "I" ∈ wsX6_put := by decide +kernel
theorem fd_X6_put_32_X6 : FD RX6 32 wsX6_put 6 9 := ⟨RX6, "MainsWords$Sender", TX6, 10, rfl, in_X6_put_X6, by decide, wd_X6_put_24, Or.inl rfl⟩
theorem fw_X6_put_X6_9 : FW RX6 wsX6_put 6 9 .int false := ⟨RX6, TX6, 10, tyX6, rfl, in_X6_put_X6, tyX6_ok, nmX6, rfl, (fun h => by cases h), rfl⟩
set_option maxRecDepth 100000 in
set_option maxHeartbeats 4000000 in
theorem v_X6_put {D : DG} {z0 : Nat} {l : Launch} : ∀ (a0 : Option Nat) (a1 : Int32) (a2 : Int32) (σ : SG), V D z0 l RX6 cX6_put 3 wsX6_put none rmX6_put false tvU 0 [some (va_rf a0), some (.int a1), some (.int a2)] [] σ 0 0 (m_X6_put a0 a1 a2 σ) := by
  intro a0 a1 a2 σ
  unfold m_X6_put
  refine V_aload_n (x := a0) dX6_put_0 rfl ?_
  refine V_iconst (v := (1 : Int32)) dX6_put_1 rfl ?_
  refine V_putZ fd_X6_put_35_X6 fw_X6_put_X6_1 (fun h => by cases h) dX6_put_2 (fun σ1 hσ1 => ?_)
  refine V_aload_n (x := a0) dX6_put_5 rfl ?_
  refine V_iload_n (x := a1) dX6_put_6 rfl ?_
  refine V_putI fd_X6_put_38_X6 fw_X6_put_X6_2 (fun h => by cases h) dX6_put_7 (fun σ2 hσ2 => ?_)
  refine V_aload_n (x := a0) dX6_put_10 rfl ?_
  refine V_iload_n (x := a2) dX6_put_11 rfl ?_
  refine V_putI fd_X6_put_19_X6 fw_X6_put_X6_5 (fun h => by cases h) dX6_put_12 (fun σ3 hσ3 => ?_)
  refine V_aload_n (x := a0) dX6_put_15 rfl ?_
  refine V_iconst (v := (0 : Int32)) dX6_put_16 rfl ?_
  refine V_putI fd_X6_put_15_X6 fw_X6_put_X6_4 (fun h => by cases h) dX6_put_17 (fun σ4 hσ4 => ?_)
  refine V_aload_n (x := a0) dX6_put_20 rfl ?_
  refine V_iconst (v := (0 : Int32)) dX6_put_21 rfl ?_
  refine V_putZ fd_X6_put_22_X6 fw_X6_put_X6_6 (fun h => by cases h) dX6_put_22 (fun σ5 hσ5 => ?_)
  refine V_aload_n (x := a0) dX6_put_25 rfl ?_
  refine V_iconst (v := (0 : Int32)) dX6_put_26 rfl ?_
  refine V_putI fd_X6_put_26_X6 fw_X6_put_X6_7 (fun h => by cases h) dX6_put_27 (fun σ6 hσ6 => ?_)
  refine V_aload_n (x := a0) dX6_put_30 rfl ?_
  refine V_iconst (v := (0 : Int32)) dX6_put_31 rfl ?_
  refine V_putI fd_X6_put_29_X6 fw_X6_put_X6_8 (fun h => by cases h) dX6_put_32 (fun σ7 hσ7 => ?_)
  refine V_aload_n (x := a0) dX6_put_35 rfl ?_
  refine V_iconst (v := (0 : Int32)) dX6_put_36 rfl ?_
  refine V_putI fd_X6_put_32_X6 fw_X6_put_X6_9 (fun h => by cases h) dX6_put_37 (fun σ8 hσ8 => ?_)
  exact V_vret (fun _ => rfl) rfl (Nat.zero_le _) (Nat.zero_le _) dX6_put_40
theorem t_X6_put {D : DG} {z0 : Nat} {l : Launch} (a : Nat) (a1 : Int32) (a2 : Int32) (σ : SG) : MT D z0 l yX6_put wsX6_put rmX6_put tvU [.ref a, .int a1, .int a2] σ (m_X6_put (some a) a1 a2 σ) :=
  MT.of (own := RX6) (cc := cX6_put) (nL := 3) (ret := none) (ct := false) (by decide) rfl rfl (fun h => by cases h) (Nat.le_of_ble_eq_true rfl) (by intro v hv; simp only [List.mem_cons, List.not_mem_nil, or_false] at hv; first | (rcases hv with rfl | rfl | rfl <;> first | rfl | exact va_rf_cat _) | exact absurd hv (fun h => h)) (v_X6_put (some a) a1 a2 σ)
theorem in_X6_wordAt_X6 : ∀ w ∈ u_ws RX6 TX6 10, w ∈ wsX6_wordAt := by decide +kernel
theorem wd_X6_wordAt_1 : Cond.fieldLink RX6 15 "MainsWords$Sender" "queueLength" "I" ∈ wsX6_wordAt := by decide +kernel
theorem fd_X6_wordAt_15_X6 : FD RX6 15 wsX6_wordAt 6 4 := ⟨RX6, "MainsWords$Sender", TX6, 10, rfl, in_X6_wordAt_X6, by decide, wd_X6_wordAt_1, Or.inl rfl⟩
theorem wd_X6_wordAt_3 : Cond.fieldLink RX6 9 "MainsWords$Sender" "queue" "[I" ∈ wsX6_wordAt := by decide +kernel
theorem fd_X6_wordAt_9_X6 : FD RX6 9 wsX6_wordAt 6 3 := ⟨RX6, "MainsWords$Sender", TX6, 10, rfl, in_X6_wordAt_X6, by decide, wd_X6_wordAt_3, Or.inl rfl⟩
set_option maxRecDepth 100000 in
set_option maxHeartbeats 4000000 in
theorem v_X6_wordAt {D : DG} {z0 : Nat} {l : Launch} : ∀ (a0 : Option Nat) (a1 : Int32) (σ : SG), V D z0 l RX6 cX6_wordAt 2 wsX6_wordAt (some .int) rmX6_wordAt false tvI 0 [some (va_rf a0), some (.int a1)] [] σ 0 0 (m_X6_wordAt a0 a1 σ) := by
  intro a0 a1 σ
  unfold m_X6_wordAt
  refine V_iload_n (x := a1) dX6_wordAt_0 rfl ?_
  refine V_if_lt (tgt := 21) (x := a1) dX6_wordAt_1 (by decide) (fun hc1 => ?_) (fun hc1 => ?_)
  · refine V_bipush (v := (-5 : Int32)) dX6_wordAt_21 rfl ?_
    exact V_iret (fun _ => rfl) rfl (Nat.zero_le _) (Nat.zero_le _) dX6_wordAt_23
  · refine V_iload_n (x := a1) dX6_wordAt_4 rfl ?_
    refine V_aload_n (x := a0) dX6_wordAt_5 rfl ?_
    refine V_getI fd_X6_wordAt_15_X6 dX6_wordAt_6 (fun x2 => ?_)
    refine V_icmp_ge (tgt := 21) (x := a1) (y := x2) dX6_wordAt_9 (by decide) (fun hc3 => ?_) (fun hc3 => ?_)
    · refine V_bipush (v := (-5 : Int32)) dX6_wordAt_21 rfl ?_
      exact V_iret (fun _ => rfl) rfl (Nat.zero_le _) (Nat.zero_le _) dX6_wordAt_23
    · refine V_iload_n (x := a1) dX6_wordAt_12 rfl ?_
      refine V_aload_n (x := a0) dX6_wordAt_13 rfl ?_
      refine V_getR fd_X6_wordAt_9_X6 dX6_wordAt_14 (fun x4 => ?_)
      refine V_alen dX6_wordAt_17 (fun x5 => ?_)
      refine V_icmp_lt (tgt := 24) (x := a1) (y := x5) dX6_wordAt_18 (by decide) (fun hc6 => ?_) (fun hc6 => ?_)
      · refine V_aload_n (x := a0) dX6_wordAt_24 rfl ?_
        refine V_getR fd_X6_wordAt_9_X6 dX6_wordAt_25 (fun x7 => ?_)
        refine V_iload_n (x := a1) dX6_wordAt_28 rfl ?_
        refine V_iaload dX6_wordAt_29 (fun x8 => ?_)
        exact V_iret (fun _ => rfl) rfl (Nat.zero_le _) (Nat.zero_le _) dX6_wordAt_30
      · refine V_bipush (v := (-5 : Int32)) dX6_wordAt_21 rfl ?_
        exact V_iret (fun _ => rfl) rfl (Nat.zero_le _) (Nat.zero_le _) dX6_wordAt_23
theorem t_X6_wordAt {D : DG} {z0 : Nat} {l : Launch} (a : Nat) (a1 : Int32) (σ : SG) : MT D z0 l yX6_wordAt wsX6_wordAt rmX6_wordAt tvI [.ref a, .int a1] σ (m_X6_wordAt (some a) a1 σ) :=
  MT.of (own := RX6) (cc := cX6_wordAt) (nL := 2) (ret := (some .int)) (ct := false) (by decide) rfl rfl (fun h => by cases h) (Nat.le_of_ble_eq_true rfl) (by intro v hv; simp only [List.mem_cons, List.not_mem_nil, or_false] at hv; first | (rcases hv with rfl | rfl <;> first | rfl | exact va_rf_cat _) | exact absurd hv (fun h => h)) (v_X6_wordAt (some a) a1 σ)
theorem wd_X8_init_0 : Cond.methodLink RX8 1 objectInit ∈ wsX8_init := by decide +kernel
theorem wd_X8_init_1 : Cond.instanceMethod objectInit ∈ wsX8_init := by decide +kernel
theorem wd_X8_init_2 : Cond.code objectInit ⟨#[0xb1]⟩ 1 none ∈ wsX8_init := by decide +kernel
theorem in_X8_init_X3 : ∀ w ∈ u_ws RX3 TX3 8, w ∈ wsX8_init := by decide +kernel
theorem wd_X8_init_4 : Cond.classLink RX8 7 RX3 ∈ wsX8_init := by decide +kernel
theorem wd_X8_init_5 : Cond.instantiable RX3 8 ∈ wsX8_init := by decide +kernel
theorem wd_X8_init_6 : Cond.initialized RX3 ∈ wsX8_init := by decide +kernel
theorem wd_X8_init_7 : Cond.methodLink RX8 9 yX3_init ∈ wsX8_init := by decide +kernel
theorem wd_X8_init_8 : Cond.instanceMethod yX3_init ∈ wsX8_init := by decide +kernel
theorem in_X8_init_X8 : ∀ w ∈ u_ws RX8 TX8 6, w ∈ wsX8_init := by decide +kernel
theorem wd_X8_init_10 : Cond.fieldLink RX8 10 "MainsWords" "now" "LMainsWords$Net;" ∈ wsX8_init := by decide +kernel
theorem fd_X8_init_10_X8 : FD RX8 10 wsX8_init 7 0 := ⟨RX8, "MainsWords", TX8, 6, rfl, in_X8_init_X8, by decide, wd_X8_init_10, Or.inl rfl⟩
theorem fw_X8_init_X8_0 : FW RX8 wsX8_init 7 0 (.object "MainsWords$Net") true := ⟨RX8, TX8, 6, tyX8, rfl, in_X8_init_X8, tyX8_ok, nmX8, rfl, (fun _ => rfl), rfl⟩
theorem wd_X8_init_13 : Cond.fieldLink RX8 16 "MainsWords" "ahead" "LMainsWords$Net;" ∈ wsX8_init := by decide +kernel
theorem fd_X8_init_16_X8 : FD RX8 16 wsX8_init 7 1 := ⟨RX8, "MainsWords", TX8, 6, rfl, in_X8_init_X8, by decide, wd_X8_init_13, Or.inl rfl⟩
theorem fw_X8_init_X8_1 : FW RX8 wsX8_init 7 1 (.object "MainsWords$Net") true := ⟨RX8, TX8, 6, tyX8, rfl, in_X8_init_X8, tyX8_ok, nmX8, rfl, (fun _ => rfl), rfl⟩
theorem wd_X8_init_16 : Cond.fieldLink RX8 19 "MainsWords" "snapshot" "LMainsWords$Net;" ∈ wsX8_init := by decide +kernel
theorem fd_X8_init_19_X8 : FD RX8 19 wsX8_init 7 2 := ⟨RX8, "MainsWords", TX8, 6, rfl, in_X8_init_X8, by decide, wd_X8_init_16, Or.inl rfl⟩
theorem fw_X8_init_X8_2 : FW RX8 wsX8_init 7 2 (.object "MainsWords$Net") true := ⟨RX8, TX8, 6, tyX8, rfl, in_X8_init_X8, tyX8_ok, nmX8, rfl, (fun _ => rfl), rfl⟩
theorem wd_X8_init_19 : Cond.fieldLink RX8 22 "MainsWords" "hasSnapshot" "Z" ∈ wsX8_init := by decide +kernel
theorem fd_X8_init_22_X8 : FD RX8 22 wsX8_init 7 3 := ⟨RX8, "MainsWords", TX8, 6, rfl, in_X8_init_X8, by decide, wd_X8_init_19, Or.inl rfl⟩
theorem fw_X8_init_X8_3 : FW RX8 wsX8_init 7 3 .boolean false := ⟨RX8, TX8, 6, tyX8, rfl, in_X8_init_X8, tyX8_ok, nmX8, rfl, (fun h => by cases h), rfl⟩
theorem in_X8_init_X0 : ∀ w ∈ u_ws RX0 TX0 2, w ∈ wsX8_init := by decide +kernel
theorem wd_X8_init_23 : Cond.classLink RX8 26 RX0 ∈ wsX8_init := by decide +kernel
theorem wd_X8_init_24 : Cond.instantiable RX0 2 ∈ wsX8_init := by decide +kernel
theorem wd_X8_init_25 : Cond.initialized RX0 ∈ wsX8_init := by decide +kernel
theorem wd_X8_init_26 : Cond.methodLink RX8 28 yX0_init ∈ wsX8_init := by decide +kernel
theorem wd_X8_init_27 : Cond.instanceMethod yX0_init ∈ wsX8_init := by decide +kernel
theorem wd_X8_init_28 : Cond.fieldLink RX8 29 "MainsWords" "history" "LMainsWords$History;" ∈ wsX8_init := by decide +kernel
theorem fd_X8_init_29_X8 : FD RX8 29 wsX8_init 7 4 := ⟨RX8, "MainsWords", TX8, 6, rfl, in_X8_init_X8, by decide, wd_X8_init_28, Or.inl rfl⟩
theorem fw_X8_init_X8_4 : FW RX8 wsX8_init 7 4 (.object "MainsWords$History") true := ⟨RX8, TX8, 6, tyX8, rfl, in_X8_init_X8, tyX8_ok, nmX8, rfl, (fun _ => rfl), rfl⟩
theorem in_X8_init_X5 : ∀ w ∈ u_ws RX5 TX5 2, w ∈ wsX8_init := by decide +kernel
theorem wd_X8_init_32 : Cond.classLink RX8 33 RX5 ∈ wsX8_init := by decide +kernel
theorem wd_X8_init_33 : Cond.instantiable RX5 2 ∈ wsX8_init := by decide +kernel
theorem wd_X8_init_34 : Cond.initialized RX5 ∈ wsX8_init := by decide +kernel
theorem wd_X8_init_35 : Cond.instanceMethod yX5_init ∈ wsX8_init := by decide +kernel
theorem wd_X8_init_36 : Cond.fieldLink RX8 36 "MainsWords" "script" "LMainsWords$Script;" ∈ wsX8_init := by decide +kernel
theorem fd_X8_init_36_X8 : FD RX8 36 wsX8_init 7 5 := ⟨RX8, "MainsWords", TX8, 6, rfl, in_X8_init_X8, by decide, wd_X8_init_36, Or.inl rfl⟩
theorem fw_X8_init_X8_5 : FW RX8 wsX8_init 7 5 (.object "MainsWords$Script") true := ⟨RX8, TX8, 6, tyX8, rfl, in_X8_init_X8, tyX8_ok, nmX8, rfl, (fun _ => rfl), rfl⟩
set_option maxRecDepth 100000 in
set_option maxHeartbeats 4000000 in
theorem v_X8_init_e {D : DG} {z0 : Nat} {l : Launch} {szE lim : Nat} (hlim : lim = szE + rmX8_init.cells) : ∀ (a0 : Option Nat) (σ : SG) (cells slots : Nat), CB rmX8_init szE σ cells slots → V D z0 l RX8 cX8_init 1 wsX8_init none rmX8_init true tvU 0 [some (va_rf a0)] [] σ cells slots (m_X8_init_e lim a0 σ) := by
  intro a0 σ cells slots hB
  unfold m_X8_init_e
  refine V_aload_n (x := a0) dX8_init_0 rfl ?_
  refine V_objinitN wd_X8_init_0 wd_X8_init_1 wd_X8_init_2 (by decide) (by decide) dX8_init_1 ?_
  refine V_aload_n (x := a0) dX8_init_4 rfl ?_
  refine V_new hB hlim (ty0 := tyX3) (C := RX3) (T := TX3) (N := 8) rfl in_X8_init_X3 tyX3_ok wd_X8_init_4 wd_X8_init_5 wd_X8_init_6 (fun j hj => ?_) (by decide) dX8_init_5 (fun x1 σ2 _ _ hB3 => ?_)
  · exact dfl_X3 j hj
  refine V_dup dX8_init_8 (va_rf_cat _) ?_
  refine V.room hB3 hlim (fun hr1 hr2 => ?_)
  refine V_callI (ci := 3) (As := []) (st0 := [va_rf x1, va_rf a0]) (stI := [va_rf x1, va_rf x1, va_rf a0]) (fun _ h => by cases h; exact t_X3_init _ σ2) rfl (by simp only [List.map_cons, List.map_nil, List.sum_cons, List.sum_nil, va_rf_cat, catI, catF]; decide) rfl (fun s args hts => cwI 0 hts gX8_init_X3_init rfl rfl rfl (hts _ wd_X8_init_6) (hts _ wd_X8_init_7) (hts _ wd_X8_init_8) rfl (by decide +kernel) ⟨Nat.le_of_ble_eq_true rfl, Nat.le_of_ble_eq_true rfl⟩) ⟨hr1, hr2⟩ dX8_init_9 (fun _ σ4 _ => ?_)
  refine V.same (fun hs5 => ?_)
  refine V_putO fd_X8_init_10_X8 fw_X8_init_X8_0 (fun _ => rfl) dX8_init_12 (fun σ6 hσ6 => ?_)
  refine V_aload_n (x := a0) dX8_init_15 rfl ?_
  refine V_new (CB.go (CB.call hB3 rfl rfl hs5) hσ6) hlim (ty0 := tyX3) (C := RX3) (T := TX3) (N := 8) rfl in_X8_init_X3 tyX3_ok wd_X8_init_4 wd_X8_init_5 wd_X8_init_6 (fun j hj => ?_) (by decide) dX8_init_16 (fun x7 σ8 _ _ hB9 => ?_)
  · exact dfl_X3 j hj
  refine V_dup dX8_init_19 (va_rf_cat _) ?_
  refine V.room hB9 hlim (fun hr1 hr2 => ?_)
  refine V_callI (ci := 3) (As := []) (st0 := [va_rf x7, va_rf a0]) (stI := [va_rf x7, va_rf x7, va_rf a0]) (fun _ h => by cases h; exact t_X3_init _ σ8) rfl (by simp only [List.map_cons, List.map_nil, List.sum_cons, List.sum_nil, va_rf_cat, catI, catF]; decide) rfl (fun s args hts => cwI 0 hts gX8_init_X3_init rfl rfl rfl (hts _ wd_X8_init_6) (hts _ wd_X8_init_7) (hts _ wd_X8_init_8) rfl (by decide +kernel) ⟨Nat.le_of_ble_eq_true rfl, Nat.le_of_ble_eq_true rfl⟩) ⟨hr1, hr2⟩ dX8_init_20 (fun _ σ10 _ => ?_)
  refine V.same (fun hs11 => ?_)
  refine V_putO fd_X8_init_16_X8 fw_X8_init_X8_1 (fun _ => rfl) dX8_init_23 (fun σ12 hσ12 => ?_)
  refine V_aload_n (x := a0) dX8_init_26 rfl ?_
  refine V_new (CB.go (CB.call hB9 rfl rfl hs11) hσ12) hlim (ty0 := tyX3) (C := RX3) (T := TX3) (N := 8) rfl in_X8_init_X3 tyX3_ok wd_X8_init_4 wd_X8_init_5 wd_X8_init_6 (fun j hj => ?_) (by decide) dX8_init_27 (fun x13 σ14 _ _ hB15 => ?_)
  · exact dfl_X3 j hj
  refine V_dup dX8_init_30 (va_rf_cat _) ?_
  refine V.room hB15 hlim (fun hr1 hr2 => ?_)
  refine V_callI (ci := 3) (As := []) (st0 := [va_rf x13, va_rf a0]) (stI := [va_rf x13, va_rf x13, va_rf a0]) (fun _ h => by cases h; exact t_X3_init _ σ14) rfl (by simp only [List.map_cons, List.map_nil, List.sum_cons, List.sum_nil, va_rf_cat, catI, catF]; decide) rfl (fun s args hts => cwI 0 hts gX8_init_X3_init rfl rfl rfl (hts _ wd_X8_init_6) (hts _ wd_X8_init_7) (hts _ wd_X8_init_8) rfl (by decide +kernel) ⟨Nat.le_of_ble_eq_true rfl, Nat.le_of_ble_eq_true rfl⟩) ⟨hr1, hr2⟩ dX8_init_31 (fun _ σ16 _ => ?_)
  refine V.same (fun hs17 => ?_)
  refine V_putO fd_X8_init_19_X8 fw_X8_init_X8_2 (fun _ => rfl) dX8_init_34 (fun σ18 hσ18 => ?_)
  refine V_aload_n (x := a0) dX8_init_37 rfl ?_
  refine V_iconst (v := (0 : Int32)) dX8_init_38 rfl ?_
  refine V_putZ fd_X8_init_22_X8 fw_X8_init_X8_3 (fun h => by cases h) dX8_init_39 (fun σ19 hσ19 => ?_)
  refine V_aload_n (x := a0) dX8_init_42 rfl ?_
  refine V_new (CB.go (CB.go (CB.call hB15 rfl rfl hs17) hσ18) hσ19) hlim (ty0 := tyX0) (C := RX0) (T := TX0) (N := 2) rfl in_X8_init_X0 tyX0_ok wd_X8_init_23 wd_X8_init_24 wd_X8_init_25 (fun j hj => ?_) (by decide) dX8_init_43 (fun x20 σ21 _ _ hB22 => ?_)
  · exact dfl_X0 j hj
  refine V_dup dX8_init_46 (va_rf_cat _) ?_
  refine V.room hB22 hlim (fun hr1 hr2 => ?_)
  refine V_callI (ci := 0) (As := []) (st0 := [va_rf x20, va_rf a0]) (stI := [va_rf x20, va_rf x20, va_rf a0]) (fun _ h => by cases h; exact t_X0_init _ σ21) rfl (by simp only [List.map_cons, List.map_nil, List.sum_cons, List.sum_nil, va_rf_cat, catI, catF]; decide) rfl (fun s args hts => cwI 0 hts gX8_init_X0_init rfl rfl rfl (hts _ wd_X8_init_25) (hts _ wd_X8_init_26) (hts _ wd_X8_init_27) rfl (by decide +kernel) ⟨Nat.le_of_ble_eq_true rfl, Nat.le_of_ble_eq_true rfl⟩) ⟨hr1, hr2⟩ dX8_init_47 (fun _ σ23 _ => ?_)
  refine V.same (fun hs24 => ?_)
  refine V_putO fd_X8_init_29_X8 fw_X8_init_X8_4 (fun _ => rfl) dX8_init_50 (fun σ25 hσ25 => ?_)
  refine V_aload_n (x := a0) dX8_init_53 rfl ?_
  refine V_new (CB.go (CB.call hB22 rfl rfl hs24) hσ25) hlim (ty0 := tyX5) (C := RX5) (T := TX5) (N := 2) rfl in_X8_init_X5 tyX5_ok wd_X8_init_32 wd_X8_init_33 wd_X8_init_34 (fun j hj => ?_) (by decide) dX8_init_54 (fun x26 σ27 _ _ hB28 => ?_)
  · exact dfl_X5 j hj
  refine V_dup dX8_init_57 (va_rf_cat _) ?_
  refine V.room hB28 hlim (fun hr1 hr2 => ?_)
  refine V_callIN (host := "MainsWords") (As := []) (st0 := [va_rf x26, va_rf a0]) (stI := [va_rf x26, va_rf x26, va_rf a0]) (fun _ h => by cases h; exact t_X5_init _ σ27) rfl (by simp only [List.map_cons, List.map_nil, List.sum_cons, List.sum_nil, va_rf_cat, catI, catF]; decide) rfl (by decide +kernel) (fun s args hts hnw => ⟨va_cnB 0 hts gX8_init_X5_init_n35 rfl rfl rfl hnw (hts _ wd_X8_init_34) (by decide +kernel) ⟨Nat.le_of_ble_eq_true rfl, Nat.le_of_ble_eq_true rfl⟩, rfl, hts _ wd_X8_init_35⟩) ⟨hr1, hr2⟩ dX8_init_58 (fun _ σ29 _ => ?_)
  refine V.same (fun hs30 => ?_)
  refine V_putO fd_X8_init_36_X8 fw_X8_init_X8_5 (fun _ => rfl) dX8_init_61 (fun σ31 hσ31 => ?_)
  exact V_vretA (CB.go (CB.call hB28 rfl rfl hs30) hσ31) hlim (fun _ => rfl) rfl dX8_init_64
theorem t_X8_init {D : DG} {z0 : Nat} {l : Launch} (a : Nat)  (σ : SG) : MT D z0 l yX8_init wsX8_init rmX8_init tvU [.ref a] σ (m_X8_init (some a) σ) :=
  MT.of (own := RX8) (cc := cX8_init) (nL := 1) (ret := none) (ct := true) (by decide) rfl rfl (fun _ => rfl) (Nat.le_of_ble_eq_true rfl) (by intro v hv; simp only [List.mem_cons, List.not_mem_nil, or_false] at hv; first | (rcases hv with rfl <;> first | rfl | exact va_rf_cat _) | exact absurd hv (fun h => h)) (v_X8_init_e rfl (some a) σ 0 0 (CB.start rfl))
set_option maxRecDepth 100000 in
set_option maxHeartbeats 4000000 in
theorem v_X8_isWire {D : DG} {z0 : Nat} {l : Launch} : ∀ (a0 : Int32) (σ : SG), V D z0 l RX8 cX8_isWire 1 wsX8_isWire (some .boolean) rmX8_isWire false tvI 0 [some (.int a0)] [] σ 0 0 (m_X8_isWire a0 σ) := by
  intro a0 σ
  unfold m_X8_isWire
  refine V_iload_n (x := a0) dX8_isWire_0 rfl ?_
  refine V_if_lt (tgt := 14) (x := a0) dX8_isWire_1 (by decide) (fun hc1 => ?_) (fun hc1 => ?_)
  · refine V_iconst (v := (0 : Int32)) dX8_isWire_14 rfl ?_
    exact V_zret (fun _ => rfl) rfl (Nat.zero_le _) (Nat.zero_le _) dX8_isWire_15
  · refine V_iload_n (x := a0) dX8_isWire_4 rfl ?_
    refine V_bipush (v := (6 : Int32)) dX8_isWire_5 rfl ?_
    refine V_icmp_ge (tgt := 14) (x := a0) (y := (6 : Int32)) dX8_isWire_7 (by decide) (fun hc2 => ?_) (fun hc2 => ?_)
    · refine V_iconst (v := (0 : Int32)) dX8_isWire_14 rfl ?_
      exact V_zret (fun _ => rfl) rfl (Nat.zero_le _) (Nat.zero_le _) dX8_isWire_15
    · refine V_iconst (v := (1 : Int32)) dX8_isWire_10 rfl ?_
      refine V_goto (tgt := 15) dX8_isWire_11 (by decide) ?_
      exact V_zret (fun _ => rfl) rfl (Nat.zero_le _) (Nat.zero_le _) dX8_isWire_15
theorem t_X8_isWire {D : DG} {z0 : Nat} {l : Launch} (a0 : Int32) (σ : SG) : MT D z0 l yX8_isWire wsX8_isWire rmX8_isWire tvI [.int a0] σ (m_X8_isWire a0 σ) :=
  MT.of (own := RX8) (cc := cX8_isWire) (nL := 1) (ret := (some .boolean)) (ct := false) (by decide) rfl rfl (fun h => by cases h) (Nat.le_of_ble_eq_true rfl) (by intro v hv; simp only [List.mem_cons, List.not_mem_nil, or_false] at hv; first | (rcases hv with rfl <;> first | rfl | exact va_rf_cat _) | exact absurd hv (fun h => h)) (v_X8_isWire a0 σ)
theorem in_X8_sender_X8 : ∀ w ∈ u_ws RX8 TX8 6, w ∈ wsX8_sender := by decide +kernel
theorem wd_X8_sender_1 : Cond.fieldLink RX8 10 "MainsWords" "now" "LMainsWords$Net;" ∈ wsX8_sender := by decide +kernel
theorem fd_X8_sender_10_X8 : FD RX8 10 wsX8_sender 7 0 := ⟨RX8, "MainsWords", TX8, 6, rfl, in_X8_sender_X8, by decide, wd_X8_sender_1, Or.inl rfl⟩
theorem wd_X8_sender_3 : Cond.fieldLink RX8 29 "MainsWords" "history" "LMainsWords$History;" ∈ wsX8_sender := by decide +kernel
theorem fd_X8_sender_29_X8 : FD RX8 29 wsX8_sender 7 4 := ⟨RX8, "MainsWords", TX8, 6, rfl, in_X8_sender_X8, by decide, wd_X8_sender_3, Or.inl rfl⟩
theorem wd_X8_sender_5 : Cond.sameField "MainsWords$Sender" "MainsWords$Thing" "number" "I" ∈ wsX8_sender := by decide +kernel
theorem in_X8_sender_X6 : ∀ w ∈ u_ws RX6 TX6 10, w ∈ wsX8_sender := by decide +kernel
theorem wd_X8_sender_7 : Cond.fieldLink RX8 58 "MainsWords$Sender" "number" "I" ∈ wsX8_sender := by decide +kernel
theorem fd_X8_sender_58_X6 : FD RX8 58 wsX8_sender 6 0 := ⟨RX6, "MainsWords$Sender", TX6, 10, rfl, in_X8_sender_X6, by decide, wd_X8_sender_7, Or.inr wd_X8_sender_5⟩
set_option maxRecDepth 100000 in
set_option maxHeartbeats 4000000 in
theorem v_X8_sender {D : DG} {z0 : Nat} {l : Launch} : ∀ (a0 : Option Nat) (a1 : Int32) (a2 : Int32) (σ : SG), V D z0 l RX8 cX8_sender 4 wsX8_sender (some .int) rmX8_sender false tvI 0 [some (va_rf a0), some (.int a1), some (.int a2), none] [] σ 0 0 (m_X8_sender a0 a1 a2 σ) := by
  intro a0 a1 a2 σ
  unfold m_X8_sender
  refine V_iload_n (x := a1) dX8_sender_0 rfl ?_
  refine V_callS0 (As := [.int a1]) (st0 := []) (stI := [.int a1]) (t_X8_isWire a1 σ) rfl (Nat.le_of_ble_eq_true rfl) rfl (fun s args hts => va_cwS 1 hts gX8_sender_X8_isWire rfl rfl rfl (by decide +kernel) ⟨Nat.le_of_ble_eq_true rfl, Nat.le_of_ble_eq_true rfl⟩) rfl rfl dX8_sender_1 (fun r1 σ2 _ => ?_)
  refine V_if_ne (tgt := 9) (x := r1) dX8_sender_4 (by decide) (fun hc3 => ?_) (fun hc3 => ?_)
  · refine V_iconst (v := (-1 : Int32)) dX8_sender_7 rfl ?_
    exact V_iret (fun _ => rfl) rfl (Nat.zero_le _) (Nat.zero_le _) dX8_sender_8
  · refine V_iload_n (x := a2) dX8_sender_9 rfl ?_
    refine V_iconst (v := (1 : Int32)) dX8_sender_10 rfl ?_
    refine V_icmp_lt (tgt := 20) (x := a2) (y := (1 : Int32)) dX8_sender_11 (by decide) (fun hc4 => ?_) (fun hc4 => ?_)
    · refine V_bipush (v := (-2 : Int32)) dX8_sender_20 rfl ?_
      exact V_iret (fun _ => rfl) rfl (Nat.zero_le _) (Nat.zero_le _) dX8_sender_22
    · refine V_iload_n (x := a2) dX8_sender_14 rfl ?_
      refine V_bipush (v := (9 : Int32)) dX8_sender_15 rfl ?_
      refine V_icmp_le (tgt := 23) (x := a2) (y := (9 : Int32)) dX8_sender_17 (by decide) (fun hc5 => ?_) (fun hc5 => ?_)
      · refine V_aload_n (x := a0) dX8_sender_23 rfl ?_
        refine V_getR fd_X8_sender_10_X8 dX8_sender_24 (fun x6 => ?_)
        refine V_callV0 (As := []) (st0 := []) (stI := [va_rf x6]) (fun _ h => by cases h; exact t_X3_freeSender _ σ2) (q := (RX3, TX3, 8)) rfl rfl rfl (Nat.le_of_ble_eq_true rfl) rfl (fun s args hts => cwV 0 hts gX8_sender_X3_freeSender rfl rfl rfl (by decide +kernel) ⟨Nat.le_of_ble_eq_true rfl, Nat.le_of_ble_eq_true rfl⟩) rfl rfl dX8_sender_27 (fun r7 σ8 _ => ?_)
        refine V_astore_n (x := r7) (ls' := [some (va_rf a0), some (.int a1), some (.int a2), some (va_rf r7)]) dX8_sender_30 (by decide) rfl ?_
        refine V_aload_n (x := r7) dX8_sender_31 rfl ?_
        refine V_ifnonnull (tgt := 38) (x := r7) dX8_sender_32 (by decide) (fun hc9 => ?_) (fun hc9 => ?_)
        · refine V_bipush (v := (-3 : Int32)) dX8_sender_35 rfl ?_
          exact V_iret (fun _ => rfl) rfl (Nat.zero_le _) (Nat.zero_le _) dX8_sender_37
        · refine V_aload_n (x := a0) dX8_sender_38 rfl ?_
          refine V_getR fd_X8_sender_29_X8 dX8_sender_39 (fun x10 => ?_)
          refine V_aload_n (x := a0) dX8_sender_42 rfl ?_
          refine V_getR fd_X8_sender_10_X8 dX8_sender_43 (fun x11 => ?_)
          refine V_callV0 (As := [va_rf x11]) (st0 := []) (stI := [va_rf x11, va_rf x10]) (fun _ h => by cases h; exact t_X0_keep _ x11 σ8) (q := (RX0, TX0, 2)) rfl rfl rfl (Nat.le_of_ble_eq_true rfl) rfl (fun s args hts => cwV 1 hts gX8_sender_X0_keep rfl rfl rfl (by decide +kernel) ⟨Nat.le_of_ble_eq_true rfl, Nat.le_of_ble_eq_true rfl⟩) rfl rfl dX8_sender_46 (fun _ σ12 _ => ?_)
          refine V_aload_n (x := r7) dX8_sender_49 rfl ?_
          refine V_iload_n (x := a1) dX8_sender_50 rfl ?_
          refine V_iload_n (x := a2) dX8_sender_51 rfl ?_
          refine V_callV0 (As := [.int a1, .int a2]) (st0 := []) (stI := [.int a2, .int a1, va_rf r7]) (fun _ h => by cases h; exact t_X6_put _ a1 a2 σ12) (q := (RX6, TX6, 10)) rfl rfl rfl (Nat.le_of_ble_eq_true rfl) rfl (fun s args hts => cwV 2 hts gX8_sender_X6_put rfl rfl rfl (by decide +kernel) ⟨Nat.le_of_ble_eq_true rfl, Nat.le_of_ble_eq_true rfl⟩) rfl rfl dX8_sender_52 (fun _ σ13 _ => ?_)
          refine V_aload_n (x := r7) dX8_sender_55 rfl ?_
          refine V_getI fd_X8_sender_58_X6 dX8_sender_56 (fun x14 => ?_)
          exact V_iret (fun _ => rfl) rfl (Nat.zero_le _) (Nat.zero_le _) dX8_sender_59
      · refine V_bipush (v := (-2 : Int32)) dX8_sender_20 rfl ?_
        exact V_iret (fun _ => rfl) rfl (Nat.zero_le _) (Nat.zero_le _) dX8_sender_22
theorem t_X8_sender {D : DG} {z0 : Nat} {l : Launch} (a : Nat) (a1 : Int32) (a2 : Int32) (σ : SG) : MT D z0 l yX8_sender wsX8_sender rmX8_sender tvI [.ref a, .int a1, .int a2] σ (m_X8_sender (some a) a1 a2 σ) :=
  MT.of (own := RX8) (cc := cX8_sender) (nL := 4) (ret := (some .int)) (ct := false) (by decide) rfl rfl (fun h => by cases h) (Nat.le_of_ble_eq_true rfl) (by intro v hv; simp only [List.mem_cons, List.not_mem_nil, or_false] at hv; first | (rcases hv with rfl | rfl | rfl <;> first | rfl | exact va_rf_cat _) | exact absurd hv (fun h => h)) (v_X8_sender (some a) a1 a2 σ)
theorem in_X8_machine_X8 : ∀ w ∈ u_ws RX8 TX8 6, w ∈ wsX8_machine := by decide +kernel
theorem wd_X8_machine_1 : Cond.fieldLink RX8 10 "MainsWords" "now" "LMainsWords$Net;" ∈ wsX8_machine := by decide +kernel
theorem fd_X8_machine_10_X8 : FD RX8 10 wsX8_machine 7 0 := ⟨RX8, "MainsWords", TX8, 6, rfl, in_X8_machine_X8, by decide, wd_X8_machine_1, Or.inl rfl⟩
theorem wd_X8_machine_3 : Cond.fieldLink RX8 29 "MainsWords" "history" "LMainsWords$History;" ∈ wsX8_machine := by decide +kernel
theorem fd_X8_machine_29_X8 : FD RX8 29 wsX8_machine 7 4 := ⟨RX8, "MainsWords", TX8, 6, rfl, in_X8_machine_X8, by decide, wd_X8_machine_3, Or.inl rfl⟩
theorem wd_X8_machine_5 : Cond.sameField "MainsWords$Machine" "MainsWords$Thing" "number" "I" ∈ wsX8_machine := by decide +kernel
theorem in_X8_machine_X2 : ∀ w ∈ u_ws RX2 TX2 6, w ∈ wsX8_machine := by decide +kernel
theorem wd_X8_machine_7 : Cond.fieldLink RX8 71 "MainsWords$Machine" "number" "I" ∈ wsX8_machine := by decide +kernel
theorem fd_X8_machine_71_X2 : FD RX8 71 wsX8_machine 2 0 := ⟨RX2, "MainsWords$Machine", TX2, 6, rfl, in_X8_machine_X2, by decide, wd_X8_machine_7, Or.inr wd_X8_machine_5⟩
set_option maxRecDepth 100000 in
set_option maxHeartbeats 4000000 in
theorem v_X8_machine {D : DG} {z0 : Nat} {l : Launch} : ∀ (a0 : Option Nat) (a1 : Int32) (a2 : Int32) (a3 : Int32) (σ : SG), V D z0 l RX8 cX8_machine 5 wsX8_machine (some .int) rmX8_machine false tvI 0 [some (va_rf a0), some (.int a1), some (.int a2), some (.int a3), none] [] σ 0 0 (m_X8_machine a0 a1 a2 a3 σ) := by
  intro a0 a1 a2 a3 σ
  unfold m_X8_machine
  refine V_iload_n (x := a1) dX8_machine_0 rfl ?_
  refine V_callS0 (As := [.int a1]) (st0 := []) (stI := [.int a1]) (t_X8_isWire a1 σ) rfl (Nat.le_of_ble_eq_true rfl) rfl (fun s args hts => va_cwS 1 hts gX8_machine_X8_isWire rfl rfl rfl (by decide +kernel) ⟨Nat.le_of_ble_eq_true rfl, Nat.le_of_ble_eq_true rfl⟩) rfl rfl dX8_machine_1 (fun r1 σ2 _ => ?_)
  refine V_if_ne (tgt := 9) (x := r1) dX8_machine_4 (by decide) (fun hc3 => ?_) (fun hc3 => ?_)
  · refine V_iconst (v := (-1 : Int32)) dX8_machine_7 rfl ?_
    exact V_iret (fun _ => rfl) rfl (Nat.zero_le _) (Nat.zero_le _) dX8_machine_8
  · refine V_iload_n (x := a2) dX8_machine_9 rfl ?_
    refine V_iconst (v := (1 : Int32)) dX8_machine_10 rfl ?_
    refine V_icmp_lt (tgt := 20) (x := a2) (y := (1 : Int32)) dX8_machine_11 (by decide) (fun hc4 => ?_) (fun hc4 => ?_)
    · refine V_bipush (v := (-2 : Int32)) dX8_machine_20 rfl ?_
      exact V_iret (fun _ => rfl) rfl (Nat.zero_le _) (Nat.zero_le _) dX8_machine_22
    · refine V_iload_n (x := a2) dX8_machine_14 rfl ?_
      refine V_bipush (v := (9 : Int32)) dX8_machine_15 rfl ?_
      refine V_icmp_le (tgt := 23) (x := a2) (y := (9 : Int32)) dX8_machine_17 (by decide) (fun hc5 => ?_) (fun hc5 => ?_)
      · refine V_iload_n (x := a3) dX8_machine_23 rfl ?_
        refine V_iconst (v := (2 : Int32)) dX8_machine_24 rfl ?_
        refine V_icmp_lt (tgt := 34) (x := a3) (y := (2 : Int32)) dX8_machine_25 (by decide) (fun hc6 => ?_) (fun hc6 => ?_)
        · refine V_bipush (v := (-2 : Int32)) dX8_machine_34 rfl ?_
          exact V_iret (fun _ => rfl) rfl (Nat.zero_le _) (Nat.zero_le _) dX8_machine_36
        · refine V_iload_n (x := a3) dX8_machine_28 rfl ?_
          refine V_bipush (v := (20 : Int32)) dX8_machine_29 rfl ?_
          refine V_icmp_le (tgt := 37) (x := a3) (y := (20 : Int32)) dX8_machine_31 (by decide) (fun hc7 => ?_) (fun hc7 => ?_)
          · refine V_aload_n (x := a0) dX8_machine_37 rfl ?_
            refine V_getR fd_X8_machine_10_X8 dX8_machine_38 (fun x8 => ?_)
            refine V_callV0 (As := []) (st0 := []) (stI := [va_rf x8]) (fun _ h => by cases h; exact t_X3_freeMachine _ σ2) (q := (RX3, TX3, 8)) rfl rfl rfl (Nat.le_of_ble_eq_true rfl) rfl (fun s args hts => cwV 0 hts gX8_machine_X3_freeMachine rfl rfl rfl (by decide +kernel) ⟨Nat.le_of_ble_eq_true rfl, Nat.le_of_ble_eq_true rfl⟩) rfl rfl dX8_machine_41 (fun r9 σ10 _ => ?_)
            refine V_astore (x := r9) (ls' := [some (va_rf a0), some (.int a1), some (.int a2), some (.int a3), some (va_rf r9)]) dX8_machine_44 (by decide) rfl ?_
            refine V_aload (x := r9) dX8_machine_46 rfl ?_
            refine V_ifnonnull (tgt := 54) (x := r9) dX8_machine_48 (by decide) (fun hc11 => ?_) (fun hc11 => ?_)
            · refine V_bipush (v := (-3 : Int32)) dX8_machine_51 rfl ?_
              exact V_iret (fun _ => rfl) rfl (Nat.zero_le _) (Nat.zero_le _) dX8_machine_53
            · refine V_aload_n (x := a0) dX8_machine_54 rfl ?_
              refine V_getR fd_X8_machine_29_X8 dX8_machine_55 (fun x12 => ?_)
              refine V_aload_n (x := a0) dX8_machine_58 rfl ?_
              refine V_getR fd_X8_machine_10_X8 dX8_machine_59 (fun x13 => ?_)
              refine V_callV0 (As := [va_rf x13]) (st0 := []) (stI := [va_rf x13, va_rf x12]) (fun _ h => by cases h; exact t_X0_keep _ x13 σ10) (q := (RX0, TX0, 2)) rfl rfl rfl (Nat.le_of_ble_eq_true rfl) rfl (fun s args hts => cwV 1 hts gX8_machine_X0_keep rfl rfl rfl (by decide +kernel) ⟨Nat.le_of_ble_eq_true rfl, Nat.le_of_ble_eq_true rfl⟩) rfl rfl dX8_machine_62 (fun _ σ14 _ => ?_)
              refine V_aload (x := r9) dX8_machine_65 rfl ?_
              refine V_iload_n (x := a1) dX8_machine_67 rfl ?_
              refine V_iload_n (x := a2) dX8_machine_68 rfl ?_
              refine V_iload_n (x := a3) dX8_machine_69 rfl ?_
              refine V_callV0 (As := [.int a1, .int a2, .int a3]) (st0 := []) (stI := [.int a3, .int a2, .int a1, va_rf r9]) (fun _ h => by cases h; exact t_X2_put _ a1 a2 a3 σ14) (q := (RX2, TX2, 6)) rfl rfl rfl (Nat.le_of_ble_eq_true rfl) rfl (fun s args hts => cwV 3 hts gX8_machine_X2_put rfl rfl rfl (by decide +kernel) ⟨Nat.le_of_ble_eq_true rfl, Nat.le_of_ble_eq_true rfl⟩) rfl rfl dX8_machine_70 (fun _ σ15 _ => ?_)
              refine V_aload (x := r9) dX8_machine_73 rfl ?_
              refine V_getI fd_X8_machine_71_X2 dX8_machine_75 (fun x16 => ?_)
              exact V_iret (fun _ => rfl) rfl (Nat.zero_le _) (Nat.zero_le _) dX8_machine_78
          · refine V_bipush (v := (-2 : Int32)) dX8_machine_34 rfl ?_
            exact V_iret (fun _ => rfl) rfl (Nat.zero_le _) (Nat.zero_le _) dX8_machine_36
      · refine V_bipush (v := (-2 : Int32)) dX8_machine_20 rfl ?_
        exact V_iret (fun _ => rfl) rfl (Nat.zero_le _) (Nat.zero_le _) dX8_machine_22
theorem t_X8_machine {D : DG} {z0 : Nat} {l : Launch} (a : Nat) (a1 : Int32) (a2 : Int32) (a3 : Int32) (σ : SG) : MT D z0 l yX8_machine wsX8_machine rmX8_machine tvI [.ref a, .int a1, .int a2, .int a3] σ (m_X8_machine (some a) a1 a2 a3 σ) :=
  MT.of (own := RX8) (cc := cX8_machine) (nL := 5) (ret := (some .int)) (ct := false) (by decide) rfl rfl (fun h => by cases h) (Nat.le_of_ble_eq_true rfl) (by intro v hv; simp only [List.mem_cons, List.not_mem_nil, or_false] at hv; first | (rcases hv with rfl | rfl | rfl | rfl <;> first | rfl | exact va_rf_cat _) | exact absurd hv (fun h => h)) (v_X8_machine (some a) a1 a2 a3 σ)
theorem in_X8_lamp_X8 : ∀ w ∈ u_ws RX8 TX8 6, w ∈ wsX8_lamp := by decide +kernel
theorem wd_X8_lamp_1 : Cond.fieldLink RX8 10 "MainsWords" "now" "LMainsWords$Net;" ∈ wsX8_lamp := by decide +kernel
theorem fd_X8_lamp_10_X8 : FD RX8 10 wsX8_lamp 7 0 := ⟨RX8, "MainsWords", TX8, 6, rfl, in_X8_lamp_X8, by decide, wd_X8_lamp_1, Or.inl rfl⟩
theorem wd_X8_lamp_3 : Cond.fieldLink RX8 29 "MainsWords" "history" "LMainsWords$History;" ∈ wsX8_lamp := by decide +kernel
theorem fd_X8_lamp_29_X8 : FD RX8 29 wsX8_lamp 7 4 := ⟨RX8, "MainsWords", TX8, 6, rfl, in_X8_lamp_X8, by decide, wd_X8_lamp_3, Or.inl rfl⟩
theorem wd_X8_lamp_5 : Cond.sameField "MainsWords$Lamp" "MainsWords$Thing" "number" "I" ∈ wsX8_lamp := by decide +kernel
theorem in_X8_lamp_X1 : ∀ w ∈ u_ws RX1 TX1 7, w ∈ wsX8_lamp := by decide +kernel
theorem wd_X8_lamp_7 : Cond.fieldLink RX8 79 "MainsWords$Lamp" "number" "I" ∈ wsX8_lamp := by decide +kernel
theorem fd_X8_lamp_79_X1 : FD RX8 79 wsX8_lamp 1 0 := ⟨RX1, "MainsWords$Lamp", TX1, 7, rfl, in_X8_lamp_X1, by decide, wd_X8_lamp_7, Or.inr wd_X8_lamp_5⟩
set_option maxRecDepth 100000 in
set_option maxHeartbeats 4000000 in
theorem v_X8_lamp {D : DG} {z0 : Nat} {l : Launch} : ∀ (a0 : Option Nat) (a1 : Int32) (a2 : Int32) (a3 : Int32) (σ : SG), V D z0 l RX8 cX8_lamp 5 wsX8_lamp (some .int) rmX8_lamp false tvI 0 [some (va_rf a0), some (.int a1), some (.int a2), some (.int a3), none] [] σ 0 0 (m_X8_lamp a0 a1 a2 a3 σ) := by
  intro a0 a1 a2 a3 σ
  unfold m_X8_lamp
  refine V_iload_n (x := a1) dX8_lamp_0 rfl ?_
  refine V_callS0 (As := [.int a1]) (st0 := []) (stI := [.int a1]) (t_X8_isWire a1 σ) rfl (Nat.le_of_ble_eq_true rfl) rfl (fun s args hts => va_cwS 1 hts gX8_lamp_X8_isWire rfl rfl rfl (by decide +kernel) ⟨Nat.le_of_ble_eq_true rfl, Nat.le_of_ble_eq_true rfl⟩) rfl rfl dX8_lamp_1 (fun r1 σ2 _ => ?_)
  refine V_if_ne (tgt := 9) (x := r1) dX8_lamp_4 (by decide) (fun hc3 => ?_) (fun hc3 => ?_)
  · refine V_iconst (v := (-1 : Int32)) dX8_lamp_7 rfl ?_
    exact V_iret (fun _ => rfl) rfl (Nat.zero_le _) (Nat.zero_le _) dX8_lamp_8
  · refine V_iload_n (x := a2) dX8_lamp_9 rfl ?_
    refine V_if_lt (tgt := 27) (x := a2) dX8_lamp_10 (by decide) (fun hc4 => ?_) (fun hc4 => ?_)
    · refine V_bipush (v := (-2 : Int32)) dX8_lamp_27 rfl ?_
      exact V_iret (fun _ => rfl) rfl (Nat.zero_le _) (Nat.zero_le _) dX8_lamp_29
    · refine V_iload_n (x := a2) dX8_lamp_13 rfl ?_
      refine V_iconst (v := (4 : Int32)) dX8_lamp_14 rfl ?_
      refine V_icmp_ge (tgt := 27) (x := a2) (y := (4 : Int32)) dX8_lamp_15 (by decide) (fun hc5 => ?_) (fun hc5 => ?_)
      · refine V_bipush (v := (-2 : Int32)) dX8_lamp_27 rfl ?_
        exact V_iret (fun _ => rfl) rfl (Nat.zero_le _) (Nat.zero_le _) dX8_lamp_29
      · refine V_iload_n (x := a3) dX8_lamp_18 rfl ?_
        refine V_if_lt (tgt := 27) (x := a3) dX8_lamp_19 (by decide) (fun hc6 => ?_) (fun hc6 => ?_)
        · refine V_bipush (v := (-2 : Int32)) dX8_lamp_27 rfl ?_
          exact V_iret (fun _ => rfl) rfl (Nat.zero_le _) (Nat.zero_le _) dX8_lamp_29
        · refine V_iload_n (x := a3) dX8_lamp_22 rfl ?_
          refine V_iconst (v := (4 : Int32)) dX8_lamp_23 rfl ?_
          refine V_icmp_lt (tgt := 30) (x := a3) (y := (4 : Int32)) dX8_lamp_24 (by decide) (fun hc7 => ?_) (fun hc7 => ?_)
          · refine V_aload_n (x := a0) dX8_lamp_30 rfl ?_
            refine V_getR fd_X8_lamp_10_X8 dX8_lamp_31 (fun x8 => ?_)
            refine V_callV0 (As := []) (st0 := []) (stI := [va_rf x8]) (fun _ h => by cases h; exact t_X3_freeLamp _ σ2) (q := (RX3, TX3, 8)) rfl rfl rfl (Nat.le_of_ble_eq_true rfl) rfl (fun s args hts => cwV 0 hts gX8_lamp_X3_freeLamp rfl rfl rfl (by decide +kernel) ⟨Nat.le_of_ble_eq_true rfl, Nat.le_of_ble_eq_true rfl⟩) rfl rfl dX8_lamp_34 (fun r9 σ10 _ => ?_)
            refine V_astore (x := r9) (ls' := [some (va_rf a0), some (.int a1), some (.int a2), some (.int a3), some (va_rf r9)]) dX8_lamp_37 (by decide) rfl ?_
            refine V_aload (x := r9) dX8_lamp_39 rfl ?_
            refine V_ifnonnull (tgt := 47) (x := r9) dX8_lamp_41 (by decide) (fun hc11 => ?_) (fun hc11 => ?_)
            · refine V_bipush (v := (-3 : Int32)) dX8_lamp_44 rfl ?_
              exact V_iret (fun _ => rfl) rfl (Nat.zero_le _) (Nat.zero_le _) dX8_lamp_46
            · refine V_aload_n (x := a0) dX8_lamp_47 rfl ?_
              refine V_getR fd_X8_lamp_29_X8 dX8_lamp_48 (fun x12 => ?_)
              refine V_aload_n (x := a0) dX8_lamp_51 rfl ?_
              refine V_getR fd_X8_lamp_10_X8 dX8_lamp_52 (fun x13 => ?_)
              refine V_callV0 (As := [va_rf x13]) (st0 := []) (stI := [va_rf x13, va_rf x12]) (fun _ h => by cases h; exact t_X0_keep _ x13 σ10) (q := (RX0, TX0, 2)) rfl rfl rfl (Nat.le_of_ble_eq_true rfl) rfl (fun s args hts => cwV 1 hts gX8_lamp_X0_keep rfl rfl rfl (by decide +kernel) ⟨Nat.le_of_ble_eq_true rfl, Nat.le_of_ble_eq_true rfl⟩) rfl rfl dX8_lamp_55 (fun _ σ14 _ => ?_)
              refine V_aload (x := r9) dX8_lamp_58 rfl ?_
              refine V_iload_n (x := a1) dX8_lamp_60 rfl ?_
              refine V_iload_n (x := a2) dX8_lamp_61 rfl ?_
              refine V_iload_n (x := a3) dX8_lamp_62 rfl ?_
              refine V_callV0 (As := [.int a1, .int a2, .int a3]) (st0 := []) (stI := [.int a3, .int a2, .int a1, va_rf r9]) (fun _ h => by cases h; exact t_X1_put _ a1 a2 a3 σ14) (q := (RX1, TX1, 7)) rfl rfl rfl (Nat.le_of_ble_eq_true rfl) rfl (fun s args hts => cwV 3 hts gX8_lamp_X1_put rfl rfl rfl (by decide +kernel) ⟨Nat.le_of_ble_eq_true rfl, Nat.le_of_ble_eq_true rfl⟩) rfl rfl dX8_lamp_63 (fun _ σ15 _ => ?_)
              refine V_aload (x := r9) dX8_lamp_66 rfl ?_
              refine V_getI fd_X8_lamp_79_X1 dX8_lamp_68 (fun x16 => ?_)
              exact V_iret (fun _ => rfl) rfl (Nat.zero_le _) (Nat.zero_le _) dX8_lamp_71
          · refine V_bipush (v := (-2 : Int32)) dX8_lamp_27 rfl ?_
            exact V_iret (fun _ => rfl) rfl (Nat.zero_le _) (Nat.zero_le _) dX8_lamp_29
theorem t_X8_lamp {D : DG} {z0 : Nat} {l : Launch} (a : Nat) (a1 : Int32) (a2 : Int32) (a3 : Int32) (σ : SG) : MT D z0 l yX8_lamp wsX8_lamp rmX8_lamp tvI [.ref a, .int a1, .int a2, .int a3] σ (m_X8_lamp (some a) a1 a2 a3 σ) :=
  MT.of (own := RX8) (cc := cX8_lamp) (nL := 5) (ret := (some .int)) (ct := false) (by decide) rfl rfl (fun h => by cases h) (Nat.le_of_ble_eq_true rfl) (by intro v hv; simp only [List.mem_cons, List.not_mem_nil, or_false] at hv; first | (rcases hv with rfl | rfl | rfl | rfl <;> first | rfl | exact va_rf_cat _) | exact absurd hv (fun h => h)) (v_X8_lamp (some a) a1 a2 a3 σ)
theorem in_X8_remove_X8 : ∀ w ∈ u_ws RX8 TX8 6, w ∈ wsX8_remove := by decide +kernel
theorem wd_X8_remove_1 : Cond.fieldLink RX8 10 "MainsWords" "now" "LMainsWords$Net;" ∈ wsX8_remove := by decide +kernel
theorem fd_X8_remove_10_X8 : FD RX8 10 wsX8_remove 7 0 := ⟨RX8, "MainsWords", TX8, 6, rfl, in_X8_remove_X8, by decide, wd_X8_remove_1, Or.inl rfl⟩
theorem wd_X8_remove_3 : Cond.fieldLink RX8 29 "MainsWords" "history" "LMainsWords$History;" ∈ wsX8_remove := by decide +kernel
theorem fd_X8_remove_29_X8 : FD RX8 29 wsX8_remove 7 4 := ⟨RX8, "MainsWords", TX8, 6, rfl, in_X8_remove_X8, by decide, wd_X8_remove_3, Or.inl rfl⟩
theorem in_X8_remove_X1 : ∀ w ∈ u_ws RX1 TX1 7, w ∈ wsX8_remove := by decide +kernel
theorem wd_X8_remove_6 : Cond.fieldLink RX8 88 "MainsWords$Thing" "isPresent" "Z" ∈ wsX8_remove := by decide +kernel
theorem fd_X8_remove_88_X1 : FD RX8 88 wsX8_remove 1 1 := ⟨RX1, "MainsWords$Thing", TX1, 7, rfl, in_X8_remove_X1, by decide, wd_X8_remove_6, Or.inl rfl⟩
theorem fw_X8_remove_X1_1 : FW RX8 wsX8_remove 1 1 .boolean false := ⟨RX1, TX1, 7, tyX1, rfl, in_X8_remove_X1, tyX1_ok, nmX1, rfl, (fun h => by cases h), rfl⟩
theorem in_X8_remove_X2 : ∀ w ∈ u_ws RX2 TX2 6, w ∈ wsX8_remove := by decide +kernel
theorem fd_X8_remove_88_X2 : FD RX8 88 wsX8_remove 2 1 := ⟨RX2, "MainsWords$Thing", TX2, 6, rfl, in_X8_remove_X2, by decide, wd_X8_remove_6, Or.inl rfl⟩
theorem fw_X8_remove_X2_1 : FW RX8 wsX8_remove 2 1 .boolean false := ⟨RX2, TX2, 6, tyX2, rfl, in_X8_remove_X2, tyX2_ok, nmX2, rfl, (fun h => by cases h), rfl⟩
theorem in_X8_remove_X6 : ∀ w ∈ u_ws RX6 TX6 10, w ∈ wsX8_remove := by decide +kernel
theorem fd_X8_remove_88_X6 : FD RX8 88 wsX8_remove 6 1 := ⟨RX6, "MainsWords$Thing", TX6, 10, rfl, in_X8_remove_X6, by decide, wd_X8_remove_6, Or.inl rfl⟩
theorem fw_X8_remove_X6_1 : FW RX8 wsX8_remove 6 1 .boolean false := ⟨RX6, TX6, 10, tyX6, rfl, in_X8_remove_X6, tyX6_ok, nmX6, rfl, (fun h => by cases h), rfl⟩
theorem wd_X8_remove_15 : Cond.fieldLink RX8 93 "MainsWords$Thing" "wire" "I" ∈ wsX8_remove := by decide +kernel
theorem fd_X8_remove_93_X1 : FD RX8 93 wsX8_remove 1 2 := ⟨RX1, "MainsWords$Thing", TX1, 7, rfl, in_X8_remove_X1, by decide, wd_X8_remove_15, Or.inl rfl⟩
theorem fd_X8_remove_93_X2 : FD RX8 93 wsX8_remove 2 2 := ⟨RX2, "MainsWords$Thing", TX2, 6, rfl, in_X8_remove_X2, by decide, wd_X8_remove_15, Or.inl rfl⟩
theorem fd_X8_remove_93_X6 : FD RX8 93 wsX8_remove 6 2 := ⟨RX6, "MainsWords$Thing", TX6, 10, rfl, in_X8_remove_X6, by decide, wd_X8_remove_15, Or.inl rfl⟩
set_option maxRecDepth 100000 in
set_option maxHeartbeats 4000000 in
theorem v_X8_remove {D : DG} {z0 : Nat} {l : Launch} : ∀ (a0 : Option Nat) (a1 : Int32) (a2 : Int32) (σ : SG), V D z0 l RX8 cX8_remove 5 wsX8_remove (some .int) rmX8_remove false tvI 0 [some (va_rf a0), some (.int a1), some (.int a2), none, none] [] σ 0 0 (m_X8_remove a0 a1 a2 σ) := by
  intro a0 a1 a2 σ
  unfold m_X8_remove
  refine V_aload_n (x := a0) dX8_remove_0 rfl ?_
  refine V_getR fd_X8_remove_10_X8 dX8_remove_1 (fun x1 => ?_)
  refine V_iload_n (x := a1) dX8_remove_4 rfl ?_
  refine V_callV0 (As := [.int a1]) (st0 := []) (stI := [.int a1, va_rf x1]) (fun _ h => by cases h; exact t_X3_thingsOf _ a1 σ) (q := (RX3, TX3, 8)) rfl rfl rfl (Nat.le_of_ble_eq_true rfl) rfl (fun s args hts => cwV 1 hts gX8_remove_X3_thingsOf rfl rfl rfl (by decide +kernel) ⟨Nat.le_of_ble_eq_true rfl, Nat.le_of_ble_eq_true rfl⟩) rfl rfl dX8_remove_5 (fun r2 σ3 _ => ?_)
  refine V_astore_n (x := r2) (ls' := [some (va_rf a0), some (.int a1), some (.int a2), some (va_rf r2), none]) dX8_remove_8 (by decide) rfl ?_
  refine V_aload_n (x := r2) dX8_remove_9 rfl ?_
  refine V_ifnonnull (tgt := 16) (x := r2) dX8_remove_10 (by decide) (fun hc4 => ?_) (fun hc4 => ?_)
  · refine V_bipush (v := (-2 : Int32)) dX8_remove_13 rfl ?_
    exact V_iret (fun _ => rfl) rfl (Nat.zero_le _) (Nat.zero_le _) dX8_remove_15
  · refine V_aload_n (x := r2) dX8_remove_16 rfl ?_
    refine V_iload_n (x := a2) dX8_remove_17 rfl ?_
    refine V_callS0 (As := [va_rf r2, .int a2]) (st0 := []) (stI := [.int a2, va_rf r2]) (t_X8_presentAt r2 a2 σ3) rfl (Nat.le_of_ble_eq_true rfl) rfl (fun s args hts => va_cwS 2 hts gX8_remove_X8_presentAt rfl rfl rfl (by decide +kernel) ⟨Nat.le_of_ble_eq_true rfl, Nat.le_of_ble_eq_true rfl⟩) rfl rfl dX8_remove_18 (fun r5 σ6 _ => ?_)
    refine V_astore (x := r5) (ls' := [some (va_rf a0), some (.int a1), some (.int a2), some (va_rf r2), some (va_rf r5)]) dX8_remove_21 (by decide) rfl ?_
    refine V_aload (x := r5) dX8_remove_23 rfl ?_
    refine V_ifnonnull (tgt := 30) (x := r5) dX8_remove_25 (by decide) (fun hc7 => ?_) (fun hc7 => ?_)
    · refine V_iconst (v := (-1 : Int32)) dX8_remove_28 rfl ?_
      exact V_iret (fun _ => rfl) rfl (Nat.zero_le _) (Nat.zero_le _) dX8_remove_29
    · refine V_aload_n (x := a0) dX8_remove_30 rfl ?_
      refine V_getR fd_X8_remove_29_X8 dX8_remove_31 (fun x8 => ?_)
      refine V_aload_n (x := a0) dX8_remove_34 rfl ?_
      refine V_getR fd_X8_remove_10_X8 dX8_remove_35 (fun x9 => ?_)
      refine V_callV0 (As := [va_rf x9]) (st0 := []) (stI := [va_rf x9, va_rf x8]) (fun _ h => by cases h; exact t_X0_keep _ x9 σ6) (q := (RX0, TX0, 2)) rfl rfl rfl (Nat.le_of_ble_eq_true rfl) rfl (fun s args hts => cwV 1 hts gX8_remove_X0_keep rfl rfl rfl (by decide +kernel) ⟨Nat.le_of_ble_eq_true rfl, Nat.le_of_ble_eq_true rfl⟩) rfl rfl dX8_remove_38 (fun _ σ10 _ => ?_)
      refine V_aload (x := r5) dX8_remove_41 rfl ?_
      refine V_iconst (v := (0 : Int32)) dX8_remove_43 rfl ?_
      refine V_putZT (LE3 (⟨fd_X8_remove_88_X1, fw_X8_remove_X1_1⟩) (⟨fd_X8_remove_88_X2, fw_X8_remove_X2_1⟩) (⟨fd_X8_remove_88_X6, fw_X8_remove_X6_1⟩)) dX8_remove_44 (fun σ11 hσ11 => ?_)
      refine V_aload (x := r5) dX8_remove_47 rfl ?_
      refine V_getIT (LE3 fd_X8_remove_93_X1 fd_X8_remove_93_X2 fd_X8_remove_93_X6) dX8_remove_49 (fun x12 => ?_)
      exact V_iret (fun _ => rfl) rfl (Nat.zero_le _) (Nat.zero_le _) dX8_remove_52
theorem t_X8_remove {D : DG} {z0 : Nat} {l : Launch} (a : Nat) (a1 : Int32) (a2 : Int32) (σ : SG) : MT D z0 l yX8_remove wsX8_remove rmX8_remove tvI [.ref a, .int a1, .int a2] σ (m_X8_remove (some a) a1 a2 σ) :=
  MT.of (own := RX8) (cc := cX8_remove) (nL := 5) (ret := (some .int)) (ct := false) (by decide) rfl rfl (fun h => by cases h) (Nat.le_of_ble_eq_true rfl) (by intro v hv; simp only [List.mem_cons, List.not_mem_nil, or_false] at hv; first | (rcases hv with rfl | rfl | rfl <;> first | rfl | exact va_rf_cat _) | exact absurd hv (fun h => h)) (v_X8_remove (some a) a1 a2 σ)
