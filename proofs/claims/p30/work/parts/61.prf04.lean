theorem in_X8_lampOf_X8 : ∀ w ∈ u_ws RX8 TX8 6, w ∈ wsX8_lampOf := by decide +kernel
theorem wd_X8_lampOf_1 : Cond.fieldLink RX8 10 "MainsWords" "now" "LMainsWords$Net;" ∈ wsX8_lampOf := by decide +kernel
theorem fd_X8_lampOf_10_X8 : FD RX8 10 wsX8_lampOf 7 0 := ⟨RX8, "MainsWords", TX8, 6, rfl, in_X8_lampOf_X8, by decide, wd_X8_lampOf_1, Or.inl rfl⟩
theorem wd_X8_lampOf_3 : Cond.sameField "MainsWords$Lamp" "MainsWords$Thing" "wire" "I" ∈ wsX8_lampOf := by decide +kernel
theorem in_X8_lampOf_X1 : ∀ w ∈ u_ws RX1 TX1 7, w ∈ wsX8_lampOf := by decide +kernel
theorem wd_X8_lampOf_5 : Cond.fieldLink RX8 208 "MainsWords$Lamp" "wire" "I" ∈ wsX8_lampOf := by decide +kernel
theorem fd_X8_lampOf_208_X1 : FD RX8 208 wsX8_lampOf 1 2 := ⟨RX1, "MainsWords$Lamp", TX1, 7, rfl, in_X8_lampOf_X1, by decide, wd_X8_lampOf_5, Or.inr wd_X8_lampOf_3⟩
theorem wd_X8_lampOf_7 : Cond.fieldLink RX8 209 "MainsWords$Lamp" "letter" "I" ∈ wsX8_lampOf := by decide +kernel
theorem fd_X8_lampOf_209_X1 : FD RX8 209 wsX8_lampOf 1 3 := ⟨RX1, "MainsWords$Lamp", TX1, 7, rfl, in_X8_lampOf_X1, by decide, wd_X8_lampOf_7, Or.inl rfl⟩
theorem wd_X8_lampOf_9 : Cond.fieldLink RX8 212 "MainsWords$Lamp" "unit" "I" ∈ wsX8_lampOf := by decide +kernel
theorem fd_X8_lampOf_212_X1 : FD RX8 212 wsX8_lampOf 1 4 := ⟨RX1, "MainsWords$Lamp", TX1, 7, rfl, in_X8_lampOf_X1, by decide, wd_X8_lampOf_9, Or.inl rfl⟩
theorem wd_X8_lampOf_11 : Cond.fieldLink RX8 215 "MainsWords$Lamp" "level" "I" ∈ wsX8_lampOf := by decide +kernel
theorem fd_X8_lampOf_215_X1 : FD RX8 215 wsX8_lampOf 1 5 := ⟨RX1, "MainsWords$Lamp", TX1, 7, rfl, in_X8_lampOf_X1, by decide, wd_X8_lampOf_11, Or.inl rfl⟩
theorem wd_X8_lampOf_13 : Cond.fieldLink RX8 218 "MainsWords$Lamp" "isSelected" "Z" ∈ wsX8_lampOf := by decide +kernel
theorem fd_X8_lampOf_218_X1 : FD RX8 218 wsX8_lampOf 1 6 := ⟨RX1, "MainsWords$Lamp", TX1, 7, rfl, in_X8_lampOf_X1, by decide, wd_X8_lampOf_13, Or.inl rfl⟩
set_option maxRecDepth 100000 in
set_option maxHeartbeats 4000000 in
theorem v_X8_lampOf {D : DG} {z0 : Nat} {l : Launch} : ∀ (a0 : Option Nat) (a1 : Int32) (a2 : Int32) (σ : SG), V D z0 l RX8 cX8_lampOf 4 wsX8_lampOf (some .int) rmX8_lampOf false tvI 0 [some (va_rf a0), some (.int a1), some (.int a2), none] [] σ 0 0 (m_X8_lampOf a0 a1 a2 σ) := by
  intro a0 a1 a2 σ
  unfold m_X8_lampOf
  refine V_aload_n (x := a0) dX8_lampOf_0 rfl ?_
  refine V_getR fd_X8_lampOf_10_X8 dX8_lampOf_1 (fun x1 => ?_)
  refine V_iload_n (x := a1) dX8_lampOf_4 rfl ?_
  refine V_callV0 (As := [.int a1]) (st0 := []) (stI := [.int a1, va_rf x1]) (fun _ h => by cases h; exact t_X3_lampAt _ a1 σ) (q := (RX3, TX3, 8)) rfl rfl rfl (Nat.le_of_ble_eq_true rfl) rfl (fun s args hts => cwV 1 hts gX8_lampOf_X3_lampAt rfl rfl rfl (by decide +kernel) ⟨Nat.le_of_ble_eq_true rfl, Nat.le_of_ble_eq_true rfl⟩) rfl rfl dX8_lampOf_5 (fun r2 σ3 _ => ?_)
  refine V_astore_n (x := r2) (ls' := [some (va_rf a0), some (.int a1), some (.int a2), some (va_rf r2)]) dX8_lampOf_8 (by decide) rfl ?_
  refine V_aload_n (x := r2) dX8_lampOf_9 rfl ?_
  refine V_ifnonnull (tgt := 15) (x := r2) dX8_lampOf_10 (by decide) (fun hc4 => ?_) (fun hc4 => ?_)
  · refine V_iconst (v := (-1 : Int32)) dX8_lampOf_13 rfl ?_
    exact V_iret (fun _ => rfl) rfl (Nat.zero_le _) (Nat.zero_le _) dX8_lampOf_14
  · refine V_iload_n (x := a2) dX8_lampOf_15 rfl ?_
    refine V_table (x := a2) (tb := [(0, 52), (1, 57), (2, 62), (3, 67), (4, 72)]) (tgt := 80) dX8_lampOf_16 (by decide) rfl (by decide) (List.forall_mem_cons.mpr ⟨?_, List.forall_mem_cons.mpr ⟨?_, List.forall_mem_cons.mpr ⟨?_, List.forall_mem_cons.mpr ⟨?_, List.forall_mem_cons.mpr ⟨?_, fun _ h => absurd h List.not_mem_nil⟩⟩⟩⟩⟩) ?_
    · dsimp only
      refine V_aload_n (x := r2) dX8_lampOf_52 rfl ?_
      refine V_getI fd_X8_lampOf_208_X1 dX8_lampOf_53 (fun x5 => ?_)
      exact V_iret (fun _ => rfl) rfl (Nat.zero_le _) (Nat.zero_le _) dX8_lampOf_56
    · dsimp only
      refine V_aload_n (x := r2) dX8_lampOf_57 rfl ?_
      refine V_getI fd_X8_lampOf_209_X1 dX8_lampOf_58 (fun x6 => ?_)
      exact V_iret (fun _ => rfl) rfl (Nat.zero_le _) (Nat.zero_le _) dX8_lampOf_61
    · dsimp only
      refine V_aload_n (x := r2) dX8_lampOf_62 rfl ?_
      refine V_getI fd_X8_lampOf_212_X1 dX8_lampOf_63 (fun x7 => ?_)
      exact V_iret (fun _ => rfl) rfl (Nat.zero_le _) (Nat.zero_le _) dX8_lampOf_66
    · dsimp only
      refine V_aload_n (x := r2) dX8_lampOf_67 rfl ?_
      refine V_getI fd_X8_lampOf_215_X1 dX8_lampOf_68 (fun x8 => ?_)
      exact V_iret (fun _ => rfl) rfl (Nat.zero_le _) (Nat.zero_le _) dX8_lampOf_71
    · dsimp only
      refine V_aload_n (x := r2) dX8_lampOf_72 rfl ?_
      refine V_getI fd_X8_lampOf_218_X1 dX8_lampOf_73 (fun x9 => ?_)
      refine V_callS0 (As := [.int x9]) (st0 := []) (stI := [.int x9]) (t_X8_asNumber x9 σ3) rfl (Nat.le_of_ble_eq_true rfl) rfl (fun s args hts => va_cwS 1 hts gX8_lampOf_X8_asNumber rfl rfl rfl (by decide +kernel) ⟨Nat.le_of_ble_eq_true rfl, Nat.le_of_ble_eq_true rfl⟩) rfl rfl dX8_lampOf_76 (fun r10 σ11 _ => ?_)
      exact V_iret (fun _ => rfl) rfl (Nat.zero_le _) (Nat.zero_le _) dX8_lampOf_79
    · refine V_bipush (v := (-2 : Int32)) dX8_lampOf_80 rfl ?_
      exact V_iret (fun _ => rfl) rfl (Nat.zero_le _) (Nat.zero_le _) dX8_lampOf_82
theorem t_X8_lampOf {D : DG} {z0 : Nat} {l : Launch} (a : Nat) (a1 : Int32) (a2 : Int32) (σ : SG) : MT D z0 l yX8_lampOf wsX8_lampOf rmX8_lampOf tvI [.ref a, .int a1, .int a2] σ (m_X8_lampOf (some a) a1 a2 σ) :=
  MT.of (own := RX8) (cc := cX8_lampOf) (nL := 4) (ret := (some .int)) (ct := false) (by decide) rfl rfl (fun h => by cases h) (Nat.le_of_ble_eq_true rfl) (by intro v hv; simp only [List.mem_cons, List.not_mem_nil, or_false] at hv; first | (rcases hv with rfl | rfl | rfl <;> first | rfl | exact va_rf_cat _) | exact absurd hv (fun h => h)) (v_X8_lampOf (some a) a1 a2 σ)
theorem in_X8_receiver_X8 : ∀ w ∈ u_ws RX8 TX8 6, w ∈ wsX8_receiver := by decide +kernel
theorem wd_X8_receiver_1 : Cond.fieldLink RX8 10 "MainsWords" "now" "LMainsWords$Net;" ∈ wsX8_receiver := by decide +kernel
theorem fd_X8_receiver_10_X8 : FD RX8 10 wsX8_receiver 7 0 := ⟨RX8, "MainsWords", TX8, 6, rfl, in_X8_receiver_X8, by decide, wd_X8_receiver_1, Or.inl rfl⟩
theorem in_X8_receiver_X3 : ∀ w ∈ u_ws RX3 TX3 8, w ∈ wsX8_receiver := by decide +kernel
theorem wd_X8_receiver_4 : Cond.fieldLink RX8 221 "MainsWords$Net" "receivers" "[LMainsWords$Receiver;" ∈ wsX8_receiver := by decide +kernel
theorem fd_X8_receiver_221_X3 : FD RX8 221 wsX8_receiver 3 3 := ⟨RX3, "MainsWords$Net", TX3, 8, rfl, in_X8_receiver_X3, by decide, wd_X8_receiver_4, Or.inl rfl⟩
theorem in_X8_receiver_X4 : ∀ w ∈ u_ws RX4 TX4 7, w ∈ wsX8_receiver := by decide +kernel
theorem wd_X8_receiver_7 : Cond.fieldLink RX8 225 "MainsWords$Receiver" "reads" "Z" ∈ wsX8_receiver := by decide +kernel
theorem fd_X8_receiver_225_X4 : FD RX8 225 wsX8_receiver 4 0 := ⟨RX4, "MainsWords$Receiver", TX4, 7, rfl, in_X8_receiver_X4, by decide, wd_X8_receiver_7, Or.inl rfl⟩
theorem wd_X8_receiver_9 : Cond.fieldLink RX8 230 "MainsWords$Receiver" "bitsRead" "I" ∈ wsX8_receiver := by decide +kernel
theorem fd_X8_receiver_230_X4 : FD RX8 230 wsX8_receiver 4 2 := ⟨RX4, "MainsWords$Receiver", TX4, 7, rfl, in_X8_receiver_X4, by decide, wd_X8_receiver_9, Or.inl rfl⟩
theorem wd_X8_receiver_11 : Cond.fieldLink RX8 233 "MainsWords$Receiver" "latestBits" "I" ∈ wsX8_receiver := by decide +kernel
theorem fd_X8_receiver_233_X4 : FD RX8 233 wsX8_receiver 4 1 := ⟨RX4, "MainsWords$Receiver", TX4, 7, rfl, in_X8_receiver_X4, by decide, wd_X8_receiver_11, Or.inl rfl⟩
theorem wd_X8_receiver_13 : Cond.fieldLink RX8 236 "MainsWords$Receiver" "lastWord" "I" ∈ wsX8_receiver := by decide +kernel
theorem fd_X8_receiver_236_X4 : FD RX8 236 wsX8_receiver 4 4 := ⟨RX4, "MainsWords$Receiver", TX4, 7, rfl, in_X8_receiver_X4, by decide, wd_X8_receiver_13, Or.inl rfl⟩
theorem wd_X8_receiver_15 : Cond.fieldLink RX8 167 "MainsWords$Net" "time" "I" ∈ wsX8_receiver := by decide +kernel
theorem fd_X8_receiver_167_X3 : FD RX8 167 wsX8_receiver 3 6 := ⟨RX3, "MainsWords$Net", TX3, 8, rfl, in_X8_receiver_X3, by decide, wd_X8_receiver_15, Or.inl rfl⟩
theorem wd_X8_receiver_17 : Cond.fieldLink RX8 239 "MainsWords$Receiver" "toldAt" "I" ∈ wsX8_receiver := by decide +kernel
theorem fd_X8_receiver_239_X4 : FD RX8 239 wsX8_receiver 4 5 := ⟨RX4, "MainsWords$Receiver", TX4, 7, rfl, in_X8_receiver_X4, by decide, wd_X8_receiver_17, Or.inl rfl⟩
theorem wd_X8_receiver_19 : Cond.fieldLink RX8 242 "MainsWords$Receiver" "openLetters" "I" ∈ wsX8_receiver := by decide +kernel
theorem fd_X8_receiver_242_X4 : FD RX8 242 wsX8_receiver 4 6 := ⟨RX4, "MainsWords$Receiver", TX4, 7, rfl, in_X8_receiver_X4, by decide, wd_X8_receiver_19, Or.inl rfl⟩
set_option maxRecDepth 100000 in
set_option maxHeartbeats 4000000 in
theorem v_X8_receiver {D : DG} {z0 : Nat} {l : Launch} : ∀ (a0 : Option Nat) (a1 : Int32) (a2 : Int32) (σ : SG), V D z0 l RX8 cX8_receiver 4 wsX8_receiver (some .int) rmX8_receiver false tvI 0 [some (va_rf a0), some (.int a1), some (.int a2), none] [] σ 0 0 (m_X8_receiver a0 a1 a2 σ) := by
  intro a0 a1 a2 σ
  unfold m_X8_receiver
  refine V_iload_n (x := a1) dX8_receiver_0 rfl ?_
  refine V_callS0 (As := [.int a1]) (st0 := []) (stI := [.int a1]) (t_X8_isWire a1 σ) rfl (Nat.le_of_ble_eq_true rfl) rfl (fun s args hts => va_cwS 1 hts gX8_receiver_X8_isWire rfl rfl rfl (by decide +kernel) ⟨Nat.le_of_ble_eq_true rfl, Nat.le_of_ble_eq_true rfl⟩) rfl rfl dX8_receiver_1 (fun r1 σ2 _ => ?_)
  refine V_if_ne (tgt := 9) (x := r1) dX8_receiver_4 (by decide) (fun hc3 => ?_) (fun hc3 => ?_)
  · refine V_iconst (v := (-1 : Int32)) dX8_receiver_7 rfl ?_
    exact V_iret (fun _ => rfl) rfl (Nat.zero_le _) (Nat.zero_le _) dX8_receiver_8
  · refine V_aload_n (x := a0) dX8_receiver_9 rfl ?_
    refine V_getR fd_X8_receiver_10_X8 dX8_receiver_10 (fun x4 => ?_)
    refine V_getR fd_X8_receiver_221_X3 dX8_receiver_13 (fun x5 => ?_)
    refine V_iload_n (x := a1) dX8_receiver_16 rfl ?_
    refine V_aaload dX8_receiver_17 (fun x6 => ?_)
    refine V_astore_n (x := x6) (ls' := [some (va_rf a0), some (.int a1), some (.int a2), some (va_rf x6)]) dX8_receiver_18 (by decide) rfl ?_
    refine V_iload_n (x := a2) dX8_receiver_19 rfl ?_
    refine V_table (x := a2) (tb := [(0, 56), (1, 73), (2, 90), (3, 95), (4, 122)]) (tgt := 127) dX8_receiver_20 (by decide) rfl (by decide) (List.forall_mem_cons.mpr ⟨?_, List.forall_mem_cons.mpr ⟨?_, List.forall_mem_cons.mpr ⟨?_, List.forall_mem_cons.mpr ⟨?_, List.forall_mem_cons.mpr ⟨?_, fun _ h => absurd h List.not_mem_nil⟩⟩⟩⟩⟩) ?_
    · dsimp only
      refine V_aload_n (x := x6) dX8_receiver_56 rfl ?_
      refine V_getI fd_X8_receiver_225_X4 dX8_receiver_57 (fun x7 => ?_)
      refine V_if_eq (tgt := 70) (x := x7) dX8_receiver_60 (by decide) (fun hc8 => ?_) (fun hc8 => ?_)
      · refine V_bipush (v := (-5 : Int32)) dX8_receiver_70 rfl ?_
        exact V_iret (fun _ => rfl) rfl (Nat.zero_le _) (Nat.zero_le _) dX8_receiver_72
      · refine V_aload_n (x := x6) dX8_receiver_63 rfl ?_
        refine V_getI fd_X8_receiver_230_X4 dX8_receiver_64 (fun x9 => ?_)
        refine V_goto (tgt := 72) dX8_receiver_67 (by decide) ?_
        exact V_iret (fun _ => rfl) rfl (Nat.zero_le _) (Nat.zero_le _) dX8_receiver_72
    · dsimp only
      refine V_aload_n (x := x6) dX8_receiver_73 rfl ?_
      refine V_getI fd_X8_receiver_225_X4 dX8_receiver_74 (fun x10 => ?_)
      refine V_if_eq (tgt := 85) (x := x10) dX8_receiver_77 (by decide) (fun hc11 => ?_) (fun hc11 => ?_)
      · refine V_aload_n (x := x6) dX8_receiver_85 rfl ?_
        refine V_getI fd_X8_receiver_233_X4 dX8_receiver_86 (fun x12 => ?_)
        exact V_iret (fun _ => rfl) rfl (Nat.zero_le _) (Nat.zero_le _) dX8_receiver_89
      · refine V_bipush (v := (-5 : Int32)) dX8_receiver_80 rfl ?_
        refine V_goto (tgt := 89) dX8_receiver_82 (by decide) ?_
        exact V_iret (fun _ => rfl) rfl (Nat.zero_le _) (Nat.zero_le _) dX8_receiver_89
    · dsimp only
      refine V_aload_n (x := x6) dX8_receiver_90 rfl ?_
      refine V_getI fd_X8_receiver_236_X4 dX8_receiver_91 (fun x13 => ?_)
      exact V_iret (fun _ => rfl) rfl (Nat.zero_le _) (Nat.zero_le _) dX8_receiver_94
    · dsimp only
      refine V_aload_n (x := x6) dX8_receiver_95 rfl ?_
      refine V_getI fd_X8_receiver_236_X4 dX8_receiver_96 (fun x14 => ?_)
      refine V_bipush (v := (-5 : Int32)) dX8_receiver_99 rfl ?_
      refine V_icmp_ne (tgt := 109) (x := x14) (y := (-5 : Int32)) dX8_receiver_101 (by decide) (fun hc15 => ?_) (fun hc15 => ?_)
      · refine V_bipush (v := (-5 : Int32)) dX8_receiver_104 rfl ?_
        refine V_goto (tgt := 121) dX8_receiver_106 (by decide) ?_
        exact V_iret (fun _ => rfl) rfl (Nat.zero_le _) (Nat.zero_le _) dX8_receiver_121
      · refine V_aload_n (x := a0) dX8_receiver_109 rfl ?_
        refine V_getR fd_X8_receiver_10_X8 dX8_receiver_110 (fun x16 => ?_)
        refine V_getI fd_X8_receiver_167_X3 dX8_receiver_113 (fun x17 => ?_)
        refine V_aload_n (x := x6) dX8_receiver_116 rfl ?_
        refine V_getI fd_X8_receiver_239_X4 dX8_receiver_117 (fun x18 => ?_)
        refine V_isub (x := x17) (y := x18) dX8_receiver_120 ?_
        exact V_iret (fun _ => rfl) rfl (Nat.zero_le _) (Nat.zero_le _) dX8_receiver_121
    · dsimp only
      refine V_aload_n (x := x6) dX8_receiver_122 rfl ?_
      refine V_getI fd_X8_receiver_242_X4 dX8_receiver_123 (fun x19 => ?_)
      exact V_iret (fun _ => rfl) rfl (Nat.zero_le _) (Nat.zero_le _) dX8_receiver_126
    · refine V_bipush (v := (-2 : Int32)) dX8_receiver_127 rfl ?_
      exact V_iret (fun _ => rfl) rfl (Nat.zero_le _) (Nat.zero_le _) dX8_receiver_129
theorem t_X8_receiver {D : DG} {z0 : Nat} {l : Launch} (a : Nat) (a1 : Int32) (a2 : Int32) (σ : SG) : MT D z0 l yX8_receiver wsX8_receiver rmX8_receiver tvI [.ref a, .int a1, .int a2] σ (m_X8_receiver (some a) a1 a2 σ) :=
  MT.of (own := RX8) (cc := cX8_receiver) (nL := 4) (ret := (some .int)) (ct := false) (by decide) rfl rfl (fun h => by cases h) (Nat.le_of_ble_eq_true rfl) (by intro v hv; simp only [List.mem_cons, List.not_mem_nil, or_false] at hv; first | (rcases hv with rfl | rfl | rfl <;> first | rfl | exact va_rf_cat _) | exact absurd hv (fun h => h)) (v_X8_receiver (some a) a1 a2 σ)
set_option maxRecDepth 100000 in
set_option maxHeartbeats 4000000 in
theorem v_X8_frame {D : DG} {z0 : Nat} {l : Launch} : ∀ (a0 : Option Nat) (a1 : Int32) (a2 : Int32) (σ : SG), V D z0 l RX8 cX8_frame 3 wsX8_frame (some .int) rmX8_frame false tvI 0 [some (va_rf a0), some (.int a1), some (.int a2)] [] σ 0 0 (m_X8_frame a0 a1 a2 σ) := by
  intro a0 a1 a2 σ
  unfold m_X8_frame
  refine V_iload_n (x := a1) dX8_frame_0 rfl ?_
  refine V_callS0 (As := [.int a1]) (st0 := []) (stI := [.int a1]) (t_X8_isWord a1 σ) rfl (Nat.le_of_ble_eq_true rfl) rfl (fun s args hts => va_cwS 1 hts gX8_frame_X8_isWord rfl rfl rfl (by decide +kernel) ⟨Nat.le_of_ble_eq_true rfl, Nat.le_of_ble_eq_true rfl⟩) rfl rfl dX8_frame_1 (fun r1 σ2 _ => ?_)
  refine V_if_eq (tgt := 17) (x := r1) dX8_frame_4 (by decide) (fun hc3 => ?_) (fun hc3 => ?_)
  · refine V_bipush (v := (-2 : Int32)) dX8_frame_17 rfl ?_
    exact V_iret (fun _ => rfl) rfl (Nat.zero_le _) (Nat.zero_le _) dX8_frame_19
  · refine V_iload_n (x := a2) dX8_frame_7 rfl ?_
    refine V_if_lt (tgt := 17) (x := a2) dX8_frame_8 (by decide) (fun hc4 => ?_) (fun hc4 => ?_)
    · refine V_bipush (v := (-2 : Int32)) dX8_frame_17 rfl ?_
      exact V_iret (fun _ => rfl) rfl (Nat.zero_le _) (Nat.zero_le _) dX8_frame_19
    · refine V_iload_n (x := a2) dX8_frame_11 rfl ?_
      refine V_bipush (v := (14 : Int32)) dX8_frame_12 rfl ?_
      refine V_icmp_lt (tgt := 20) (x := a2) (y := (14 : Int32)) dX8_frame_14 (by decide) (fun hc5 => ?_) (fun hc5 => ?_)
      · refine V_iload_n (x := a1) dX8_frame_20 rfl ?_
        refine V_iload_n (x := a2) dX8_frame_21 rfl ?_
        refine V_callS0 (As := [.int a1, .int a2]) (st0 := []) (stI := [.int a2, .int a1]) (t_X8_frameBit a1 a2 σ2) rfl (Nat.le_of_ble_eq_true rfl) rfl (fun s args hts => va_cwS 2 hts gX8_frame_X8_frameBit rfl rfl rfl (by decide +kernel) ⟨Nat.le_of_ble_eq_true rfl, Nat.le_of_ble_eq_true rfl⟩) rfl rfl dX8_frame_22 (fun r6 σ7 _ => ?_)
        exact V_iret (fun _ => rfl) rfl (Nat.zero_le _) (Nat.zero_le _) dX8_frame_25
      · refine V_bipush (v := (-2 : Int32)) dX8_frame_17 rfl ?_
        exact V_iret (fun _ => rfl) rfl (Nat.zero_le _) (Nat.zero_le _) dX8_frame_19
theorem t_X8_frame {D : DG} {z0 : Nat} {l : Launch} (a : Nat) (a1 : Int32) (a2 : Int32) (σ : SG) : MT D z0 l yX8_frame wsX8_frame rmX8_frame tvI [.ref a, .int a1, .int a2] σ (m_X8_frame (some a) a1 a2 σ) :=
  MT.of (own := RX8) (cc := cX8_frame) (nL := 3) (ret := (some .int)) (ct := false) (by decide) rfl rfl (fun h => by cases h) (Nat.le_of_ble_eq_true rfl) (by intro v hv; simp only [List.mem_cons, List.not_mem_nil, or_false] at hv; first | (rcases hv with rfl | rfl | rfl <;> first | rfl | exact va_rf_cat _) | exact absurd hv (fun h => h)) (v_X8_frame (some a) a1 a2 σ)
theorem in_X8_loss_X8 : ∀ w ∈ u_ws RX8 TX8 6, w ∈ wsX8_loss := by decide +kernel
theorem wd_X8_loss_1 : Cond.fieldLink RX8 10 "MainsWords" "now" "LMainsWords$Net;" ∈ wsX8_loss := by decide +kernel
theorem fd_X8_loss_10_X8 : FD RX8 10 wsX8_loss 7 0 := ⟨RX8, "MainsWords", TX8, 6, rfl, in_X8_loss_X8, by decide, wd_X8_loss_1, Or.inl rfl⟩
set_option maxRecDepth 100000 in
set_option maxHeartbeats 4000000 in
theorem v_X8_loss {D : DG} {z0 : Nat} {l : Launch} : ∀ (a0 : Option Nat) (a1 : Int32) (a2 : Int32) (σ : SG), V D z0 l RX8 cX8_loss 3 wsX8_loss (some .int) rmX8_loss false tvI 0 [some (va_rf a0), some (.int a1), some (.int a2)] [] σ 0 0 (m_X8_loss a0 a1 a2 σ) := by
  intro a0 a1 a2 σ
  unfold m_X8_loss
  refine V_iload_n (x := a1) dX8_loss_0 rfl ?_
  refine V_callS0 (As := [.int a1]) (st0 := []) (stI := [.int a1]) (t_X8_isWire a1 σ) rfl (Nat.le_of_ble_eq_true rfl) rfl (fun s args hts => va_cwS 1 hts gX8_loss_X8_isWire rfl rfl rfl (by decide +kernel) ⟨Nat.le_of_ble_eq_true rfl, Nat.le_of_ble_eq_true rfl⟩) rfl rfl dX8_loss_1 (fun r1 σ2 _ => ?_)
  refine V_if_eq (tgt := 14) (x := r1) dX8_loss_4 (by decide) (fun hc3 => ?_) (fun hc3 => ?_)
  · refine V_iconst (v := (-1 : Int32)) dX8_loss_14 rfl ?_
    exact V_iret (fun _ => rfl) rfl (Nat.zero_le _) (Nat.zero_le _) dX8_loss_15
  · refine V_iload_n (x := a2) dX8_loss_7 rfl ?_
    refine V_callS0 (As := [.int a2]) (st0 := []) (stI := [.int a2]) (t_X8_isWire a2 σ2) rfl (Nat.le_of_ble_eq_true rfl) rfl (fun s args hts => va_cwS 1 hts gX8_loss_X8_isWire rfl rfl rfl (by decide +kernel) ⟨Nat.le_of_ble_eq_true rfl, Nat.le_of_ble_eq_true rfl⟩) rfl rfl dX8_loss_8 (fun r4 σ5 _ => ?_)
    refine V_if_ne (tgt := 16) (x := r4) dX8_loss_11 (by decide) (fun hc6 => ?_) (fun hc6 => ?_)
    · refine V_iconst (v := (-1 : Int32)) dX8_loss_14 rfl ?_
      exact V_iret (fun _ => rfl) rfl (Nat.zero_le _) (Nat.zero_le _) dX8_loss_15
    · refine V_aload_n (x := a0) dX8_loss_16 rfl ?_
      refine V_getR fd_X8_loss_10_X8 dX8_loss_17 (fun x7 => ?_)
      refine V_iload_n (x := a1) dX8_loss_20 rfl ?_
      refine V_iload_n (x := a2) dX8_loss_21 rfl ?_
      refine V_callV0 (As := [.int a1, .int a2]) (st0 := []) (stI := [.int a2, .int a1, va_rf x7]) (fun _ h => by cases h; exact t_X3_lossBetween _ a1 a2 σ5) (q := (RX3, TX3, 8)) rfl rfl rfl (Nat.le_of_ble_eq_true rfl) rfl (fun s args hts => cwV 2 hts gX8_loss_X3_lossBetween rfl rfl rfl (by decide +kernel) ⟨Nat.le_of_ble_eq_true rfl, Nat.le_of_ble_eq_true rfl⟩) rfl rfl dX8_loss_22 (fun r8 σ9 _ => ?_)
      exact V_iret (fun _ => rfl) rfl (Nat.zero_le _) (Nat.zero_le _) dX8_loss_25
theorem t_X8_loss {D : DG} {z0 : Nat} {l : Launch} (a : Nat) (a1 : Int32) (a2 : Int32) (σ : SG) : MT D z0 l yX8_loss wsX8_loss rmX8_loss tvI [.ref a, .int a1, .int a2] σ (m_X8_loss (some a) a1 a2 σ) :=
  MT.of (own := RX8) (cc := cX8_loss) (nL := 3) (ret := (some .int)) (ct := false) (by decide) rfl rfl (fun h => by cases h) (Nat.le_of_ble_eq_true rfl) (by intro v hv; simp only [List.mem_cons, List.not_mem_nil, or_false] at hv; first | (rcases hv with rfl | rfl | rfl <;> first | rfl | exact va_rf_cat _) | exact absurd hv (fun h => h)) (v_X8_loss (some a) a1 a2 σ)
theorem in_X8_presentIn_X1 : ∀ w ∈ u_ws RX1 TX1 7, w ∈ wsX8_presentIn := by decide +kernel
theorem wd_X8_presentIn_1 : Cond.fieldLink RX8 88 "MainsWords$Thing" "isPresent" "Z" ∈ wsX8_presentIn := by decide +kernel
theorem fd_X8_presentIn_88_X1 : FD RX8 88 wsX8_presentIn 1 1 := ⟨RX1, "MainsWords$Thing", TX1, 7, rfl, in_X8_presentIn_X1, by decide, wd_X8_presentIn_1, Or.inl rfl⟩
theorem in_X8_presentIn_X2 : ∀ w ∈ u_ws RX2 TX2 6, w ∈ wsX8_presentIn := by decide +kernel
theorem fd_X8_presentIn_88_X2 : FD RX8 88 wsX8_presentIn 2 1 := ⟨RX2, "MainsWords$Thing", TX2, 6, rfl, in_X8_presentIn_X2, by decide, wd_X8_presentIn_1, Or.inl rfl⟩
theorem in_X8_presentIn_X6 : ∀ w ∈ u_ws RX6 TX6 10, w ∈ wsX8_presentIn := by decide +kernel
theorem fd_X8_presentIn_88_X6 : FD RX8 88 wsX8_presentIn 6 1 := ⟨RX6, "MainsWords$Thing", TX6, 10, rfl, in_X8_presentIn_X6, by decide, wd_X8_presentIn_1, Or.inl rfl⟩
set_option maxRecDepth 100000 in
set_option maxHeartbeats 4000000 in
theorem v_X8_presentIn_B10 {D : DG} {z0 : Nat} {l : Launch} {rec10 : Int32 → Option Nat → Int32 → Int32 → SG → Option (Int32 × SG)} (hrec10 : ∀ (v1 : Int32) (v2 : Option Nat) (v3 : Int32) (v4 : Int32) (σ : SG), V D z0 l RX8 cX8_presentIn 6 wsX8_presentIn (some .int) rmX8_presentIn false tvI 10 [none, some (.int v1), some (va_rf v2), some (.int v3), some (.int v4), none] [] σ 0 0 (rec10 v1 v2 v3 v4 σ)) : ∀ (v1 : Int32) (v2 : Option Nat) (v3 : Int32) (v4 : Int32) (σ : SG), V D z0 l RX8 cX8_presentIn 6 wsX8_presentIn (some .int) rmX8_presentIn false tvI 10 [none, some (.int v1), some (va_rf v2), some (.int v3), some (.int v4), none] [] σ 0 0 (m_X8_presentIn_B10 rec10 v1 v2 v3 v4 σ) := by
  intro v1 v2 v3 v4 σ
  unfold m_X8_presentIn_B10
  refine V_iload (x := v4) dX8_presentIn_10 rfl ?_
  refine V_iload_n (x := v3) dX8_presentIn_12 rfl ?_
  refine V_icmp_ge (tgt := 39) (x := v4) (y := v3) dX8_presentIn_13 (by decide) (fun hc1 => ?_) (fun hc1 => ?_)
  · refine V_iload_n (x := v1) dX8_presentIn_39 rfl ?_
    exact V_iret (fun _ => rfl) rfl (Nat.zero_le _) (Nat.zero_le _) dX8_presentIn_40
  · refine V_aload_n (x := v2) dX8_presentIn_16 rfl ?_
    refine V_iload (x := v4) dX8_presentIn_17 rfl ?_
    refine V_aaload dX8_presentIn_19 (fun x2 => ?_)
    refine V_astore (x := x2) (ls' := [none, some (.int v1), some (va_rf v2), some (.int v3), some (.int v4), some (va_rf x2)]) dX8_presentIn_20 (by decide) rfl ?_
    refine V_iload_n (x := v1) dX8_presentIn_22 rfl ?_
    refine V_aload (x := x2) dX8_presentIn_23 rfl ?_
    refine V_getIT (LE3 fd_X8_presentIn_88_X1 fd_X8_presentIn_88_X2 fd_X8_presentIn_88_X6) dX8_presentIn_25 (fun x3 => ?_)
    refine V_callS0 (As := [.int x3]) (st0 := [.int v1]) (stI := [.int x3, .int v1]) (t_X8_asNumber x3 σ) rfl (Nat.le_of_ble_eq_true rfl) rfl (fun s args hts => va_cwS 1 hts gX8_presentIn_X8_asNumber rfl rfl rfl (by decide +kernel) ⟨Nat.le_of_ble_eq_true rfl, Nat.le_of_ble_eq_true rfl⟩) rfl rfl dX8_presentIn_28 (fun r4 σ5 _ => ?_)
    refine V_iadd (x := v1) (y := r4) dX8_presentIn_31 ?_
    refine V_istore_n (x := (v1 + r4)) (ls' := [none, some (.int (v1 + r4)), some (va_rf v2), some (.int v3), some (.int v4), some (va_rf x2)]) dX8_presentIn_32 (by decide) rfl ?_
    refine V_iinc (x := v4) (v := (v4 + 1)) (ls' := [none, some (.int (v1 + r4)), some (va_rf v2), some (.int v3), some (.int (v4 + 1)), some (va_rf x2)]) dX8_presentIn_33 rfl rfl (by decide) rfl ?_
    refine V_goto (tgt := 10) dX8_presentIn_36 (by decide) ?_
    exact V_sub (LE.s (LE.s (LE.s (LE.s (LE.s (LE.n LE.e)))))) (hrec10 ((v1 + r4)) v2 v3 ((v4 + 1)) σ5)
theorem v_X8_presentIn_L10 {D : DG} {z0 : Nat} {l : Launch} : ∀ (n : Nat) (v1 : Int32) (v2 : Option Nat) (v3 : Int32) (v4 : Int32) (σ : SG), V D z0 l RX8 cX8_presentIn 6 wsX8_presentIn (some .int) rmX8_presentIn false tvI 10 [none, some (.int v1), some (va_rf v2), some (.int v3), some (.int v4), none] [] σ 0 0 (m_X8_presentIn_L10 n v1 v2 v3 v4 σ) := by
  intro n
  induction n with
  | zero => intros; exact V_none
  | succ n ih => exact v_X8_presentIn_B10  ih
set_option maxRecDepth 100000 in
set_option maxHeartbeats 4000000 in
theorem v_X8_presentIn {D : DG} {z0 : Nat} {l : Launch} : ∀ (a0 : Option Nat) (σ : SG), V D z0 l RX8 cX8_presentIn 6 wsX8_presentIn (some .int) rmX8_presentIn false tvI 0 [some (va_rf a0), none, none, none, none, none] [] σ 0 0 (m_X8_presentIn a0 σ) := by
  intro a0 σ
  unfold m_X8_presentIn
  refine V_iconst (v := (0 : Int32)) dX8_presentIn_0 rfl ?_
  refine V_istore_n (x := (0 : Int32)) (ls' := [some (va_rf a0), some (.int (0 : Int32)), none, none, none, none]) dX8_presentIn_1 (by decide) rfl ?_
  refine V_aload_n (x := a0) dX8_presentIn_2 rfl ?_
  refine V_astore_n (x := a0) (ls' := [some (va_rf a0), some (.int (0 : Int32)), some (va_rf a0), none, none, none]) dX8_presentIn_3 (by decide) rfl ?_
  refine V_aload_n (x := a0) dX8_presentIn_4 rfl ?_
  refine V_alen dX8_presentIn_5 (fun x6 => ?_)
  refine V_istore_n (x := x6) (ls' := [some (va_rf a0), some (.int (0 : Int32)), some (va_rf a0), some (.int x6), none, none]) dX8_presentIn_6 (by decide) rfl ?_
  refine V_iconst (v := (0 : Int32)) dX8_presentIn_7 rfl ?_
  refine V_istore (x := (0 : Int32)) (ls' := [some (va_rf a0), some (.int (0 : Int32)), some (va_rf a0), some (.int x6), some (.int (0 : Int32)), none]) dX8_presentIn_8 (by decide) rfl ?_
  exact V_sub (LE.n (LE.s (LE.s (LE.s (LE.s (LE.s LE.e)))))) (v_X8_presentIn_L10  1000 ((0 : Int32)) a0 x6 ((0 : Int32)) σ)
theorem t_X8_presentIn {D : DG} {z0 : Nat} {l : Launch} (a0 : Option Nat) (σ : SG) : MT D z0 l yX8_presentIn wsX8_presentIn rmX8_presentIn tvI [va_rf a0] σ (m_X8_presentIn a0 σ) :=
  MT.of (own := RX8) (cc := cX8_presentIn) (nL := 6) (ret := (some .int)) (ct := false) (by decide) rfl rfl (fun h => by cases h) (Nat.le_of_ble_eq_true rfl) (by intro v hv; simp only [List.mem_cons, List.not_mem_nil, or_false] at hv; first | (rcases hv with rfl <;> first | rfl | exact va_rf_cat _) | exact absurd hv (fun h => h)) (v_X8_presentIn a0 σ)
theorem in_X8_count_X8 : ∀ w ∈ u_ws RX8 TX8 6, w ∈ wsX8_count := by decide +kernel
theorem wd_X8_count_1 : Cond.fieldLink RX8 10 "MainsWords" "now" "LMainsWords$Net;" ∈ wsX8_count := by decide +kernel
theorem fd_X8_count_10_X8 : FD RX8 10 wsX8_count 7 0 := ⟨RX8, "MainsWords", TX8, 6, rfl, in_X8_count_X8, by decide, wd_X8_count_1, Or.inl rfl⟩
theorem in_X8_count_X3 : ∀ w ∈ u_ws RX3 TX3 8, w ∈ wsX8_count := by decide +kernel
theorem wd_X8_count_4 : Cond.fieldLink RX8 167 "MainsWords$Net" "time" "I" ∈ wsX8_count := by decide +kernel
theorem fd_X8_count_167_X3 : FD RX8 167 wsX8_count 3 6 := ⟨RX3, "MainsWords$Net", TX3, 8, rfl, in_X8_count_X3, by decide, wd_X8_count_4, Or.inl rfl⟩
theorem wd_X8_count_6 : Cond.fieldLink RX8 254 "MainsWords$Net" "senders" "[LMainsWords$Sender;" ∈ wsX8_count := by decide +kernel
theorem fd_X8_count_254_X3 : FD RX8 254 wsX8_count 3 0 := ⟨RX3, "MainsWords$Net", TX3, 8, rfl, in_X8_count_X3, by decide, wd_X8_count_6, Or.inl rfl⟩
theorem wd_X8_count_8 : Cond.fieldLink RX8 262 "MainsWords$Net" "machines" "[LMainsWords$Machine;" ∈ wsX8_count := by decide +kernel
theorem fd_X8_count_262_X3 : FD RX8 262 wsX8_count 3 1 := ⟨RX3, "MainsWords$Net", TX3, 8, rfl, in_X8_count_X3, by decide, wd_X8_count_8, Or.inl rfl⟩
theorem wd_X8_count_10 : Cond.fieldLink RX8 266 "MainsWords$Net" "lamps" "[LMainsWords$Lamp;" ∈ wsX8_count := by decide +kernel
theorem fd_X8_count_266_X3 : FD RX8 266 wsX8_count 3 2 := ⟨RX3, "MainsWords$Net", TX3, 8, rfl, in_X8_count_X3, by decide, wd_X8_count_10, Or.inl rfl⟩
theorem wd_X8_count_12 : Cond.fieldLink RX8 121 "MainsWords$Net" "settings" "[I" ∈ wsX8_count := by decide +kernel
theorem fd_X8_count_121_X3 : FD RX8 121 wsX8_count 3 4 := ⟨RX3, "MainsWords$Net", TX3, 8, rfl, in_X8_count_X3, by decide, wd_X8_count_12, Or.inl rfl⟩
theorem wd_X8_count_14 : Cond.fieldLink RX8 29 "MainsWords" "history" "LMainsWords$History;" ∈ wsX8_count := by decide +kernel
theorem fd_X8_count_29_X8 : FD RX8 29 wsX8_count 7 4 := ⟨RX8, "MainsWords", TX8, 6, rfl, in_X8_count_X8, by decide, wd_X8_count_14, Or.inl rfl⟩
theorem in_X8_count_X0 : ∀ w ∈ u_ws RX0 TX0 2, w ∈ wsX8_count := by decide +kernel
theorem wd_X8_count_17 : Cond.fieldLink RX8 161 "MainsWords$History" "kept" "I" ∈ wsX8_count := by decide +kernel
theorem fd_X8_count_161_X0 : FD RX8 161 wsX8_count 0 1 := ⟨RX0, "MainsWords$History", TX0, 2, rfl, in_X8_count_X0, by decide, wd_X8_count_17, Or.inl rfl⟩
theorem wd_X8_count_19 : Cond.fieldLink RX8 36 "MainsWords" "script" "LMainsWords$Script;" ∈ wsX8_count := by decide +kernel
theorem fd_X8_count_36_X8 : FD RX8 36 wsX8_count 7 5 := ⟨RX8, "MainsWords", TX8, 6, rfl, in_X8_count_X8, by decide, wd_X8_count_19, Or.inl rfl⟩
theorem in_X8_count_X5 : ∀ w ∈ u_ws RX5 TX5 2, w ∈ wsX8_count := by decide +kernel
theorem wd_X8_count_22 : Cond.fieldLink RX8 136 "MainsWords$Script" "length" "I" ∈ wsX8_count := by decide +kernel
theorem fd_X8_count_136_X5 : FD RX8 136 wsX8_count 5 1 := ⟨RX5, "MainsWords$Script", TX5, 2, rfl, in_X8_count_X5, by decide, wd_X8_count_22, Or.inl rfl⟩
set_option maxRecDepth 100000 in
set_option maxHeartbeats 4000000 in
theorem v_X8_count {D : DG} {z0 : Nat} {l : Launch} : ∀ (a0 : Option Nat) (a1 : Int32) (σ : SG), V D z0 l RX8 cX8_count 2 wsX8_count (some .int) rmX8_count false tvI 0 [some (va_rf a0), some (.int a1)] [] σ 0 0 (m_X8_count a0 a1 σ) := by
  intro a0 a1 σ
  unfold m_X8_count
  refine V_iload_n (x := a1) dX8_count_0 rfl ?_
  refine V_table (x := a1) (tb := [(0, 68), (1, 76), (2, 87), (3, 98), (4, 109), (5, 117), (6, 125), (7, 133), (8, 143), (9, 153), (10, 163), (11, 173), (12, 181)]) (tgt := 189) dX8_count_1 (by decide) rfl (by decide) (List.forall_mem_cons.mpr ⟨?_, List.forall_mem_cons.mpr ⟨?_, List.forall_mem_cons.mpr ⟨?_, List.forall_mem_cons.mpr ⟨?_, List.forall_mem_cons.mpr ⟨?_, List.forall_mem_cons.mpr ⟨?_, List.forall_mem_cons.mpr ⟨?_, List.forall_mem_cons.mpr ⟨?_, List.forall_mem_cons.mpr ⟨?_, List.forall_mem_cons.mpr ⟨?_, List.forall_mem_cons.mpr ⟨?_, List.forall_mem_cons.mpr ⟨?_, List.forall_mem_cons.mpr ⟨?_, fun _ h => absurd h List.not_mem_nil⟩⟩⟩⟩⟩⟩⟩⟩⟩⟩⟩⟩⟩) ?_
  · dsimp only
    refine V_aload_n (x := a0) dX8_count_68 rfl ?_
    refine V_getR fd_X8_count_10_X8 dX8_count_69 (fun x1 => ?_)
    refine V_getI fd_X8_count_167_X3 dX8_count_72 (fun x2 => ?_)
    exact V_iret (fun _ => rfl) rfl (Nat.zero_le _) (Nat.zero_le _) dX8_count_75
  · dsimp only
    refine V_aload_n (x := a0) dX8_count_76 rfl ?_
    refine V_getR fd_X8_count_10_X8 dX8_count_77 (fun x3 => ?_)
    refine V_getR fd_X8_count_254_X3 dX8_count_80 (fun x4 => ?_)
    refine V_callS0 (As := [va_rf x4]) (st0 := []) (stI := [va_rf x4]) (t_X8_presentIn x4 σ) rfl (Nat.le_of_ble_eq_true rfl) rfl (fun s args hts => va_cwS 1 hts gX8_count_X8_presentIn rfl rfl rfl (by decide +kernel) ⟨Nat.le_of_ble_eq_true rfl, Nat.le_of_ble_eq_true rfl⟩) rfl rfl dX8_count_83 (fun r5 σ6 _ => ?_)
    exact V_iret (fun _ => rfl) rfl (Nat.zero_le _) (Nat.zero_le _) dX8_count_86
  · dsimp only
    refine V_aload_n (x := a0) dX8_count_87 rfl ?_
    refine V_getR fd_X8_count_10_X8 dX8_count_88 (fun x7 => ?_)
    refine V_getR fd_X8_count_262_X3 dX8_count_91 (fun x8 => ?_)
    refine V_callS0 (As := [va_rf x8]) (st0 := []) (stI := [va_rf x8]) (t_X8_presentIn x8 σ) rfl (Nat.le_of_ble_eq_true rfl) rfl (fun s args hts => va_cwS 1 hts gX8_count_X8_presentIn rfl rfl rfl (by decide +kernel) ⟨Nat.le_of_ble_eq_true rfl, Nat.le_of_ble_eq_true rfl⟩) rfl rfl dX8_count_94 (fun r9 σ10 _ => ?_)
    exact V_iret (fun _ => rfl) rfl (Nat.zero_le _) (Nat.zero_le _) dX8_count_97
  · dsimp only
    refine V_aload_n (x := a0) dX8_count_98 rfl ?_
    refine V_getR fd_X8_count_10_X8 dX8_count_99 (fun x11 => ?_)
    refine V_getR fd_X8_count_266_X3 dX8_count_102 (fun x12 => ?_)
    refine V_callS0 (As := [va_rf x12]) (st0 := []) (stI := [va_rf x12]) (t_X8_presentIn x12 σ) rfl (Nat.le_of_ble_eq_true rfl) rfl (fun s args hts => va_cwS 1 hts gX8_count_X8_presentIn rfl rfl rfl (by decide +kernel) ⟨Nat.le_of_ble_eq_true rfl, Nat.le_of_ble_eq_true rfl⟩) rfl rfl dX8_count_105 (fun r13 σ14 _ => ?_)
    exact V_iret (fun _ => rfl) rfl (Nat.zero_le _) (Nat.zero_le _) dX8_count_108
  · dsimp only
    refine V_aload_n (x := a0) dX8_count_109 rfl ?_
    refine V_getR fd_X8_count_10_X8 dX8_count_110 (fun x15 => ?_)
    refine V_callV0 (As := []) (st0 := []) (stI := [va_rf x15]) (fun _ h => by cases h; exact t_X3_speakingSenders _ σ) (q := (RX3, TX3, 8)) rfl rfl rfl (Nat.le_of_ble_eq_true rfl) rfl (fun s args hts => cwV 0 hts gX8_count_X3_speakingSenders rfl rfl rfl (by decide +kernel) ⟨Nat.le_of_ble_eq_true rfl, Nat.le_of_ble_eq_true rfl⟩) rfl rfl dX8_count_113 (fun r16 σ17 _ => ?_)
    exact V_iret (fun _ => rfl) rfl (Nat.zero_le _) (Nat.zero_le _) dX8_count_116
  · dsimp only
    refine V_aload_n (x := a0) dX8_count_117 rfl ?_
    refine V_getR fd_X8_count_10_X8 dX8_count_118 (fun x18 => ?_)
    refine V_callV0 (As := []) (st0 := []) (stI := [va_rf x18]) (fun _ h => by cases h; exact t_X3_queuedWords _ σ) (q := (RX3, TX3, 8)) rfl rfl rfl (Nat.le_of_ble_eq_true rfl) rfl (fun s args hts => cwV 0 hts gX8_count_X3_queuedWords rfl rfl rfl (by decide +kernel) ⟨Nat.le_of_ble_eq_true rfl, Nat.le_of_ble_eq_true rfl⟩) rfl rfl dX8_count_121 (fun r19 σ20 _ => ?_)
    exact V_iret (fun _ => rfl) rfl (Nat.zero_le _) (Nat.zero_le _) dX8_count_124
  · dsimp only
    refine V_aload_n (x := a0) dX8_count_125 rfl ?_
    refine V_getR fd_X8_count_10_X8 dX8_count_126 (fun x21 => ?_)
    refine V_callV0 (As := []) (st0 := []) (stI := [va_rf x21]) (fun _ h => by cases h; exact t_X3_litLamps _ σ) (q := (RX3, TX3, 8)) rfl rfl rfl (Nat.le_of_ble_eq_true rfl) rfl (fun s args hts => cwV 0 hts gX8_count_X3_litLamps rfl rfl rfl (by decide +kernel) ⟨Nat.le_of_ble_eq_true rfl, Nat.le_of_ble_eq_true rfl⟩) rfl rfl dX8_count_129 (fun r22 σ23 _ => ?_)
    exact V_iret (fun _ => rfl) rfl (Nat.zero_le _) (Nat.zero_le _) dX8_count_132
  · dsimp only
    refine V_aload_n (x := a0) dX8_count_133 rfl ?_
    refine V_getR fd_X8_count_10_X8 dX8_count_134 (fun x24 => ?_)
    refine V_getR fd_X8_count_121_X3 dX8_count_137 (fun x25 => ?_)
    refine V_iconst (v := (0 : Int32)) dX8_count_140 rfl ?_
    refine V_iaload dX8_count_141 (fun x26 => ?_)
    exact V_iret (fun _ => rfl) rfl (Nat.zero_le _) (Nat.zero_le _) dX8_count_142
  · dsimp only
    refine V_aload_n (x := a0) dX8_count_143 rfl ?_
    refine V_getR fd_X8_count_10_X8 dX8_count_144 (fun x27 => ?_)
    refine V_getR fd_X8_count_121_X3 dX8_count_147 (fun x28 => ?_)
    refine V_iconst (v := (1 : Int32)) dX8_count_150 rfl ?_
    refine V_iaload dX8_count_151 (fun x29 => ?_)
    exact V_iret (fun _ => rfl) rfl (Nat.zero_le _) (Nat.zero_le _) dX8_count_152
  · dsimp only
    refine V_aload_n (x := a0) dX8_count_153 rfl ?_
    refine V_getR fd_X8_count_10_X8 dX8_count_154 (fun x30 => ?_)
    refine V_getR fd_X8_count_121_X3 dX8_count_157 (fun x31 => ?_)
    refine V_iconst (v := (2 : Int32)) dX8_count_160 rfl ?_
    refine V_iaload dX8_count_161 (fun x32 => ?_)
    exact V_iret (fun _ => rfl) rfl (Nat.zero_le _) (Nat.zero_le _) dX8_count_162
  · dsimp only
    refine V_aload_n (x := a0) dX8_count_163 rfl ?_
    refine V_getR fd_X8_count_10_X8 dX8_count_164 (fun x33 => ?_)
    refine V_getR fd_X8_count_121_X3 dX8_count_167 (fun x34 => ?_)
    refine V_iconst (v := (3 : Int32)) dX8_count_170 rfl ?_
    refine V_iaload dX8_count_171 (fun x35 => ?_)
    exact V_iret (fun _ => rfl) rfl (Nat.zero_le _) (Nat.zero_le _) dX8_count_172
  · dsimp only
    refine V_aload_n (x := a0) dX8_count_173 rfl ?_
    refine V_getR fd_X8_count_29_X8 dX8_count_174 (fun x36 => ?_)
    refine V_getI fd_X8_count_161_X0 dX8_count_177 (fun x37 => ?_)
    exact V_iret (fun _ => rfl) rfl (Nat.zero_le _) (Nat.zero_le _) dX8_count_180
  · dsimp only
    refine V_aload_n (x := a0) dX8_count_181 rfl ?_
    refine V_getR fd_X8_count_36_X8 dX8_count_182 (fun x38 => ?_)
    refine V_getI fd_X8_count_136_X5 dX8_count_185 (fun x39 => ?_)
    exact V_iret (fun _ => rfl) rfl (Nat.zero_le _) (Nat.zero_le _) dX8_count_188
  · refine V_bipush (v := (-2 : Int32)) dX8_count_189 rfl ?_
    exact V_iret (fun _ => rfl) rfl (Nat.zero_le _) (Nat.zero_le _) dX8_count_191
theorem t_X8_count {D : DG} {z0 : Nat} {l : Launch} (a : Nat) (a1 : Int32) (σ : SG) : MT D z0 l yX8_count wsX8_count rmX8_count tvI [.ref a, .int a1] σ (m_X8_count (some a) a1 σ) :=
  MT.of (own := RX8) (cc := cX8_count) (nL := 2) (ret := (some .int)) (ct := false) (by decide) rfl rfl (fun h => by cases h) (Nat.le_of_ble_eq_true rfl) (by intro v hv; simp only [List.mem_cons, List.not_mem_nil, or_false] at hv; first | (rcases hv with rfl | rfl <;> first | rfl | exact va_rf_cat _) | exact absurd hv (fun h => h)) (v_X8_count (some a) a1 σ)
theorem in_X8_total_X8 : ∀ w ∈ u_ws RX8 TX8 6, w ∈ wsX8_total := by decide +kernel
theorem wd_X8_total_1 : Cond.fieldLink RX8 10 "MainsWords" "now" "LMainsWords$Net;" ∈ wsX8_total := by decide +kernel
theorem fd_X8_total_10_X8 : FD RX8 10 wsX8_total 7 0 := ⟨RX8, "MainsWords", TX8, 6, rfl, in_X8_total_X8, by decide, wd_X8_total_1, Or.inl rfl⟩
theorem in_X8_total_X3 : ∀ w ∈ u_ws RX3 TX3 8, w ∈ wsX8_total := by decide +kernel
theorem wd_X8_total_4 : Cond.fieldLink RX8 279 "MainsWords$Net" "totals" "[I" ∈ wsX8_total := by decide +kernel
theorem fd_X8_total_279_X3 : FD RX8 279 wsX8_total 3 5 := ⟨RX3, "MainsWords$Net", TX3, 8, rfl, in_X8_total_X3, by decide, wd_X8_total_4, Or.inl rfl⟩
set_option maxRecDepth 100000 in
set_option maxHeartbeats 4000000 in
theorem v_X8_total {D : DG} {z0 : Nat} {l : Launch} : ∀ (a0 : Option Nat) (a1 : Int32) (σ : SG), V D z0 l RX8 cX8_total 2 wsX8_total (some .int) rmX8_total false tvI 0 [some (va_rf a0), some (.int a1)] [] σ 0 0 (m_X8_total a0 a1 σ) := by
  intro a0 a1 σ
  unfold m_X8_total
  refine V_iload_n (x := a1) dX8_total_0 rfl ?_
  refine V_if_lt (tgt := 9) (x := a1) dX8_total_1 (by decide) (fun hc1 => ?_) (fun hc1 => ?_)
  · refine V_bipush (v := (-2 : Int32)) dX8_total_9 rfl ?_
    exact V_iret (fun _ => rfl) rfl (Nat.zero_le _) (Nat.zero_le _) dX8_total_11
  · refine V_iload_n (x := a1) dX8_total_4 rfl ?_
    refine V_iconst (v := (5 : Int32)) dX8_total_5 rfl ?_
    refine V_icmp_lt (tgt := 12) (x := a1) (y := (5 : Int32)) dX8_total_6 (by decide) (fun hc2 => ?_) (fun hc2 => ?_)
    · refine V_aload_n (x := a0) dX8_total_12 rfl ?_
      refine V_getR fd_X8_total_10_X8 dX8_total_13 (fun x3 => ?_)
      refine V_getR fd_X8_total_279_X3 dX8_total_16 (fun x4 => ?_)
      refine V_iload_n (x := a1) dX8_total_19 rfl ?_
      refine V_iaload dX8_total_20 (fun x5 => ?_)
      exact V_iret (fun _ => rfl) rfl (Nat.zero_le _) (Nat.zero_le _) dX8_total_21
    · refine V_bipush (v := (-2 : Int32)) dX8_total_9 rfl ?_
      exact V_iret (fun _ => rfl) rfl (Nat.zero_le _) (Nat.zero_le _) dX8_total_11
theorem t_X8_total {D : DG} {z0 : Nat} {l : Launch} (a : Nat) (a1 : Int32) (σ : SG) : MT D z0 l yX8_total wsX8_total rmX8_total tvI [.ref a, .int a1] σ (m_X8_total (some a) a1 σ) :=
  MT.of (own := RX8) (cc := cX8_total) (nL := 2) (ret := (some .int)) (ct := false) (by decide) rfl rfl (fun h => by cases h) (Nat.le_of_ble_eq_true rfl) (by intro v hv; simp only [List.mem_cons, List.not_mem_nil, or_false] at hv; first | (rcases hv with rfl | rfl <;> first | rfl | exact va_rf_cat _) | exact absurd hv (fun h => h)) (v_X8_total (some a) a1 σ)
theorem in_X8_silentIn_X8 : ∀ w ∈ u_ws RX8 TX8 6, w ∈ wsX8_silentIn := by decide +kernel
theorem wd_X8_silentIn_1 : Cond.fieldLink RX8 16 "MainsWords" "ahead" "LMainsWords$Net;" ∈ wsX8_silentIn := by decide +kernel
theorem fd_X8_silentIn_16_X8 : FD RX8 16 wsX8_silentIn 7 1 := ⟨RX8, "MainsWords", TX8, 6, rfl, in_X8_silentIn_X8, by decide, wd_X8_silentIn_1, Or.inl rfl⟩
theorem wd_X8_silentIn_3 : Cond.fieldLink RX8 10 "MainsWords" "now" "LMainsWords$Net;" ∈ wsX8_silentIn := by decide +kernel
theorem fd_X8_silentIn_10_X8 : FD RX8 10 wsX8_silentIn 7 0 := ⟨RX8, "MainsWords", TX8, 6, rfl, in_X8_silentIn_X8, by decide, wd_X8_silentIn_3, Or.inl rfl⟩
set_option maxRecDepth 100000 in
set_option maxHeartbeats 4000000 in
theorem v_X8_silentIn_B13 {D : DG} {z0 : Nat} {l : Launch} {rec13 : Option Nat → Int32 → SG → Option (Int32 × SG)} (hrec13 : ∀ (v0 : Option Nat) (v1 : Int32) (σ : SG), V D z0 l RX8 cX8_silentIn 2 wsX8_silentIn (some .int) rmX8_silentIn false tvI 13 [some (va_rf v0), some (.int v1)] [] σ 0 0 (rec13 v0 v1 σ)) : ∀ (v0 : Option Nat) (v1 : Int32) (σ : SG), V D z0 l RX8 cX8_silentIn 2 wsX8_silentIn (some .int) rmX8_silentIn false tvI 13 [some (va_rf v0), some (.int v1)] [] σ 0 0 (m_X8_silentIn_B13 rec13 v0 v1 σ) := by
  intro v0 v1 σ
  unfold m_X8_silentIn_B13
  refine V_iload_n (x := v1) dX8_silentIn_13 rfl ?_
  refine V_sipush (v := (600 : Int32)) dX8_silentIn_14 rfl ?_
  refine V_icmp_gt (tgt := 46) (x := v1) (y := (600 : Int32)) dX8_silentIn_17 (by decide) (fun hc1 => ?_) (fun hc1 => ?_)
  · refine V_bipush (v := (-5 : Int32)) dX8_silentIn_46 rfl ?_
    exact V_iret (fun _ => rfl) rfl (Nat.zero_le _) (Nat.zero_le _) dX8_silentIn_48
  · refine V_aload_n (x := v0) dX8_silentIn_20 rfl ?_
    refine V_getR fd_X8_silentIn_16_X8 dX8_silentIn_21 (fun x2 => ?_)
    refine V_callV0 (As := []) (st0 := []) (stI := [va_rf x2]) (fun _ h => by cases h; exact t_X3_queuedWords _ σ) (q := (RX3, TX3, 8)) rfl rfl rfl (Nat.le_of_ble_eq_true rfl) rfl (fun s args hts => cwV 0 hts gX8_silentIn_X3_queuedWords rfl rfl rfl (by decide +kernel) ⟨Nat.le_of_ble_eq_true rfl, Nat.le_of_ble_eq_true rfl⟩) rfl rfl dX8_silentIn_24 (fun r3 σ4 _ => ?_)
    refine V_if_ne (tgt := 32) (x := r3) dX8_silentIn_27 (by decide) (fun hc5 => ?_) (fun hc5 => ?_)
    · refine V_iload_n (x := v1) dX8_silentIn_30 rfl ?_
      exact V_iret (fun _ => rfl) rfl (Nat.zero_le _) (Nat.zero_le _) dX8_silentIn_31
    · refine V_aload_n (x := v0) dX8_silentIn_32 rfl ?_
      refine V_getR fd_X8_silentIn_16_X8 dX8_silentIn_33 (fun x6 => ?_)
      refine V_callV0 (As := []) (st0 := []) (stI := [va_rf x6]) (fun _ h => by cases h; exact t_X3_beat _ σ4) (q := (RX3, TX3, 8)) rfl rfl rfl (Nat.le_of_ble_eq_true rfl) rfl (fun s args hts => cwV 0 hts gX8_silentIn_X3_beat rfl rfl rfl (by decide +kernel) ⟨Nat.le_of_ble_eq_true rfl, Nat.le_of_ble_eq_true rfl⟩) rfl rfl dX8_silentIn_36 (fun r7 σ8 _ => ?_)
      refine V_pop dX8_silentIn_39 rfl ?_
      refine V_iinc (x := v1) (v := (v1 + 1)) (ls' := [some (va_rf v0), some (.int (v1 + 1))]) dX8_silentIn_40 rfl rfl (by decide) rfl ?_
      refine V_goto (tgt := 13) dX8_silentIn_43 (by decide) ?_
      exact hrec13 v0 ((v1 + 1)) σ8
theorem v_X8_silentIn_L13 {D : DG} {z0 : Nat} {l : Launch} : ∀ (n : Nat) (v0 : Option Nat) (v1 : Int32) (σ : SG), V D z0 l RX8 cX8_silentIn 2 wsX8_silentIn (some .int) rmX8_silentIn false tvI 13 [some (va_rf v0), some (.int v1)] [] σ 0 0 (m_X8_silentIn_L13 n v0 v1 σ) := by
  intro n
  induction n with
  | zero => intros; exact V_none
  | succ n ih => exact v_X8_silentIn_B13  ih
set_option maxRecDepth 100000 in
set_option maxHeartbeats 4000000 in
theorem v_X8_silentIn {D : DG} {z0 : Nat} {l : Launch} : ∀ (a0 : Option Nat) (σ : SG), V D z0 l RX8 cX8_silentIn 2 wsX8_silentIn (some .int) rmX8_silentIn false tvI 0 [some (va_rf a0), none] [] σ 0 0 (m_X8_silentIn a0 σ) := by
  intro a0 σ
  unfold m_X8_silentIn
  refine V_aload_n (x := a0) dX8_silentIn_0 rfl ?_
  refine V_getR fd_X8_silentIn_16_X8 dX8_silentIn_1 (fun x9 => ?_)
  refine V_aload_n (x := a0) dX8_silentIn_4 rfl ?_
  refine V_getR fd_X8_silentIn_10_X8 dX8_silentIn_5 (fun x10 => ?_)
  refine V_callV0 (As := [va_rf x10]) (st0 := []) (stI := [va_rf x10, va_rf x9]) (fun _ h => by cases h; exact t_X3_copyFrom _ x10 σ) (q := (RX3, TX3, 8)) rfl rfl rfl (Nat.le_of_ble_eq_true rfl) rfl (fun s args hts => cwV 1 hts gX8_silentIn_X3_copyFrom rfl rfl rfl (by decide +kernel) ⟨Nat.le_of_ble_eq_true rfl, Nat.le_of_ble_eq_true rfl⟩) rfl rfl dX8_silentIn_8 (fun _ σ11 _ => ?_)
  refine V_iconst (v := (0 : Int32)) dX8_silentIn_11 rfl ?_
  refine V_istore_n (x := (0 : Int32)) (ls' := [some (va_rf a0), some (.int (0 : Int32))]) dX8_silentIn_12 (by decide) rfl ?_
  exact v_X8_silentIn_L13  1000 a0 ((0 : Int32)) σ11
theorem t_X8_silentIn {D : DG} {z0 : Nat} {l : Launch} (a : Nat)  (σ : SG) : MT D z0 l yX8_silentIn wsX8_silentIn rmX8_silentIn tvI [.ref a] σ (m_X8_silentIn (some a) σ) :=
  MT.of (own := RX8) (cc := cX8_silentIn) (nL := 2) (ret := (some .int)) (ct := false) (by decide) rfl rfl (fun h => by cases h) (Nat.le_of_ble_eq_true rfl) (by intro v hv; simp only [List.mem_cons, List.not_mem_nil, or_false] at hv; first | (rcases hv with rfl <;> first | rfl | exact va_rf_cat _) | exact absurd hv (fun h => h)) (v_X8_silentIn (some a) σ)
theorem in_X8_levelIn_X8 : ∀ w ∈ u_ws RX8 TX8 6, w ∈ wsX8_levelIn := by decide +kernel
theorem wd_X8_levelIn_1 : Cond.fieldLink RX8 10 "MainsWords" "now" "LMainsWords$Net;" ∈ wsX8_levelIn := by decide +kernel
theorem fd_X8_levelIn_10_X8 : FD RX8 10 wsX8_levelIn 7 0 := ⟨RX8, "MainsWords", TX8, 6, rfl, in_X8_levelIn_X8, by decide, wd_X8_levelIn_1, Or.inl rfl⟩
theorem wd_X8_levelIn_3 : Cond.fieldLink RX8 16 "MainsWords" "ahead" "LMainsWords$Net;" ∈ wsX8_levelIn := by decide +kernel
theorem fd_X8_levelIn_16_X8 : FD RX8 16 wsX8_levelIn 7 1 := ⟨RX8, "MainsWords", TX8, 6, rfl, in_X8_levelIn_X8, by decide, wd_X8_levelIn_3, Or.inl rfl⟩
theorem in_X8_levelIn_X1 : ∀ w ∈ u_ws RX1 TX1 7, w ∈ wsX8_levelIn := by decide +kernel
theorem wd_X8_levelIn_6 : Cond.fieldLink RX8 215 "MainsWords$Lamp" "level" "I" ∈ wsX8_levelIn := by decide +kernel
theorem fd_X8_levelIn_215_X1 : FD RX8 215 wsX8_levelIn 1 5 := ⟨RX1, "MainsWords$Lamp", TX1, 7, rfl, in_X8_levelIn_X1, by decide, wd_X8_levelIn_6, Or.inl rfl⟩
set_option maxRecDepth 100000 in
set_option maxHeartbeats 4000000 in
theorem v_X8_levelIn {D : DG} {z0 : Nat} {l : Launch} : ∀ (a0 : Option Nat) (a1 : Int32) (a2 : Int32) (σ : SG), V D z0 l RX8 cX8_levelIn 4 wsX8_levelIn (some .int) rmX8_levelIn false tvI 0 [some (va_rf a0), some (.int a1), some (.int a2), none] [] σ 0 0 (m_X8_levelIn a0 a1 a2 σ) := by
  intro a0 a1 a2 σ
  unfold m_X8_levelIn
  refine V_aload_n (x := a0) dX8_levelIn_0 rfl ?_
  refine V_getR fd_X8_levelIn_10_X8 dX8_levelIn_1 (fun x1 => ?_)
  refine V_iload_n (x := a1) dX8_levelIn_4 rfl ?_
  refine V_callV0 (As := [.int a1]) (st0 := []) (stI := [.int a1, va_rf x1]) (fun _ h => by cases h; exact t_X3_lampAt _ a1 σ) (q := (RX3, TX3, 8)) rfl rfl rfl (Nat.le_of_ble_eq_true rfl) rfl (fun s args hts => cwV 1 hts gX8_levelIn_X3_lampAt rfl rfl rfl (by decide +kernel) ⟨Nat.le_of_ble_eq_true rfl, Nat.le_of_ble_eq_true rfl⟩) rfl rfl dX8_levelIn_5 (fun r2 σ3 _ => ?_)
  refine V_ifnonnull (tgt := 13) (x := r2) dX8_levelIn_8 (by decide) (fun hc4 => ?_) (fun hc4 => ?_)
  · refine V_iconst (v := (-1 : Int32)) dX8_levelIn_11 rfl ?_
    exact V_iret (fun _ => rfl) rfl (Nat.zero_le _) (Nat.zero_le _) dX8_levelIn_12
  · refine V_iload_n (x := a2) dX8_levelIn_13 rfl ?_
    refine V_if_lt (tgt := 24) (x := a2) dX8_levelIn_14 (by decide) (fun hc5 => ?_) (fun hc5 => ?_)
    · refine V_bipush (v := (-2 : Int32)) dX8_levelIn_24 rfl ?_
      exact V_iret (fun _ => rfl) rfl (Nat.zero_le _) (Nat.zero_le _) dX8_levelIn_26
    · refine V_iload_n (x := a2) dX8_levelIn_17 rfl ?_
      refine V_sipush (v := (400 : Int32)) dX8_levelIn_18 rfl ?_
      refine V_icmp_le (tgt := 27) (x := a2) (y := (400 : Int32)) dX8_levelIn_21 (by decide) (fun hc6 => ?_) (fun hc6 => ?_)
      · refine V_aload_n (x := a0) dX8_levelIn_27 rfl ?_
        refine V_getR fd_X8_levelIn_16_X8 dX8_levelIn_28 (fun x7 => ?_)
        refine V_aload_n (x := a0) dX8_levelIn_31 rfl ?_
        refine V_getR fd_X8_levelIn_10_X8 dX8_levelIn_32 (fun x8 => ?_)
        refine V_callV0 (As := [va_rf x8]) (st0 := []) (stI := [va_rf x8, va_rf x7]) (fun _ h => by cases h; exact t_X3_copyFrom _ x8 σ3) (q := (RX3, TX3, 8)) rfl rfl rfl (Nat.le_of_ble_eq_true rfl) rfl (fun s args hts => cwV 1 hts gX8_levelIn_X3_copyFrom rfl rfl rfl (by decide +kernel) ⟨Nat.le_of_ble_eq_true rfl, Nat.le_of_ble_eq_true rfl⟩) rfl rfl dX8_levelIn_35 (fun _ σ9 _ => ?_)
        refine V_aload_n (x := a0) dX8_levelIn_38 rfl ?_
        refine V_getR fd_X8_levelIn_16_X8 dX8_levelIn_39 (fun x10 => ?_)
        refine V_iload_n (x := a2) dX8_levelIn_42 rfl ?_
        refine V_callV0 (As := [.int a2]) (st0 := []) (stI := [.int a2, va_rf x10]) (fun _ h => by cases h; exact t_X3_letPass _ a2 σ9) (q := (RX3, TX3, 8)) rfl rfl rfl (Nat.le_of_ble_eq_true rfl) rfl (fun s args hts => cwV 1 hts gX8_levelIn_X3_letPass rfl rfl rfl (by decide +kernel) ⟨Nat.le_of_ble_eq_true rfl, Nat.le_of_ble_eq_true rfl⟩) rfl rfl dX8_levelIn_43 (fun r11 σ12 _ => ?_)
        refine V_pop dX8_levelIn_46 rfl ?_
        refine V_aload_n (x := a0) dX8_levelIn_47 rfl ?_
        refine V_getR fd_X8_levelIn_16_X8 dX8_levelIn_48 (fun x13 => ?_)
        refine V_iload_n (x := a1) dX8_levelIn_51 rfl ?_
        refine V_callV0 (As := [.int a1]) (st0 := []) (stI := [.int a1, va_rf x13]) (fun _ h => by cases h; exact t_X3_lampAt _ a1 σ12) (q := (RX3, TX3, 8)) rfl rfl rfl (Nat.le_of_ble_eq_true rfl) rfl (fun s args hts => cwV 1 hts gX8_levelIn_X3_lampAt rfl rfl rfl (by decide +kernel) ⟨Nat.le_of_ble_eq_true rfl, Nat.le_of_ble_eq_true rfl⟩) rfl rfl dX8_levelIn_52 (fun r14 σ15 _ => ?_)
        refine V_astore_n (x := r14) (ls' := [some (va_rf a0), some (.int a1), some (.int a2), some (va_rf r14)]) dX8_levelIn_55 (by decide) rfl ?_
        refine V_aload_n (x := r14) dX8_levelIn_56 rfl ?_
        refine V_ifnonnull (tgt := 64) (x := r14) dX8_levelIn_57 (by decide) (fun hc16 => ?_) (fun hc16 => ?_)
        · refine V_iconst (v := (-1 : Int32)) dX8_levelIn_60 rfl ?_
          refine V_goto (tgt := 68) dX8_levelIn_61 (by decide) ?_
          exact V_iret (fun _ => rfl) rfl (Nat.zero_le _) (Nat.zero_le _) dX8_levelIn_68
        · refine V_aload_n (x := r14) dX8_levelIn_64 rfl ?_
          refine V_getI fd_X8_levelIn_215_X1 dX8_levelIn_65 (fun x17 => ?_)
          exact V_iret (fun _ => rfl) rfl (Nat.zero_le _) (Nat.zero_le _) dX8_levelIn_68
      · refine V_bipush (v := (-2 : Int32)) dX8_levelIn_24 rfl ?_
        exact V_iret (fun _ => rfl) rfl (Nat.zero_le _) (Nat.zero_le _) dX8_levelIn_26
theorem t_X8_levelIn {D : DG} {z0 : Nat} {l : Launch} (a : Nat) (a1 : Int32) (a2 : Int32) (σ : SG) : MT D z0 l yX8_levelIn wsX8_levelIn rmX8_levelIn tvI [.ref a, .int a1, .int a2] σ (m_X8_levelIn (some a) a1 a2 σ) :=
  MT.of (own := RX8) (cc := cX8_levelIn) (nL := 4) (ret := (some .int)) (ct := false) (by decide) rfl rfl (fun h => by cases h) (Nat.le_of_ble_eq_true rfl) (by intro v hv; simp only [List.mem_cons, List.not_mem_nil, or_false] at hv; first | (rcases hv with rfl | rfl | rfl <;> first | rfl | exact va_rf_cat _) | exact absurd hv (fun h => h)) (v_X8_levelIn (some a) a1 a2 σ)
theorem in_X8_freshness_X8 : ∀ w ∈ u_ws RX8 TX8 6, w ∈ wsX8_freshness := by decide +kernel
theorem wd_X8_freshness_1 : Cond.fieldLink RX8 10 "MainsWords" "now" "LMainsWords$Net;" ∈ wsX8_freshness := by decide +kernel
theorem fd_X8_freshness_10_X8 : FD RX8 10 wsX8_freshness 7 0 := ⟨RX8, "MainsWords", TX8, 6, rfl, in_X8_freshness_X8, by decide, wd_X8_freshness_1, Or.inl rfl⟩
theorem in_X8_freshness_X3 : ∀ w ∈ u_ws RX3 TX3 8, w ∈ wsX8_freshness := by decide +kernel
theorem wd_X8_freshness_4 : Cond.fieldLink RX8 279 "MainsWords$Net" "totals" "[I" ∈ wsX8_freshness := by decide +kernel
theorem fd_X8_freshness_279_X3 : FD RX8 279 wsX8_freshness 3 5 := ⟨RX3, "MainsWords$Net", TX3, 8, rfl, in_X8_freshness_X3, by decide, wd_X8_freshness_4, Or.inl rfl⟩
set_option maxRecDepth 100000 in
set_option maxHeartbeats 4000000 in
theorem v_X8_freshness {D : DG} {z0 : Nat} {l : Launch} : ∀ (a0 : Option Nat) (σ : SG), V D z0 l RX8 cX8_freshness 2 wsX8_freshness (some .float) rmX8_freshness false tvF 0 [some (va_rf a0), none] [] σ 0 0 (m_X8_freshness a0 σ) := by
  intro a0 σ
  unfold m_X8_freshness
  refine V_aload_n (x := a0) dX8_freshness_0 rfl ?_
  refine V_getR fd_X8_freshness_10_X8 dX8_freshness_1 (fun x1 => ?_)
  refine V_getR fd_X8_freshness_279_X3 dX8_freshness_4 (fun x2 => ?_)
  refine V_iconst (v := (2 : Int32)) dX8_freshness_7 rfl ?_
  refine V_iaload dX8_freshness_8 (fun x3 => ?_)
  refine V_aload_n (x := a0) dX8_freshness_9 rfl ?_
  refine V_getR fd_X8_freshness_10_X8 dX8_freshness_10 (fun x4 => ?_)
  refine V_getR fd_X8_freshness_279_X3 dX8_freshness_13 (fun x5 => ?_)
  refine V_iconst (v := (3 : Int32)) dX8_freshness_16 rfl ?_
  refine V_iaload dX8_freshness_17 (fun x6 => ?_)
  refine V_iadd (x := x3) (y := x6) dX8_freshness_18 ?_
  refine V_aload_n (x := a0) dX8_freshness_19 rfl ?_
  refine V_getR fd_X8_freshness_10_X8 dX8_freshness_20 (fun x7 => ?_)
  refine V_getR fd_X8_freshness_279_X3 dX8_freshness_23 (fun x8 => ?_)
  refine V_iconst (v := (4 : Int32)) dX8_freshness_26 rfl ?_
  refine V_iaload dX8_freshness_27 (fun x9 => ?_)
  refine V_iadd (x := (x3 + x6)) (y := x9) dX8_freshness_28 ?_
  refine V_istore_n (x := ((x3 + x6) + x9)) (ls' := [some (va_rf a0), some (.int ((x3 + x6) + x9))]) dX8_freshness_29 (by decide) rfl ?_
  refine V_iload_n (x := ((x3 + x6) + x9)) dX8_freshness_30 rfl ?_
  refine V_if_ne (tgt := 36) (x := ((x3 + x6) + x9)) dX8_freshness_31 (by decide) (fun hc10 => ?_) (fun hc10 => ?_)
  · refine V_fconst0 dX8_freshness_34 ?_
    exact V_fret (fun _ => rfl) rfl (Nat.zero_le _) (Nat.zero_le _) dX8_freshness_35
  · refine V_aload_n (x := a0) dX8_freshness_36 rfl ?_
    refine V_getR fd_X8_freshness_10_X8 dX8_freshness_37 (fun x11 => ?_)
    refine V_getR fd_X8_freshness_279_X3 dX8_freshness_40 (fun x12 => ?_)
    refine V_iconst (v := (2 : Int32)) dX8_freshness_43 rfl ?_
    refine V_iaload dX8_freshness_44 (fun x13 => ?_)
    refine V_i2f (x := x13) dX8_freshness_45 ?_
    refine V_iload_n (x := ((x3 + x6) + x9)) dX8_freshness_46 rfl ?_
    refine V_i2f (x := ((x3 + x6) + x9)) dX8_freshness_47 ?_
    refine V_fdiv dX8_freshness_48 (fun f14 => ?_)
    exact V_fret (fun _ => rfl) rfl (Nat.zero_le _) (Nat.zero_le _) dX8_freshness_49
theorem t_X8_freshness {D : DG} {z0 : Nat} {l : Launch} (a : Nat)  (σ : SG) : MT D z0 l yX8_freshness wsX8_freshness rmX8_freshness tvF [.ref a] σ (m_X8_freshness (some a) σ) :=
  MT.of (own := RX8) (cc := cX8_freshness) (nL := 2) (ret := (some .float)) (ct := false) (by decide) rfl rfl (fun h => by cases h) (Nat.le_of_ble_eq_true rfl) (by intro v hv; simp only [List.mem_cons, List.not_mem_nil, or_false] at hv; first | (rcases hv with rfl <;> first | rfl | exact va_rf_cat _) | exact absurd hv (fun h => h)) (v_X8_freshness (some a) σ)
set_option maxRecDepth 100000 in
set_option maxHeartbeats 4000000 in
theorem v_L_areThings_b453 {D : DG} {z0 : Nat} {l : Launch} : ∀ (v0 : Option Nat) (v1 : Int32) (v2 : Int32) (v3 : Int32) (v4 : Int32) (v5 : Int32) (v6 : Int32) (v7 : Int32) (σ : SG), V D z0 l RL cL_areThings 13 wsL_areThings (some .boolean) rmL_areThings false tvI 453 [some (va_rf v0), some (.int v1), some (.int v2), some (.int v3), some (.int v4), some (.int v5), some (.int v6), some (.int v7), none, none, none, none, none] [] σ 0 0 (m_L_areThings_b453 v0 v1 v2 v3 v4 v5 v6 v7 σ) := by
  intro v0 v1 v2 v3 v4 v5 v6 v7 σ
  unfold m_L_areThings_b453
  refine V_iload (x := v7) dL_areThings_453 rfl ?_
  refine V_if_eq (tgt := 520) (x := v7) dL_areThings_455 (by decide) (fun hc1 => ?_) (fun hc1 => ?_)
  · refine V_iconst (v := (0 : Int32)) dL_areThings_520 rfl ?_
    exact V_zret (fun _ => rfl) rfl (Nat.zero_le _) (Nat.zero_le _) dL_areThings_521
  · refine V_iload_n (x := v1) dL_areThings_458 rfl ?_
    refine V_aload_n (x := v0) dL_areThings_459 rfl ?_
    refine V_iconst (v := (1 : Int32)) dL_areThings_460 rfl ?_
    refine V_callV0 (As := [.int (1 : Int32)]) (st0 := [.int v1]) (stI := [.int (1 : Int32), va_rf v0, .int v1]) (fun _ h => by cases h; exact t_X8_count _ (1 : Int32) σ) (q := (RX8, TX8, 6)) rfl rfl rfl (Nat.le_of_ble_eq_true rfl) rfl (fun s args hts => cwV 1 hts gL_areThings_X8_count rfl rfl rfl (by decide +kernel) ⟨Nat.le_of_ble_eq_true rfl, Nat.le_of_ble_eq_true rfl⟩) rfl rfl dL_areThings_461 (fun r2 σ3 _ => ?_)
    refine V_icmp_ne (tgt := 520) (x := v1) (y := r2) dL_areThings_464 (by decide) (fun hc4 => ?_) (fun hc4 => ?_)
    · refine V_iload (x := v4) dL_areThings_467 rfl ?_
      refine V_aload_n (x := v0) dL_areThings_469 rfl ?_
      refine V_iconst (v := (2 : Int32)) dL_areThings_470 rfl ?_
      refine V_callV0 (As := [.int (2 : Int32)]) (st0 := [.int v4]) (stI := [.int (2 : Int32), va_rf v0, .int v4]) (fun _ h => by cases h; exact t_X8_count _ (2 : Int32) σ3) (q := (RX8, TX8, 6)) rfl rfl rfl (Nat.le_of_ble_eq_true rfl) rfl (fun s args hts => cwV 1 hts gL_areThings_X8_count rfl rfl rfl (by decide +kernel) ⟨Nat.le_of_ble_eq_true rfl, Nat.le_of_ble_eq_true rfl⟩) rfl rfl dL_areThings_471 (fun r5 σ6 _ => ?_)
      refine V_icmp_ne (tgt := 520) (x := v4) (y := r5) dL_areThings_474 (by decide) (fun hc7 => ?_) (fun hc7 => ?_)
      · refine V_iload (x := v5) dL_areThings_477 rfl ?_
        refine V_aload_n (x := v0) dL_areThings_479 rfl ?_
        refine V_iconst (v := (3 : Int32)) dL_areThings_480 rfl ?_
        refine V_callV0 (As := [.int (3 : Int32)]) (st0 := [.int v5]) (stI := [.int (3 : Int32), va_rf v0, .int v5]) (fun _ h => by cases h; exact t_X8_count _ (3 : Int32) σ6) (q := (RX8, TX8, 6)) rfl rfl rfl (Nat.le_of_ble_eq_true rfl) rfl (fun s args hts => cwV 1 hts gL_areThings_X8_count rfl rfl rfl (by decide +kernel) ⟨Nat.le_of_ble_eq_true rfl, Nat.le_of_ble_eq_true rfl⟩) rfl rfl dL_areThings_481 (fun r8 σ9 _ => ?_)
        refine V_icmp_ne (tgt := 520) (x := v5) (y := r8) dL_areThings_484 (by decide) (fun hc10 => ?_) (fun hc10 => ?_)
        · refine V_iload_n (x := v2) dL_areThings_487 rfl ?_
          refine V_aload_n (x := v0) dL_areThings_488 rfl ?_
          refine V_iconst (v := (4 : Int32)) dL_areThings_489 rfl ?_
          refine V_callV0 (As := [.int (4 : Int32)]) (st0 := [.int v2]) (stI := [.int (4 : Int32), va_rf v0, .int v2]) (fun _ h => by cases h; exact t_X8_count _ (4 : Int32) σ9) (q := (RX8, TX8, 6)) rfl rfl rfl (Nat.le_of_ble_eq_true rfl) rfl (fun s args hts => cwV 1 hts gL_areThings_X8_count rfl rfl rfl (by decide +kernel) ⟨Nat.le_of_ble_eq_true rfl, Nat.le_of_ble_eq_true rfl⟩) rfl rfl dL_areThings_490 (fun r11 σ12 _ => ?_)
          refine V_icmp_ne (tgt := 520) (x := v2) (y := r11) dL_areThings_493 (by decide) (fun hc13 => ?_) (fun hc13 => ?_)
          · refine V_iload_n (x := v3) dL_areThings_496 rfl ?_
            refine V_aload_n (x := v0) dL_areThings_497 rfl ?_
            refine V_iconst (v := (5 : Int32)) dL_areThings_498 rfl ?_
            refine V_callV0 (As := [.int (5 : Int32)]) (st0 := [.int v3]) (stI := [.int (5 : Int32), va_rf v0, .int v3]) (fun _ h => by cases h; exact t_X8_count _ (5 : Int32) σ12) (q := (RX8, TX8, 6)) rfl rfl rfl (Nat.le_of_ble_eq_true rfl) rfl (fun s args hts => cwV 1 hts gL_areThings_X8_count rfl rfl rfl (by decide +kernel) ⟨Nat.le_of_ble_eq_true rfl, Nat.le_of_ble_eq_true rfl⟩) rfl rfl dL_areThings_499 (fun r14 σ15 _ => ?_)
            refine V_icmp_ne (tgt := 520) (x := v3) (y := r14) dL_areThings_502 (by decide) (fun hc16 => ?_) (fun hc16 => ?_)
            · refine V_iload (x := v6) dL_areThings_505 rfl ?_
              refine V_aload_n (x := v0) dL_areThings_507 rfl ?_
              refine V_bipush (v := (6 : Int32)) dL_areThings_508 rfl ?_
              refine V_callV0 (As := [.int (6 : Int32)]) (st0 := [.int v6]) (stI := [.int (6 : Int32), va_rf v0, .int v6]) (fun _ h => by cases h; exact t_X8_count _ (6 : Int32) σ15) (q := (RX8, TX8, 6)) rfl rfl rfl (Nat.le_of_ble_eq_true rfl) rfl (fun s args hts => cwV 1 hts gL_areThings_X8_count rfl rfl rfl (by decide +kernel) ⟨Nat.le_of_ble_eq_true rfl, Nat.le_of_ble_eq_true rfl⟩) rfl rfl dL_areThings_510 (fun r17 σ18 _ => ?_)
              refine V_icmp_ne (tgt := 520) (x := v6) (y := r17) dL_areThings_513 (by decide) (fun hc19 => ?_) (fun hc19 => ?_)
              · refine V_iconst (v := (1 : Int32)) dL_areThings_516 rfl ?_
                refine V_goto (tgt := 521) dL_areThings_517 (by decide) ?_
                exact V_zret (fun _ => rfl) rfl (Nat.zero_le _) (Nat.zero_le _) dL_areThings_521
              · refine V_iconst (v := (0 : Int32)) dL_areThings_520 rfl ?_
                exact V_zret (fun _ => rfl) rfl (Nat.zero_le _) (Nat.zero_le _) dL_areThings_521
            · refine V_iconst (v := (0 : Int32)) dL_areThings_520 rfl ?_
              exact V_zret (fun _ => rfl) rfl (Nat.zero_le _) (Nat.zero_le _) dL_areThings_521
          · refine V_iconst (v := (0 : Int32)) dL_areThings_520 rfl ?_
            exact V_zret (fun _ => rfl) rfl (Nat.zero_le _) (Nat.zero_le _) dL_areThings_521
        · refine V_iconst (v := (0 : Int32)) dL_areThings_520 rfl ?_
          exact V_zret (fun _ => rfl) rfl (Nat.zero_le _) (Nat.zero_le _) dL_areThings_521
      · refine V_iconst (v := (0 : Int32)) dL_areThings_520 rfl ?_
        exact V_zret (fun _ => rfl) rfl (Nat.zero_le _) (Nat.zero_le _) dL_areThings_521
    · refine V_iconst (v := (0 : Int32)) dL_areThings_520 rfl ?_
      exact V_zret (fun _ => rfl) rfl (Nat.zero_le _) (Nat.zero_le _) dL_areThings_521
set_option maxRecDepth 100000 in
set_option maxHeartbeats 4000000 in
theorem v_L_areThings_b447 {D : DG} {z0 : Nat} {l : Launch} {rec346 : Option Nat → Int32 → Int32 → Int32 → Int32 → Int32 → Int32 → Int32 → Int32 → SG → Option (Int32 × SG)} (hrec346 : ∀ (v0 : Option Nat) (v1 : Int32) (v2 : Int32) (v3 : Int32) (v4 : Int32) (v5 : Int32) (v6 : Int32) (v7 : Int32) (v8 : Int32) (σ : SG), V D z0 l RL cL_areThings 13 wsL_areThings (some .boolean) rmL_areThings false tvI 346 [some (va_rf v0), some (.int v1), some (.int v2), some (.int v3), some (.int v4), some (.int v5), some (.int v6), some (.int v7), some (.int v8), none, none, none, none] [] σ 0 0 (rec346 v0 v1 v2 v3 v4 v5 v6 v7 v8 σ)) : ∀ (v0 : Option Nat) (v1 : Int32) (v2 : Int32) (v3 : Int32) (v4 : Int32) (v5 : Int32) (v6 : Int32) (v7 : Int32) (v8 : Int32) (σ : SG), V D z0 l RL cL_areThings 13 wsL_areThings (some .boolean) rmL_areThings false tvI 447 [some (va_rf v0), some (.int v1), some (.int v2), some (.int v3), some (.int v4), some (.int v5), some (.int v6), some (.int v7), some (.int v8), none, none, none, none] [] σ 0 0 (m_L_areThings_b447 rec346 v0 v1 v2 v3 v4 v5 v6 v7 v8 σ) := by
  intro v0 v1 v2 v3 v4 v5 v6 v7 v8 σ
  unfold m_L_areThings_b447
  refine V_iinc (x := v8) (v := (v8 + 1)) (ls' := [some (va_rf v0), some (.int v1), some (.int v2), some (.int v3), some (.int v4), some (.int v5), some (.int v6), some (.int v7), some (.int (v8 + 1)), none, none, none, none]) dL_areThings_447 rfl rfl (by decide) rfl ?_
  refine V_goto (tgt := 346) dL_areThings_450 (by decide) ?_
  exact hrec346 v0 v1 v2 v3 v4 v5 v6 v7 ((v8 + 1)) σ
set_option maxRecDepth 100000 in
set_option maxHeartbeats 4000000 in
theorem v_L_areThings_b445 {D : DG} {z0 : Nat} {l : Launch} {rec346 : Option Nat → Int32 → Int32 → Int32 → Int32 → Int32 → Int32 → Int32 → Int32 → SG → Option (Int32 × SG)} (hrec346 : ∀ (v0 : Option Nat) (v1 : Int32) (v2 : Int32) (v3 : Int32) (v4 : Int32) (v5 : Int32) (v6 : Int32) (v7 : Int32) (v8 : Int32) (σ : SG), V D z0 l RL cL_areThings 13 wsL_areThings (some .boolean) rmL_areThings false tvI 346 [some (va_rf v0), some (.int v1), some (.int v2), some (.int v3), some (.int v4), some (.int v5), some (.int v6), some (.int v7), some (.int v8), none, none, none, none] [] σ 0 0 (rec346 v0 v1 v2 v3 v4 v5 v6 v7 v8 σ)) : ∀ (v0 : Option Nat) (v1 : Int32) (v2 : Int32) (v3 : Int32) (v4 : Int32) (v5 : Int32) (v6 : Int32) (v8 : Int32) (s0 : Int32) (σ : SG), V D z0 l RL cL_areThings 13 wsL_areThings (some .boolean) rmL_areThings false tvI 445 [some (va_rf v0), some (.int v1), some (.int v2), some (.int v3), some (.int v4), some (.int v5), some (.int v6), none, some (.int v8), none, none, none, none] [.int s0] σ 0 0 (m_L_areThings_b445 rec346 v0 v1 v2 v3 v4 v5 v6 v8 s0 σ) := by
  intro v0 v1 v2 v3 v4 v5 v6 v8 s0 σ
  unfold m_L_areThings_b445
  refine V_istore (x := s0) (ls' := [some (va_rf v0), some (.int v1), some (.int v2), some (.int v3), some (.int v4), some (.int v5), some (.int v6), some (.int s0), some (.int v8), none, none, none, none]) dL_areThings_445 (by decide) rfl ?_
  exact v_L_areThings_b447 hrec346 v0 v1 v2 v3 v4 v5 v6 s0 v8 σ
set_option maxRecDepth 100000 in
set_option maxHeartbeats 4000000 in
theorem v_L_areThings_b444 {D : DG} {z0 : Nat} {l : Launch} {rec346 : Option Nat → Int32 → Int32 → Int32 → Int32 → Int32 → Int32 → Int32 → Int32 → SG → Option (Int32 × SG)} (hrec346 : ∀ (v0 : Option Nat) (v1 : Int32) (v2 : Int32) (v3 : Int32) (v4 : Int32) (v5 : Int32) (v6 : Int32) (v7 : Int32) (v8 : Int32) (σ : SG), V D z0 l RL cL_areThings 13 wsL_areThings (some .boolean) rmL_areThings false tvI 346 [some (va_rf v0), some (.int v1), some (.int v2), some (.int v3), some (.int v4), some (.int v5), some (.int v6), some (.int v7), some (.int v8), none, none, none, none] [] σ 0 0 (rec346 v0 v1 v2 v3 v4 v5 v6 v7 v8 σ)) : ∀ (v0 : Option Nat) (v1 : Int32) (v2 : Int32) (v3 : Int32) (v4 : Int32) (v5 : Int32) (v6 : Int32) (v8 : Int32) (σ : SG), V D z0 l RL cL_areThings 13 wsL_areThings (some .boolean) rmL_areThings false tvI 444 [some (va_rf v0), some (.int v1), some (.int v2), some (.int v3), some (.int v4), some (.int v5), some (.int v6), none, some (.int v8), none, none, none, none] [] σ 0 0 (m_L_areThings_b444 rec346 v0 v1 v2 v3 v4 v5 v6 v8 σ) := by
  intro v0 v1 v2 v3 v4 v5 v6 v8 σ
  unfold m_L_areThings_b444
  refine V_iconst (v := (0 : Int32)) dL_areThings_444 rfl ?_
  exact v_L_areThings_b445 hrec346 v0 v1 v2 v3 v4 v5 v6 v8 ((0 : Int32)) σ
set_option maxRecDepth 100000 in
set_option maxHeartbeats 4000000 in
theorem v_L_areThings_b392 {D : DG} {z0 : Nat} {l : Launch} {rec346 : Option Nat → Int32 → Int32 → Int32 → Int32 → Int32 → Int32 → Int32 → Int32 → SG → Option (Int32 × SG)} (hrec346 : ∀ (v0 : Option Nat) (v1 : Int32) (v2 : Int32) (v3 : Int32) (v4 : Int32) (v5 : Int32) (v6 : Int32) (v7 : Int32) (v8 : Int32) (σ : SG), V D z0 l RL cL_areThings 13 wsL_areThings (some .boolean) rmL_areThings false tvI 346 [some (va_rf v0), some (.int v1), some (.int v2), some (.int v3), some (.int v4), some (.int v5), some (.int v6), some (.int v7), some (.int v8), none, none, none, none] [] σ 0 0 (rec346 v0 v1 v2 v3 v4 v5 v6 v7 v8 σ)) : ∀ (v0 : Option Nat) (v1 : Int32) (v2 : Int32) (v3 : Int32) (v4 : Int32) (v5 : Int32) (v8 : Int32) (v9 : Int32) (s0 : Int32) (s1 : Int32) (σ : SG), V D z0 l RL cL_areThings 13 wsL_areThings (some .boolean) rmL_areThings false tvI 392 [some (va_rf v0), some (.int v1), some (.int v2), some (.int v3), some (.int v4), some (.int v5), none, none, some (.int v8), some (.int v9), none, none, none] [.int s1, .int s0] σ 0 0 (m_L_areThings_b392 rec346 v0 v1 v2 v3 v4 v5 v8 v9 s0 s1 σ) := by
  intro v0 v1 v2 v3 v4 v5 v8 v9 s0 s1 σ
  unfold m_L_areThings_b392
  refine V_iadd (x := s0) (y := s1) dL_areThings_392 ?_
  refine V_istore (x := (s0 + s1)) (ls' := [some (va_rf v0), some (.int v1), some (.int v2), some (.int v3), some (.int v4), some (.int v5), some (.int (s0 + s1)), none, some (.int v8), some (.int v9), none, none, none]) dL_areThings_393 (by decide) rfl ?_
  refine V_iload (x := v9) dL_areThings_395 rfl ?_
  refine V_if_lt (tgt := 444) (x := v9) dL_areThings_397 (by decide) (fun hc20 => ?_) (fun hc20 => ?_)
  · exact V_sub (LE.s (LE.s (LE.s (LE.s (LE.s (LE.s (LE.s (LE.s (LE.s (LE.n (LE.s (LE.s (LE.s LE.e))))))))))))) (v_L_areThings_b444 hrec346 v0 v1 v2 v3 v4 v5 ((s0 + s1)) v8 σ)
  · refine V_iload (x := v9) dL_areThings_400 rfl ?_
    refine V_bipush (v := (9 : Int32)) dL_areThings_402 rfl ?_
    refine V_icmp_gt (tgt := 444) (x := v9) (y := (9 : Int32)) dL_areThings_404 (by decide) (fun hc21 => ?_) (fun hc21 => ?_)
    · exact V_sub (LE.s (LE.s (LE.s (LE.s (LE.s (LE.s (LE.s (LE.s (LE.s (LE.n (LE.s (LE.s (LE.s LE.e))))))))))))) (v_L_areThings_b444 hrec346 v0 v1 v2 v3 v4 v5 ((s0 + s1)) v8 σ)
    · refine V_aload_n (x := v0) dL_areThings_407 rfl ?_
      refine V_iload (x := v8) dL_areThings_408 rfl ?_
      refine V_iconst (v := (4 : Int32)) dL_areThings_410 rfl ?_
      refine V_callV0 (As := [.int v8, .int (4 : Int32)]) (st0 := []) (stI := [.int (4 : Int32), .int v8, va_rf v0]) (fun _ h => by cases h; exact t_X8_lampOf _ v8 (4 : Int32) σ) (q := (RX8, TX8, 6)) rfl rfl rfl (Nat.le_of_ble_eq_true rfl) rfl (fun s args hts => cwV 2 hts gL_areThings_X8_lampOf rfl rfl rfl (by decide +kernel) ⟨Nat.le_of_ble_eq_true rfl, Nat.le_of_ble_eq_true rfl⟩) rfl rfl dL_areThings_411 (fun r22 σ23 _ => ?_)
      refine V_if_lt (tgt := 444) (x := r22) dL_areThings_414 (by decide) (fun hc24 => ?_) (fun hc24 => ?_)
      · exact V_sub (LE.s (LE.s (LE.s (LE.s (LE.s (LE.s (LE.s (LE.s (LE.s (LE.n (LE.s (LE.s (LE.s LE.e))))))))))))) (v_L_areThings_b444 hrec346 v0 v1 v2 v3 v4 v5 ((s0 + s1)) v8 σ23)
      · refine V_aload_n (x := v0) dL_areThings_417 rfl ?_
        refine V_iload (x := v8) dL_areThings_418 rfl ?_
        refine V_iconst (v := (4 : Int32)) dL_areThings_420 rfl ?_
        refine V_callV0 (As := [.int v8, .int (4 : Int32)]) (st0 := []) (stI := [.int (4 : Int32), .int v8, va_rf v0]) (fun _ h => by cases h; exact t_X8_lampOf _ v8 (4 : Int32) σ23) (q := (RX8, TX8, 6)) rfl rfl rfl (Nat.le_of_ble_eq_true rfl) rfl (fun s args hts => cwV 2 hts gL_areThings_X8_lampOf rfl rfl rfl (by decide +kernel) ⟨Nat.le_of_ble_eq_true rfl, Nat.le_of_ble_eq_true rfl⟩) rfl rfl dL_areThings_421 (fun r25 σ26 _ => ?_)
        refine V_iconst (v := (1 : Int32)) dL_areThings_424 rfl ?_
        refine V_icmp_gt (tgt := 444) (x := r25) (y := (1 : Int32)) dL_areThings_425 (by decide) (fun hc27 => ?_) (fun hc27 => ?_)
        · exact V_sub (LE.s (LE.s (LE.s (LE.s (LE.s (LE.s (LE.s (LE.s (LE.s (LE.n (LE.s (LE.s (LE.s LE.e))))))))))))) (v_L_areThings_b444 hrec346 v0 v1 v2 v3 v4 v5 ((s0 + s1)) v8 σ26)
        · refine V_aload_n (x := v0) dL_areThings_428 rfl ?_
          refine V_iload (x := v8) dL_areThings_429 rfl ?_
          refine V_iconst (v := (0 : Int32)) dL_areThings_431 rfl ?_
          refine V_callV0 (As := [.int v8, .int (0 : Int32)]) (st0 := []) (stI := [.int (0 : Int32), .int v8, va_rf v0]) (fun _ h => by cases h; exact t_X8_levelIn _ v8 (0 : Int32) σ26) (q := (RX8, TX8, 6)) rfl rfl rfl (Nat.le_of_ble_eq_true rfl) rfl (fun s args hts => cwV 2 hts gL_areThings_X8_levelIn rfl rfl rfl (by decide +kernel) ⟨Nat.le_of_ble_eq_true rfl, Nat.le_of_ble_eq_true rfl⟩) rfl rfl dL_areThings_432 (fun r28 σ29 _ => ?_)
          refine V_iload (x := v9) dL_areThings_435 rfl ?_
          refine V_icmp_ne (tgt := 444) (x := r28) (y := v9) dL_areThings_437 (by decide) (fun hc30 => ?_) (fun hc30 => ?_)
          · refine V_iconst (v := (1 : Int32)) dL_areThings_440 rfl ?_
            refine V_goto (tgt := 445) dL_areThings_441 (by decide) ?_
            exact V_sub (LE.s (LE.s (LE.s (LE.s (LE.s (LE.s (LE.s (LE.s (LE.s (LE.n (LE.s (LE.s (LE.s LE.e))))))))))))) (v_L_areThings_b445 hrec346 v0 v1 v2 v3 v4 v5 ((s0 + s1)) v8 ((1 : Int32)) σ29)
          · exact V_sub (LE.s (LE.s (LE.s (LE.s (LE.s (LE.s (LE.s (LE.s (LE.s (LE.n (LE.s (LE.s (LE.s LE.e))))))))))))) (v_L_areThings_b444 hrec346 v0 v1 v2 v3 v4 v5 ((s0 + s1)) v8 σ29)
set_option maxRecDepth 100000 in
set_option maxHeartbeats 4000000 in
theorem v_L_areThings_B346 {D : DG} {z0 : Nat} {l : Launch} {rec346 : Option Nat → Int32 → Int32 → Int32 → Int32 → Int32 → Int32 → Int32 → Int32 → SG → Option (Int32 × SG)} (hrec346 : ∀ (v0 : Option Nat) (v1 : Int32) (v2 : Int32) (v3 : Int32) (v4 : Int32) (v5 : Int32) (v6 : Int32) (v7 : Int32) (v8 : Int32) (σ : SG), V D z0 l RL cL_areThings 13 wsL_areThings (some .boolean) rmL_areThings false tvI 346 [some (va_rf v0), some (.int v1), some (.int v2), some (.int v3), some (.int v4), some (.int v5), some (.int v6), some (.int v7), some (.int v8), none, none, none, none] [] σ 0 0 (rec346 v0 v1 v2 v3 v4 v5 v6 v7 v8 σ)) : ∀ (v0 : Option Nat) (v1 : Int32) (v2 : Int32) (v3 : Int32) (v4 : Int32) (v5 : Int32) (v6 : Int32) (v7 : Int32) (v8 : Int32) (σ : SG), V D z0 l RL cL_areThings 13 wsL_areThings (some .boolean) rmL_areThings false tvI 346 [some (va_rf v0), some (.int v1), some (.int v2), some (.int v3), some (.int v4), some (.int v5), some (.int v6), some (.int v7), some (.int v8), none, none, none, none] [] σ 0 0 (m_L_areThings_B346 rec346 v0 v1 v2 v3 v4 v5 v6 v7 v8 σ) := by
  intro v0 v1 v2 v3 v4 v5 v6 v7 v8 σ
  unfold m_L_areThings_B346
  refine V_iload (x := v8) dL_areThings_346 rfl ?_
  refine V_bipush (v := (8 : Int32)) dL_areThings_348 rfl ?_
  refine V_icmp_ge (tgt := 453) (x := v8) (y := (8 : Int32)) dL_areThings_350 (by decide) (fun hc31 => ?_) (fun hc31 => ?_)
  · exact V_sub (LE.s (LE.s (LE.s (LE.s (LE.s (LE.s (LE.s (LE.s (LE.n (LE.s (LE.s (LE.s (LE.s LE.e))))))))))))) (v_L_areThings_b453  v0 v1 v2 v3 v4 v5 v6 v7 σ)
  · refine V_iload (x := v7) dL_areThings_353 rfl ?_
    refine V_if_eq (tgt := 453) (x := v7) dL_areThings_355 (by decide) (fun hc32 => ?_) (fun hc32 => ?_)
    · exact V_sub (LE.s (LE.s (LE.s (LE.s (LE.s (LE.s (LE.s (LE.s (LE.n (LE.s (LE.s (LE.s (LE.s LE.e))))))))))))) (v_L_areThings_b453  v0 v1 v2 v3 v4 v5 v6 v7 σ)
    · refine V_aload_n (x := v0) dL_areThings_358 rfl ?_
      refine V_iload (x := v8) dL_areThings_359 rfl ?_
      refine V_iconst (v := (0 : Int32)) dL_areThings_361 rfl ?_
      refine V_callV0 (As := [.int v8, .int (0 : Int32)]) (st0 := []) (stI := [.int (0 : Int32), .int v8, va_rf v0]) (fun _ h => by cases h; exact t_X8_lampOf _ v8 (0 : Int32) σ) (q := (RX8, TX8, 6)) rfl rfl rfl (Nat.le_of_ble_eq_true rfl) rfl (fun s args hts => cwV 2 hts gL_areThings_X8_lampOf rfl rfl rfl (by decide +kernel) ⟨Nat.le_of_ble_eq_true rfl, Nat.le_of_ble_eq_true rfl⟩) rfl rfl dL_areThings_362 (fun r33 σ34 _ => ?_)
      refine V_if_lt (tgt := 447) (x := r33) dL_areThings_365 (by decide) (fun hc35 => ?_) (fun hc35 => ?_)
      · exact v_L_areThings_b447 hrec346 v0 v1 v2 v3 v4 v5 v6 v7 v8 σ34
      · refine V_aload_n (x := v0) dL_areThings_368 rfl ?_
        refine V_iload (x := v8) dL_areThings_369 rfl ?_
        refine V_iconst (v := (3 : Int32)) dL_areThings_371 rfl ?_
        refine V_callV0 (As := [.int v8, .int (3 : Int32)]) (st0 := []) (stI := [.int (3 : Int32), .int v8, va_rf v0]) (fun _ h => by cases h; exact t_X8_lampOf _ v8 (3 : Int32) σ34) (q := (RX8, TX8, 6)) rfl rfl rfl (Nat.le_of_ble_eq_true rfl) rfl (fun s args hts => cwV 2 hts gL_areThings_X8_lampOf rfl rfl rfl (by decide +kernel) ⟨Nat.le_of_ble_eq_true rfl, Nat.le_of_ble_eq_true rfl⟩) rfl rfl dL_areThings_372 (fun r36 σ37 _ => ?_)
        refine V_istore (x := r36) (ls' := [some (va_rf v0), some (.int v1), some (.int v2), some (.int v3), some (.int v4), some (.int v5), some (.int v6), some (.int v7), some (.int v8), some (.int r36), none, none, none]) dL_areThings_375 (by decide) rfl ?_
        refine V_iinc (x := v5) (v := (v5 + 1)) (ls' := [some (va_rf v0), some (.int v1), some (.int v2), some (.int v3), some (.int v4), some (.int (v5 + 1)), some (.int v6), some (.int v7), some (.int v8), some (.int r36), none, none, none]) dL_areThings_377 rfl rfl (by decide) rfl ?_
        refine V_iload (x := v6) dL_areThings_380 rfl ?_
        refine V_iload (x := r36) dL_areThings_382 rfl ?_
        refine V_if_le (tgt := 391) (x := r36) dL_areThings_384 (by decide) (fun hc38 => ?_) (fun hc38 => ?_)
        · refine V_iconst (v := (0 : Int32)) dL_areThings_391 rfl ?_
          exact V_sub (LE.s (LE.s (LE.s (LE.s (LE.s (LE.s (LE.n (LE.n (LE.s (LE.s (LE.s (LE.s (LE.s LE.e))))))))))))) (v_L_areThings_b392 hrec346 v0 v1 v2 v3 v4 ((v5 + 1)) v8 r36 v6 ((0 : Int32)) σ37)
        · refine V_iconst (v := (1 : Int32)) dL_areThings_387 rfl ?_
          refine V_goto (tgt := 392) dL_areThings_388 (by decide) ?_
          exact V_sub (LE.s (LE.s (LE.s (LE.s (LE.s (LE.s (LE.n (LE.n (LE.s (LE.s (LE.s (LE.s (LE.s LE.e))))))))))))) (v_L_areThings_b392 hrec346 v0 v1 v2 v3 v4 ((v5 + 1)) v8 r36 v6 ((1 : Int32)) σ37)
theorem v_L_areThings_L346 {D : DG} {z0 : Nat} {l : Launch} : ∀ (n : Nat) (v0 : Option Nat) (v1 : Int32) (v2 : Int32) (v3 : Int32) (v4 : Int32) (v5 : Int32) (v6 : Int32) (v7 : Int32) (v8 : Int32) (σ : SG), V D z0 l RL cL_areThings 13 wsL_areThings (some .boolean) rmL_areThings false tvI 346 [some (va_rf v0), some (.int v1), some (.int v2), some (.int v3), some (.int v4), some (.int v5), some (.int v6), some (.int v7), some (.int v8), none, none, none, none] [] σ 0 0 (m_L_areThings_L346 n v0 v1 v2 v3 v4 v5 v6 v7 v8 σ) := by
  intro n
  induction n with
  | zero => intros; exact V_none
  | succ n ih => exact v_L_areThings_B346  ih
set_option maxRecDepth 100000 in
set_option maxHeartbeats 4000000 in
theorem v_L_areThings_b334 {D : DG} {z0 : Nat} {l : Launch} {rec311 : Option Nat → Int32 → Int32 → Int32 → Int32 → Int32 → Int32 → Int32 → Int32 → SG → Option (Int32 × SG)} (hrec311 : ∀ (v0 : Option Nat) (v1 : Int32) (v2 : Int32) (v3 : Int32) (v4 : Int32) (v5 : Int32) (v6 : Int32) (v7 : Int32) (v8 : Int32) (σ : SG), V D z0 l RL cL_areThings 13 wsL_areThings (some .boolean) rmL_areThings false tvI 311 [some (va_rf v0), some (.int v1), some (.int v2), some (.int v3), some (.int v4), some (.int v5), some (.int v6), some (.int v7), some (.int v8), none, none, none, none] [] σ 0 0 (rec311 v0 v1 v2 v3 v4 v5 v6 v7 v8 σ)) : ∀ (v0 : Option Nat) (v1 : Int32) (v2 : Int32) (v3 : Int32) (v5 : Int32) (v6 : Int32) (v7 : Int32) (v8 : Int32) (s0 : Int32) (s1 : Int32) (σ : SG), V D z0 l RL cL_areThings 13 wsL_areThings (some .boolean) rmL_areThings false tvI 334 [some (va_rf v0), some (.int v1), some (.int v2), some (.int v3), none, some (.int v5), some (.int v6), some (.int v7), some (.int v8), none, none, none, none] [.int s1, .int s0] σ 0 0 (m_L_areThings_b334 rec311 v0 v1 v2 v3 v5 v6 v7 v8 s0 s1 σ) := by
  intro v0 v1 v2 v3 v5 v6 v7 v8 s0 s1 σ
  unfold m_L_areThings_b334
  refine V_iadd (x := s0) (y := s1) dL_areThings_334 ?_
  refine V_istore (x := (s0 + s1)) (ls' := [some (va_rf v0), some (.int v1), some (.int v2), some (.int v3), some (.int (s0 + s1)), some (.int v5), some (.int v6), some (.int v7), some (.int v8), none, none, none, none]) dL_areThings_335 (by decide) rfl ?_
  refine V_iinc (x := v8) (v := (v8 + 1)) (ls' := [some (va_rf v0), some (.int v1), some (.int v2), some (.int v3), some (.int (s0 + s1)), some (.int v5), some (.int v6), some (.int v7), some (.int (v8 + 1)), none, none, none, none]) dL_areThings_337 rfl rfl (by decide) rfl ?_
  refine V_goto (tgt := 311) dL_areThings_340 (by decide) ?_
  exact hrec311 v0 v1 v2 v3 ((s0 + s1)) v5 v6 v7 ((v8 + 1)) σ
set_option maxRecDepth 100000 in
set_option maxHeartbeats 4000000 in
theorem v_L_areThings_B311 {D : DG} {z0 : Nat} {l : Launch} {rec311 : Option Nat → Int32 → Int32 → Int32 → Int32 → Int32 → Int32 → Int32 → Int32 → SG → Option (Int32 × SG)} (hrec311 : ∀ (v0 : Option Nat) (v1 : Int32) (v2 : Int32) (v3 : Int32) (v4 : Int32) (v5 : Int32) (v6 : Int32) (v7 : Int32) (v8 : Int32) (σ : SG), V D z0 l RL cL_areThings 13 wsL_areThings (some .boolean) rmL_areThings false tvI 311 [some (va_rf v0), some (.int v1), some (.int v2), some (.int v3), some (.int v4), some (.int v5), some (.int v6), some (.int v7), some (.int v8), none, none, none, none] [] σ 0 0 (rec311 v0 v1 v2 v3 v4 v5 v6 v7 v8 σ)) : ∀ (v0 : Option Nat) (v1 : Int32) (v2 : Int32) (v3 : Int32) (v4 : Int32) (v5 : Int32) (v6 : Int32) (v7 : Int32) (v8 : Int32) (σ : SG), V D z0 l RL cL_areThings 13 wsL_areThings (some .boolean) rmL_areThings false tvI 311 [some (va_rf v0), some (.int v1), some (.int v2), some (.int v3), some (.int v4), some (.int v5), some (.int v6), some (.int v7), some (.int v8), none, none, none, none] [] σ 0 0 (m_L_areThings_B311 rec311 v0 v1 v2 v3 v4 v5 v6 v7 v8 σ) := by
  intro v0 v1 v2 v3 v4 v5 v6 v7 v8 σ
  unfold m_L_areThings_B311
  refine V_iload (x := v8) dL_areThings_311 rfl ?_
  refine V_iconst (v := (4 : Int32)) dL_areThings_313 rfl ?_
  refine V_icmp_ge (tgt := 343) (x := v8) (y := (4 : Int32)) dL_areThings_314 (by decide) (fun hc39 => ?_) (fun hc39 => ?_)
  · refine V_iconst (v := (0 : Int32)) dL_areThings_343 rfl ?_
    refine V_istore (x := (0 : Int32)) (ls' := [some (va_rf v0), some (.int v1), some (.int v2), some (.int v3), some (.int v4), some (.int v5), some (.int v6), some (.int v7), some (.int (0 : Int32)), none, none, none, none]) dL_areThings_344 (by decide) rfl ?_
    exact v_L_areThings_L346  1000 v0 v1 v2 v3 v4 v5 v6 v7 ((0 : Int32)) σ
  · refine V_iload (x := v4) dL_areThings_317 rfl ?_
    refine V_aload_n (x := v0) dL_areThings_319 rfl ?_
    refine V_iload (x := v8) dL_areThings_320 rfl ?_
    refine V_iconst (v := (0 : Int32)) dL_areThings_322 rfl ?_
    refine V_callV0 (As := [.int v8, .int (0 : Int32)]) (st0 := [.int v4]) (stI := [.int (0 : Int32), .int v8, va_rf v0, .int v4]) (fun _ h => by cases h; exact t_X8_machineOf _ v8 (0 : Int32) σ) (q := (RX8, TX8, 6)) rfl rfl rfl (Nat.le_of_ble_eq_true rfl) rfl (fun s args hts => cwV 2 hts gL_areThings_X8_machineOf rfl rfl rfl (by decide +kernel) ⟨Nat.le_of_ble_eq_true rfl, Nat.le_of_ble_eq_true rfl⟩) rfl rfl dL_areThings_323 (fun r40 σ41 _ => ?_)
    refine V_if_lt (tgt := 333) (x := r40) dL_areThings_326 (by decide) (fun hc42 => ?_) (fun hc42 => ?_)
    · refine V_iconst (v := (0 : Int32)) dL_areThings_333 rfl ?_
      exact V_sub (LE.s (LE.s (LE.s (LE.s (LE.n (LE.s (LE.s (LE.s (LE.s (LE.s (LE.s (LE.s (LE.s LE.e))))))))))))) (v_L_areThings_b334 hrec311 v0 v1 v2 v3 v5 v6 v7 v8 v4 ((0 : Int32)) σ41)
    · refine V_iconst (v := (1 : Int32)) dL_areThings_329 rfl ?_
      refine V_goto (tgt := 334) dL_areThings_330 (by decide) ?_
      exact V_sub (LE.s (LE.s (LE.s (LE.s (LE.n (LE.s (LE.s (LE.s (LE.s (LE.s (LE.s (LE.s (LE.s LE.e))))))))))))) (v_L_areThings_b334 hrec311 v0 v1 v2 v3 v5 v6 v7 v8 v4 ((1 : Int32)) σ41)
theorem v_L_areThings_L311 {D : DG} {z0 : Nat} {l : Launch} : ∀ (n : Nat) (v0 : Option Nat) (v1 : Int32) (v2 : Int32) (v3 : Int32) (v4 : Int32) (v5 : Int32) (v6 : Int32) (v7 : Int32) (v8 : Int32) (σ : SG), V D z0 l RL cL_areThings 13 wsL_areThings (some .boolean) rmL_areThings false tvI 311 [some (va_rf v0), some (.int v1), some (.int v2), some (.int v3), some (.int v4), some (.int v5), some (.int v6), some (.int v7), some (.int v8), none, none, none, none] [] σ 0 0 (m_L_areThings_L311 n v0 v1 v2 v3 v4 v5 v6 v7 v8 σ) := by
  intro n
  induction n with
  | zero => intros; exact V_none
  | succ n ih => exact v_L_areThings_B311  ih
set_option maxRecDepth 100000 in
set_option maxHeartbeats 4000000 in
theorem v_L_areThings_b308 {D : DG} {z0 : Nat} {l : Launch} : ∀ (v0 : Option Nat) (v1 : Int32) (v2 : Int32) (v3 : Int32) (v4 : Int32) (v5 : Int32) (v6 : Int32) (v7 : Int32) (σ : SG), V D z0 l RL cL_areThings 13 wsL_areThings (some .boolean) rmL_areThings false tvI 308 [some (va_rf v0), some (.int v1), some (.int v2), some (.int v3), some (.int v4), some (.int v5), some (.int v6), some (.int v7), none, none, none, none, none] [] σ 0 0 (m_L_areThings_b308 v0 v1 v2 v3 v4 v5 v6 v7 σ) := by
  intro v0 v1 v2 v3 v4 v5 v6 v7 σ
  unfold m_L_areThings_b308
  refine V_iconst (v := (0 : Int32)) dL_areThings_308 rfl ?_
  refine V_istore (x := (0 : Int32)) (ls' := [some (va_rf v0), some (.int v1), some (.int v2), some (.int v3), some (.int v4), some (.int v5), some (.int v6), some (.int v7), some (.int (0 : Int32)), none, none, none, none]) dL_areThings_309 (by decide) rfl ?_
  exact v_L_areThings_L311  1000 v0 v1 v2 v3 v4 v5 v6 v7 ((0 : Int32)) σ
set_option maxRecDepth 100000 in
set_option maxHeartbeats 4000000 in
theorem v_L_areThings_b302 {D : DG} {z0 : Nat} {l : Launch} {rec67 : Option Nat → Int32 → Int32 → Int32 → Int32 → Int32 → Int32 → Int32 → Int32 → SG → Option (Int32 × SG)} (hrec67 : ∀ (v0 : Option Nat) (v1 : Int32) (v2 : Int32) (v3 : Int32) (v4 : Int32) (v5 : Int32) (v6 : Int32) (v7 : Int32) (v8 : Int32) (σ : SG), V D z0 l RL cL_areThings 13 wsL_areThings (some .boolean) rmL_areThings false tvI 67 [some (va_rf v0), some (.int v1), some (.int v2), some (.int v3), some (.int v4), some (.int v5), some (.int v6), some (.int v7), some (.int v8), none, none, none, none] [] σ 0 0 (rec67 v0 v1 v2 v3 v4 v5 v6 v7 v8 σ)) : ∀ (v0 : Option Nat) (v1 : Int32) (v2 : Int32) (v3 : Int32) (v4 : Int32) (v5 : Int32) (v6 : Int32) (v7 : Int32) (v8 : Int32) (σ : SG), V D z0 l RL cL_areThings 13 wsL_areThings (some .boolean) rmL_areThings false tvI 302 [some (va_rf v0), some (.int v1), some (.int v2), some (.int v3), some (.int v4), some (.int v5), some (.int v6), some (.int v7), some (.int v8), none, none, none, none] [] σ 0 0 (m_L_areThings_b302 rec67 v0 v1 v2 v3 v4 v5 v6 v7 v8 σ) := by
  intro v0 v1 v2 v3 v4 v5 v6 v7 v8 σ
  unfold m_L_areThings_b302
  refine V_iinc (x := v8) (v := (v8 + 1)) (ls' := [some (va_rf v0), some (.int v1), some (.int v2), some (.int v3), some (.int v4), some (.int v5), some (.int v6), some (.int v7), some (.int (v8 + 1)), none, none, none, none]) dL_areThings_302 rfl rfl (by decide) rfl ?_
  refine V_goto (tgt := 67) dL_areThings_305 (by decide) ?_
  exact hrec67 v0 v1 v2 v3 v4 v5 v6 v7 ((v8 + 1)) σ
set_option maxRecDepth 100000 in
set_option maxHeartbeats 4000000 in
theorem v_L_areThings_b300 {D : DG} {z0 : Nat} {l : Launch} {rec67 : Option Nat → Int32 → Int32 → Int32 → Int32 → Int32 → Int32 → Int32 → Int32 → SG → Option (Int32 × SG)} (hrec67 : ∀ (v0 : Option Nat) (v1 : Int32) (v2 : Int32) (v3 : Int32) (v4 : Int32) (v5 : Int32) (v6 : Int32) (v7 : Int32) (v8 : Int32) (σ : SG), V D z0 l RL cL_areThings 13 wsL_areThings (some .boolean) rmL_areThings false tvI 67 [some (va_rf v0), some (.int v1), some (.int v2), some (.int v3), some (.int v4), some (.int v5), some (.int v6), some (.int v7), some (.int v8), none, none, none, none] [] σ 0 0 (rec67 v0 v1 v2 v3 v4 v5 v6 v7 v8 σ)) : ∀ (v0 : Option Nat) (v1 : Int32) (v2 : Int32) (v3 : Int32) (v4 : Int32) (v5 : Int32) (v6 : Int32) (v8 : Int32) (s0 : Int32) (σ : SG), V D z0 l RL cL_areThings 13 wsL_areThings (some .boolean) rmL_areThings false tvI 300 [some (va_rf v0), some (.int v1), some (.int v2), some (.int v3), some (.int v4), some (.int v5), some (.int v6), none, some (.int v8), none, none, none, none] [.int s0] σ 0 0 (m_L_areThings_b300 rec67 v0 v1 v2 v3 v4 v5 v6 v8 s0 σ) := by
  intro v0 v1 v2 v3 v4 v5 v6 v8 s0 σ
  unfold m_L_areThings_b300
  refine V_istore (x := s0) (ls' := [some (va_rf v0), some (.int v1), some (.int v2), some (.int v3), some (.int v4), some (.int v5), some (.int v6), some (.int s0), some (.int v8), none, none, none, none]) dL_areThings_300 (by decide) rfl ?_
  exact v_L_areThings_b302 hrec67 v0 v1 v2 v3 v4 v5 v6 s0 v8 σ
set_option maxRecDepth 100000 in
set_option maxHeartbeats 4000000 in
theorem v_L_areThings_b299 {D : DG} {z0 : Nat} {l : Launch} {rec67 : Option Nat → Int32 → Int32 → Int32 → Int32 → Int32 → Int32 → Int32 → Int32 → SG → Option (Int32 × SG)} (hrec67 : ∀ (v0 : Option Nat) (v1 : Int32) (v2 : Int32) (v3 : Int32) (v4 : Int32) (v5 : Int32) (v6 : Int32) (v7 : Int32) (v8 : Int32) (σ : SG), V D z0 l RL cL_areThings 13 wsL_areThings (some .boolean) rmL_areThings false tvI 67 [some (va_rf v0), some (.int v1), some (.int v2), some (.int v3), some (.int v4), some (.int v5), some (.int v6), some (.int v7), some (.int v8), none, none, none, none] [] σ 0 0 (rec67 v0 v1 v2 v3 v4 v5 v6 v7 v8 σ)) : ∀ (v0 : Option Nat) (v1 : Int32) (v2 : Int32) (v3 : Int32) (v4 : Int32) (v5 : Int32) (v6 : Int32) (v8 : Int32) (σ : SG), V D z0 l RL cL_areThings 13 wsL_areThings (some .boolean) rmL_areThings false tvI 299 [some (va_rf v0), some (.int v1), some (.int v2), some (.int v3), some (.int v4), some (.int v5), some (.int v6), none, some (.int v8), none, none, none, none] [] σ 0 0 (m_L_areThings_b299 rec67 v0 v1 v2 v3 v4 v5 v6 v8 σ) := by
  intro v0 v1 v2 v3 v4 v5 v6 v8 σ
  unfold m_L_areThings_b299
  refine V_iconst (v := (0 : Int32)) dL_areThings_299 rfl ?_
  exact v_L_areThings_b300 hrec67 v0 v1 v2 v3 v4 v5 v6 v8 ((0 : Int32)) σ
set_option maxRecDepth 100000 in
set_option maxHeartbeats 4000000 in
theorem v_L_areThings_b279 {D : DG} {z0 : Nat} {l : Launch} {rec67 : Option Nat → Int32 → Int32 → Int32 → Int32 → Int32 → Int32 → Int32 → Int32 → SG → Option (Int32 × SG)} (hrec67 : ∀ (v0 : Option Nat) (v1 : Int32) (v2 : Int32) (v3 : Int32) (v4 : Int32) (v5 : Int32) (v6 : Int32) (v7 : Int32) (v8 : Int32) (σ : SG), V D z0 l RL cL_areThings 13 wsL_areThings (some .boolean) rmL_areThings false tvI 67 [some (va_rf v0), some (.int v1), some (.int v2), some (.int v3), some (.int v4), some (.int v5), some (.int v6), some (.int v7), some (.int v8), none, none, none, none] [] σ 0 0 (rec67 v0 v1 v2 v3 v4 v5 v6 v7 v8 σ)) : ∀ (v0 : Option Nat) (v1 : Int32) (v2 : Int32) (v3 : Int32) (v4 : Int32) (v5 : Int32) (v6 : Int32) (v8 : Int32) (σ : SG), V D z0 l RL cL_areThings 13 wsL_areThings (some .boolean) rmL_areThings false tvI 279 [some (va_rf v0), some (.int v1), some (.int v2), some (.int v3), some (.int v4), some (.int v5), some (.int v6), none, some (.int v8), none, none, none, none] [] σ 0 0 (m_L_areThings_b279 rec67 v0 v1 v2 v3 v4 v5 v6 v8 σ) := by
  intro v0 v1 v2 v3 v4 v5 v6 v8 σ
  unfold m_L_areThings_b279
  refine V_aload_n (x := v0) dL_areThings_279 rfl ?_
  refine V_iload (x := v8) dL_areThings_280 rfl ?_
  refine V_iconst (v := (5 : Int32)) dL_areThings_282 rfl ?_
  refine V_callV0 (As := [.int v8, .int (5 : Int32)]) (st0 := []) (stI := [.int (5 : Int32), .int v8, va_rf v0]) (fun _ h => by cases h; exact t_X8_senderOf _ v8 (5 : Int32) σ) (q := (RX8, TX8, 6)) rfl rfl rfl (Nat.le_of_ble_eq_true rfl) rfl (fun s args hts => cwV 2 hts gL_areThings_X8_senderOf rfl rfl rfl (by decide +kernel) ⟨Nat.le_of_ble_eq_true rfl, Nat.le_of_ble_eq_true rfl⟩) rfl rfl dL_areThings_283 (fun r43 σ44 _ => ?_)
  refine V_iconst (v := (3 : Int32)) dL_areThings_286 rfl ?_
  refine V_iconst (v := (2 : Int32)) dL_areThings_287 rfl ?_
  refine V_iload (x := v8) dL_areThings_288 rfl ?_
  refine V_imul (x := (2 : Int32)) (y := v8) dL_areThings_290 ?_
  refine V_iadd (x := (3 : Int32)) (y := ((2 : Int32) * v8)) dL_areThings_291 ?_
  refine V_icmp_gt (tgt := 299) (x := r43) (y := ((3 : Int32) + ((2 : Int32) * v8))) dL_areThings_292 (by decide) (fun hc45 => ?_) (fun hc45 => ?_)
  · exact v_L_areThings_b299 hrec67 v0 v1 v2 v3 v4 v5 v6 v8 σ44
  · refine V_iconst (v := (1 : Int32)) dL_areThings_295 rfl ?_
    refine V_goto (tgt := 300) dL_areThings_296 (by decide) ?_
    exact v_L_areThings_b300 hrec67 v0 v1 v2 v3 v4 v5 v6 v8 ((1 : Int32)) σ44
set_option maxRecDepth 100000 in
set_option maxHeartbeats 4000000 in
theorem v_L_areThings_b276 {D : DG} {z0 : Nat} {l : Launch} {rec67 : Option Nat → Int32 → Int32 → Int32 → Int32 → Int32 → Int32 → Int32 → Int32 → SG → Option (Int32 × SG)} (hrec67 : ∀ (v0 : Option Nat) (v1 : Int32) (v2 : Int32) (v3 : Int32) (v4 : Int32) (v5 : Int32) (v6 : Int32) (v7 : Int32) (v8 : Int32) (σ : SG), V D z0 l RL cL_areThings 13 wsL_areThings (some .boolean) rmL_areThings false tvI 67 [some (va_rf v0), some (.int v1), some (.int v2), some (.int v3), some (.int v4), some (.int v5), some (.int v6), some (.int v7), some (.int v8), none, none, none, none] [] σ 0 0 (rec67 v0 v1 v2 v3 v4 v5 v6 v7 v8 σ)) : ∀ (v0 : Option Nat) (v1 : Int32) (v2 : Int32) (v3 : Int32) (v4 : Int32) (v5 : Int32) (v6 : Int32) (v8 : Int32) (s0 : Int32) (s1 : Int32) (σ : SG), V D z0 l RL cL_areThings 13 wsL_areThings (some .boolean) rmL_areThings false tvI 276 [some (va_rf v0), some (.int v1), some (.int v2), some (.int v3), some (.int v4), some (.int v5), some (.int v6), none, some (.int v8), none, none, none, none] [.int s1, .int s0] σ 0 0 (m_L_areThings_b276 rec67 v0 v1 v2 v3 v4 v5 v6 v8 s0 s1 σ) := by
  intro v0 v1 v2 v3 v4 v5 v6 v8 s0 s1 σ
  unfold m_L_areThings_b276
  refine V_icmp_ne (tgt := 299) (x := s0) (y := s1) dL_areThings_276 (by decide) (fun hc46 => ?_) (fun hc46 => ?_)
  · exact v_L_areThings_b279 hrec67 v0 v1 v2 v3 v4 v5 v6 v8 σ
  · exact v_L_areThings_b299 hrec67 v0 v1 v2 v3 v4 v5 v6 v8 σ
set_option maxRecDepth 100000 in
set_option maxHeartbeats 4000000 in
theorem v_L_areThings_b204 {D : DG} {z0 : Nat} {l : Launch} {rec67 : Option Nat → Int32 → Int32 → Int32 → Int32 → Int32 → Int32 → Int32 → Int32 → SG → Option (Int32 × SG)} (hrec67 : ∀ (v0 : Option Nat) (v1 : Int32) (v2 : Int32) (v3 : Int32) (v4 : Int32) (v5 : Int32) (v6 : Int32) (v7 : Int32) (v8 : Int32) (σ : SG), V D z0 l RL cL_areThings 13 wsL_areThings (some .boolean) rmL_areThings false tvI 67 [some (va_rf v0), some (.int v1), some (.int v2), some (.int v3), some (.int v4), some (.int v5), some (.int v6), some (.int v7), some (.int v8), none, none, none, none] [] σ 0 0 (rec67 v0 v1 v2 v3 v4 v5 v6 v7 v8 σ)) : ∀ (v0 : Option Nat) (v1 : Int32) (v2 : Int32) (v3 : Int32) (v4 : Int32) (v5 : Int32) (v6 : Int32) (v8 : Int32) (v9 : Int32) (v10 : Int32) (v11 : Int32) (v12 : Int32) (s0 : Int32) (s1 : Int32) (σ : SG), V D z0 l RL cL_areThings 13 wsL_areThings (some .boolean) rmL_areThings false tvI 204 [some (va_rf v0), some (.int v1), some (.int v2), some (.int v3), some (.int v4), some (.int v5), some (.int v6), none, some (.int v8), some (.int v9), some (.int v10), some (.int v11), some (.int v12)] [.int s1, .int s0] σ 0 0 (m_L_areThings_b204 rec67 v0 v1 v2 v3 v4 v5 v6 v8 v9 v10 v11 v12 s0 s1 σ) := by
  intro v0 v1 v2 v3 v4 v5 v6 v8 v9 v10 v11 v12 s0 s1 σ
  unfold m_L_areThings_b204
  refine V_icmp_ne (tgt := 299) (x := s0) (y := s1) dL_areThings_204 (by decide) (fun hc47 => ?_) (fun hc47 => ?_)
  · refine V_iload (x := v10) dL_areThings_207 rfl ?_
    refine V_bipush (v := (16 : Int32)) dL_areThings_209 rfl ?_
    refine V_icmp_gt (tgt := 299) (x := v10) (y := (16 : Int32)) dL_areThings_211 (by decide) (fun hc48 => ?_) (fun hc48 => ?_)
    · exact V_sub (LE.s (LE.s (LE.s (LE.s (LE.s (LE.s (LE.s (LE.s (LE.s (LE.n (LE.n (LE.n (LE.n LE.e))))))))))))) (v_L_areThings_b299 hrec67 v0 v1 v2 v3 v4 v5 v6 v8 σ)
    · refine V_iload (x := v11) dL_areThings_214 rfl ?_
      refine V_iconst (v := (2 : Int32)) dL_areThings_216 rfl ?_
      refine V_icmp_gt (tgt := 299) (x := v11) (y := (2 : Int32)) dL_areThings_217 (by decide) (fun hc49 => ?_) (fun hc49 => ?_)
      · exact V_sub (LE.s (LE.s (LE.s (LE.s (LE.s (LE.s (LE.s (LE.s (LE.s (LE.n (LE.n (LE.n (LE.n LE.e))))))))))))) (v_L_areThings_b299 hrec67 v0 v1 v2 v3 v4 v5 v6 v8 σ)
      · refine V_iload (x := v10) dL_areThings_220 rfl ?_
        refine V_if_ge (tgt := 235) (x := v10) dL_areThings_222 (by decide) (fun hc50 => ?_) (fun hc50 => ?_)
        · refine V_iload (x := v9) dL_areThings_235 rfl ?_
          refine V_if_le (tgt := 299) (x := v9) dL_areThings_237 (by decide) (fun hc51 => ?_) (fun hc51 => ?_)
          · exact V_sub (LE.s (LE.s (LE.s (LE.s (LE.s (LE.s (LE.s (LE.s (LE.s (LE.n (LE.n (LE.n (LE.n LE.e))))))))))))) (v_L_areThings_b299 hrec67 v0 v1 v2 v3 v4 v5 v6 v8 σ)
          · refine V_aload_n (x := v0) dL_areThings_240 rfl ?_
            refine V_iload (x := v8) dL_areThings_241 rfl ?_
            refine V_iconst (v := (5 : Int32)) dL_areThings_243 rfl ?_
            refine V_callV0 (As := [.int v8, .int (5 : Int32)]) (st0 := []) (stI := [.int (5 : Int32), .int v8, va_rf v0]) (fun _ h => by cases h; exact t_X8_senderOf _ v8 (5 : Int32) σ) (q := (RX8, TX8, 6)) rfl rfl rfl (Nat.le_of_ble_eq_true rfl) rfl (fun s args hts => cwV 2 hts gL_areThings_X8_senderOf rfl rfl rfl (by decide +kernel) ⟨Nat.le_of_ble_eq_true rfl, Nat.le_of_ble_eq_true rfl⟩) rfl rfl dL_areThings_244 (fun r52 σ53 _ => ?_)
            refine V_if_ne (tgt := 299) (x := r52) dL_areThings_247 (by decide) (fun hc54 => ?_) (fun hc54 => ?_)
            · refine V_iload (x := v12) dL_areThings_250 rfl ?_
              refine V_iload (x := v10) dL_areThings_252 rfl ?_
              refine V_bipush (v := (13 : Int32)) dL_areThings_254 rfl ?_
              refine V_icmp_le (tgt := 263) (x := v10) (y := (13 : Int32)) dL_areThings_256 (by decide) (fun hc55 => ?_) (fun hc55 => ?_)
              · refine V_aload_n (x := v0) dL_areThings_263 rfl ?_
                refine V_aload_n (x := v0) dL_areThings_264 rfl ?_
                refine V_iload (x := v8) dL_areThings_265 rfl ?_
                refine V_iconst (v := (0 : Int32)) dL_areThings_267 rfl ?_
                refine V_callV0 (As := [.int v8, .int (0 : Int32)]) (st0 := [va_rf v0, .int v12]) (stI := [.int (0 : Int32), .int v8, va_rf v0, va_rf v0, .int v12]) (fun _ h => by cases h; exact t_X8_queued _ v8 (0 : Int32) σ53) (q := (RX8, TX8, 6)) rfl rfl rfl (by simp only [List.map_cons, List.map_nil, List.sum_cons, List.sum_nil, va_rf_cat, catI, catF]; decide) rfl (fun s args hts => cwV 2 hts gL_areThings_X8_queued rfl rfl rfl (by decide +kernel) ⟨Nat.le_of_ble_eq_true rfl, Nat.le_of_ble_eq_true rfl⟩) rfl rfl dL_areThings_268 (fun r56 σ57 _ => ?_)
                refine V_iload (x := v10) dL_areThings_271 rfl ?_
                refine V_callV0 (As := [.int r56, .int v10]) (st0 := [.int v12]) (stI := [.int v10, .int r56, va_rf v0, .int v12]) (fun _ h => by cases h; exact t_X8_frame _ r56 v10 σ57) (q := (RX8, TX8, 6)) rfl rfl rfl (Nat.le_of_ble_eq_true rfl) rfl (fun s args hts => cwV 2 hts gL_areThings_X8_frame rfl rfl rfl (by decide +kernel) ⟨Nat.le_of_ble_eq_true rfl, Nat.le_of_ble_eq_true rfl⟩) rfl rfl dL_areThings_273 (fun r58 σ59 _ => ?_)
                exact V_sub (LE.s (LE.s (LE.s (LE.s (LE.s (LE.s (LE.s (LE.s (LE.s (LE.n (LE.n (LE.n (LE.n LE.e))))))))))))) (v_L_areThings_b276 hrec67 v0 v1 v2 v3 v4 v5 v6 v8 v12 r58 σ59)
              · refine V_iconst (v := (0 : Int32)) dL_areThings_259 rfl ?_
                refine V_goto (tgt := 276) dL_areThings_260 (by decide) ?_
                exact V_sub (LE.s (LE.s (LE.s (LE.s (LE.s (LE.s (LE.s (LE.s (LE.s (LE.n (LE.n (LE.n (LE.n LE.e))))))))))))) (v_L_areThings_b276 hrec67 v0 v1 v2 v3 v4 v5 v6 v8 v12 ((0 : Int32)) σ53)
            · exact V_sub (LE.s (LE.s (LE.s (LE.s (LE.s (LE.s (LE.s (LE.s (LE.s (LE.n (LE.n (LE.n (LE.n LE.e))))))))))))) (v_L_areThings_b299 hrec67 v0 v1 v2 v3 v4 v5 v6 v8 σ53)
        · refine V_iload (x := v12) dL_areThings_225 rfl ?_
          refine V_bipush (v := (-5 : Int32)) dL_areThings_227 rfl ?_
          refine V_icmp_ne (tgt := 299) (x := v12) (y := (-5 : Int32)) dL_areThings_229 (by decide) (fun hc60 => ?_) (fun hc60 => ?_)
          · refine V_goto (tgt := 279) dL_areThings_232 (by decide) ?_
            exact V_sub (LE.s (LE.s (LE.s (LE.s (LE.s (LE.s (LE.s (LE.s (LE.s (LE.n (LE.n (LE.n (LE.n LE.e))))))))))))) (v_L_areThings_b279 hrec67 v0 v1 v2 v3 v4 v5 v6 v8 σ)
          · exact V_sub (LE.s (LE.s (LE.s (LE.s (LE.s (LE.s (LE.s (LE.s (LE.s (LE.n (LE.n (LE.n (LE.n LE.e))))))))))))) (v_L_areThings_b299 hrec67 v0 v1 v2 v3 v4 v5 v6 v8 σ)
  · exact V_sub (LE.s (LE.s (LE.s (LE.s (LE.s (LE.s (LE.s (LE.s (LE.s (LE.n (LE.n (LE.n (LE.n LE.e))))))))))))) (v_L_areThings_b299 hrec67 v0 v1 v2 v3 v4 v5 v6 v8 σ)
set_option maxRecDepth 100000 in
set_option maxHeartbeats 4000000 in
theorem v_L_areThings_b194 {D : DG} {z0 : Nat} {l : Launch} {rec67 : Option Nat → Int32 → Int32 → Int32 → Int32 → Int32 → Int32 → Int32 → Int32 → SG → Option (Int32 × SG)} (hrec67 : ∀ (v0 : Option Nat) (v1 : Int32) (v2 : Int32) (v3 : Int32) (v4 : Int32) (v5 : Int32) (v6 : Int32) (v7 : Int32) (v8 : Int32) (σ : SG), V D z0 l RL cL_areThings 13 wsL_areThings (some .boolean) rmL_areThings false tvI 67 [some (va_rf v0), some (.int v1), some (.int v2), some (.int v3), some (.int v4), some (.int v5), some (.int v6), some (.int v7), some (.int v8), none, none, none, none] [] σ 0 0 (rec67 v0 v1 v2 v3 v4 v5 v6 v7 v8 σ)) : ∀ (v0 : Option Nat) (v1 : Int32) (v2 : Int32) (v3 : Int32) (v4 : Int32) (v5 : Int32) (v6 : Int32) (v8 : Int32) (v9 : Int32) (v10 : Int32) (v11 : Int32) (v12 : Int32) (s0 : Int32) (σ : SG), V D z0 l RL cL_areThings 13 wsL_areThings (some .boolean) rmL_areThings false tvI 194 [some (va_rf v0), some (.int v1), some (.int v2), some (.int v3), some (.int v4), some (.int v5), some (.int v6), none, some (.int v8), some (.int v9), some (.int v10), some (.int v11), some (.int v12)] [.int s0] σ 0 0 (m_L_areThings_b194 rec67 v0 v1 v2 v3 v4 v5 v6 v8 v9 v10 v11 v12 s0 σ) := by
  intro v0 v1 v2 v3 v4 v5 v6 v8 v9 v10 v11 v12 s0 σ
  unfold m_L_areThings_b194
  refine V_iload (x := v11) dL_areThings_194 rfl ?_
  refine V_if_lt (tgt := 203) (x := v11) dL_areThings_196 (by decide) (fun hc61 => ?_) (fun hc61 => ?_)
  · refine V_iconst (v := (0 : Int32)) dL_areThings_203 rfl ?_
    exact v_L_areThings_b204 hrec67 v0 v1 v2 v3 v4 v5 v6 v8 v9 v10 v11 v12 s0 ((0 : Int32)) σ
  · refine V_iconst (v := (1 : Int32)) dL_areThings_199 rfl ?_
    refine V_goto (tgt := 204) dL_areThings_200 (by decide) ?_
    exact v_L_areThings_b204 hrec67 v0 v1 v2 v3 v4 v5 v6 v8 v9 v10 v11 v12 s0 ((1 : Int32)) σ
set_option maxRecDepth 100000 in
set_option maxHeartbeats 4000000 in
theorem v_L_areThings_b184 {D : DG} {z0 : Nat} {l : Launch} {rec67 : Option Nat → Int32 → Int32 → Int32 → Int32 → Int32 → Int32 → Int32 → Int32 → SG → Option (Int32 × SG)} (hrec67 : ∀ (v0 : Option Nat) (v1 : Int32) (v2 : Int32) (v3 : Int32) (v4 : Int32) (v5 : Int32) (v6 : Int32) (v7 : Int32) (v8 : Int32) (σ : SG), V D z0 l RL cL_areThings 13 wsL_areThings (some .boolean) rmL_areThings false tvI 67 [some (va_rf v0), some (.int v1), some (.int v2), some (.int v3), some (.int v4), some (.int v5), some (.int v6), some (.int v7), some (.int v8), none, none, none, none] [] σ 0 0 (rec67 v0 v1 v2 v3 v4 v5 v6 v7 v8 σ)) : ∀ (v0 : Option Nat) (v1 : Int32) (v2 : Int32) (v3 : Int32) (v4 : Int32) (v5 : Int32) (v6 : Int32) (v8 : Int32) (v9 : Int32) (v10 : Int32) (v11 : Int32) (v12 : Int32) (σ : SG), V D z0 l RL cL_areThings 13 wsL_areThings (some .boolean) rmL_areThings false tvI 184 [some (va_rf v0), some (.int v1), some (.int v2), some (.int v3), some (.int v4), some (.int v5), some (.int v6), none, some (.int v8), some (.int v9), some (.int v10), some (.int v11), some (.int v12)] [] σ 0 0 (m_L_areThings_b184 rec67 v0 v1 v2 v3 v4 v5 v6 v8 v9 v10 v11 v12 σ) := by
  intro v0 v1 v2 v3 v4 v5 v6 v8 v9 v10 v11 v12 σ
  unfold m_L_areThings_b184
  refine V_iload (x := v10) dL_areThings_184 rfl ?_
  refine V_if_lt (tgt := 193) (x := v10) dL_areThings_186 (by decide) (fun hc62 => ?_) (fun hc62 => ?_)
  · refine V_iconst (v := (0 : Int32)) dL_areThings_193 rfl ?_
    exact v_L_areThings_b194 hrec67 v0 v1 v2 v3 v4 v5 v6 v8 v9 v10 v11 v12 ((0 : Int32)) σ
  · refine V_iconst (v := (1 : Int32)) dL_areThings_189 rfl ?_
    refine V_goto (tgt := 194) dL_areThings_190 (by decide) ?_
    exact v_L_areThings_b194 hrec67 v0 v1 v2 v3 v4 v5 v6 v8 v9 v10 v11 v12 ((1 : Int32)) σ
set_option maxRecDepth 100000 in
set_option maxHeartbeats 4000000 in
theorem v_L_areThings_b139 {D : DG} {z0 : Nat} {l : Launch} {rec67 : Option Nat → Int32 → Int32 → Int32 → Int32 → Int32 → Int32 → Int32 → Int32 → SG → Option (Int32 × SG)} (hrec67 : ∀ (v0 : Option Nat) (v1 : Int32) (v2 : Int32) (v3 : Int32) (v4 : Int32) (v5 : Int32) (v6 : Int32) (v7 : Int32) (v8 : Int32) (σ : SG), V D z0 l RL cL_areThings 13 wsL_areThings (some .boolean) rmL_areThings false tvI 67 [some (va_rf v0), some (.int v1), some (.int v2), some (.int v3), some (.int v4), some (.int v5), some (.int v6), some (.int v7), some (.int v8), none, none, none, none] [] σ 0 0 (rec67 v0 v1 v2 v3 v4 v5 v6 v7 v8 σ)) : ∀ (v0 : Option Nat) (v1 : Int32) (v3 : Int32) (v4 : Int32) (v5 : Int32) (v6 : Int32) (v8 : Int32) (v9 : Int32) (v10 : Int32) (v11 : Int32) (v12 : Int32) (s0 : Int32) (s1 : Int32) (σ : SG), V D z0 l RL cL_areThings 13 wsL_areThings (some .boolean) rmL_areThings false tvI 139 [some (va_rf v0), some (.int v1), none, some (.int v3), some (.int v4), some (.int v5), some (.int v6), none, some (.int v8), some (.int v9), some (.int v10), some (.int v11), some (.int v12)] [.int s1, .int s0] σ 0 0 (m_L_areThings_b139 rec67 v0 v1 v3 v4 v5 v6 v8 v9 v10 v11 v12 s0 s1 σ) := by
  intro v0 v1 v3 v4 v5 v6 v8 v9 v10 v11 v12 s0 s1 σ
  unfold m_L_areThings_b139
  refine V_iadd (x := s0) (y := s1) dL_areThings_139 ?_
  refine V_istore_n (x := (s0 + s1)) (ls' := [some (va_rf v0), some (.int v1), some (.int (s0 + s1)), some (.int v3), some (.int v4), some (.int v5), some (.int v6), none, some (.int v8), some (.int v9), some (.int v10), some (.int v11), some (.int v12)]) dL_areThings_140 (by decide) rfl ?_
  refine V_iload_n (x := v3) dL_areThings_141 rfl ?_
  refine V_iload (x := v9) dL_areThings_142 rfl ?_
  refine V_iadd (x := v3) (y := v9) dL_areThings_144 ?_
  refine V_istore_n (x := (v3 + v9)) (ls' := [some (va_rf v0), some (.int v1), some (.int (s0 + s1)), some (.int (v3 + v9)), some (.int v4), some (.int v5), some (.int v6), none, some (.int v8), some (.int v9), some (.int v10), some (.int v11), some (.int v12)]) dL_areThings_145 (by decide) rfl ?_
  refine V_iload (x := v9) dL_areThings_146 rfl ?_
  refine V_bipush (v := (6 : Int32)) dL_areThings_148 rfl ?_
  refine V_icmp_gt (tgt := 299) (x := v9) (y := (6 : Int32)) dL_areThings_150 (by decide) (fun hc63 => ?_) (fun hc63 => ?_)
  · exact V_sub (LE.s (LE.s (LE.s (LE.s (LE.s (LE.s (LE.s (LE.s (LE.s (LE.n (LE.n (LE.n (LE.n LE.e))))))))))))) (v_L_areThings_b299 hrec67 v0 v1 ((s0 + s1)) ((v3 + v9)) v4 v5 v6 v8 σ)
  · refine V_aload_n (x := v0) dL_areThings_153 rfl ?_
    refine V_iload (x := v8) dL_areThings_154 rfl ?_
    refine V_iload (x := v9) dL_areThings_156 rfl ?_
    refine V_callV0 (As := [.int v8, .int v9]) (st0 := []) (stI := [.int v9, .int v8, va_rf v0]) (fun _ h => by cases h; exact t_X8_queued _ v8 v9 σ) (q := (RX8, TX8, 6)) rfl rfl rfl (Nat.le_of_ble_eq_true rfl) rfl (fun s args hts => cwV 2 hts gL_areThings_X8_queued rfl rfl rfl (by decide +kernel) ⟨Nat.le_of_ble_eq_true rfl, Nat.le_of_ble_eq_true rfl⟩) rfl rfl dL_areThings_158 (fun r64 σ65 _ => ?_)
    refine V_bipush (v := (-5 : Int32)) dL_areThings_161 rfl ?_
    refine V_icmp_ne (tgt := 299) (x := r64) (y := (-5 : Int32)) dL_areThings_163 (by decide) (fun hc66 => ?_) (fun hc66 => ?_)
    · refine V_iload (x := v9) dL_areThings_166 rfl ?_
      refine V_if_eq (tgt := 184) (x := v9) dL_areThings_168 (by decide) (fun hc67 => ?_) (fun hc67 => ?_)
      · exact v_L_areThings_b184 hrec67 v0 v1 ((s0 + s1)) ((v3 + v9)) v4 v5 v6 v8 v9 v10 v11 v12 σ65
      · refine V_aload_n (x := v0) dL_areThings_171 rfl ?_
        refine V_iload (x := v8) dL_areThings_172 rfl ?_
        refine V_iload (x := v9) dL_areThings_174 rfl ?_
        refine V_iconst (v := (1 : Int32)) dL_areThings_176 rfl ?_
        refine V_isub (x := v9) (y := (1 : Int32)) dL_areThings_177 ?_
        refine V_callV0 (As := [.int v8, .int (v9 - (1 : Int32))]) (st0 := []) (stI := [.int (v9 - (1 : Int32)), .int v8, va_rf v0]) (fun _ h => by cases h; exact t_X8_queued _ v8 (v9 - (1 : Int32)) σ65) (q := (RX8, TX8, 6)) rfl rfl rfl (Nat.le_of_ble_eq_true rfl) rfl (fun s args hts => cwV 2 hts gL_areThings_X8_queued rfl rfl rfl (by decide +kernel) ⟨Nat.le_of_ble_eq_true rfl, Nat.le_of_ble_eq_true rfl⟩) rfl rfl dL_areThings_178 (fun r68 σ69 _ => ?_)
        refine V_if_lt (tgt := 299) (x := r68) dL_areThings_181 (by decide) (fun hc70 => ?_) (fun hc70 => ?_)
        · exact V_sub (LE.s (LE.s (LE.s (LE.s (LE.s (LE.s (LE.s (LE.s (LE.s (LE.n (LE.n (LE.n (LE.n LE.e))))))))))))) (v_L_areThings_b299 hrec67 v0 v1 ((s0 + s1)) ((v3 + v9)) v4 v5 v6 v8 σ69)
        · exact v_L_areThings_b184 hrec67 v0 v1 ((s0 + s1)) ((v3 + v9)) v4 v5 v6 v8 v9 v10 v11 v12 σ69
    · exact V_sub (LE.s (LE.s (LE.s (LE.s (LE.s (LE.s (LE.s (LE.s (LE.s (LE.n (LE.n (LE.n (LE.n LE.e))))))))))))) (v_L_areThings_b299 hrec67 v0 v1 ((s0 + s1)) ((v3 + v9)) v4 v5 v6 v8 σ65)
set_option maxRecDepth 100000 in
set_option maxHeartbeats 4000000 in
theorem v_L_areThings_B67 {D : DG} {z0 : Nat} {l : Launch} {rec67 : Option Nat → Int32 → Int32 → Int32 → Int32 → Int32 → Int32 → Int32 → Int32 → SG → Option (Int32 × SG)} (hrec67 : ∀ (v0 : Option Nat) (v1 : Int32) (v2 : Int32) (v3 : Int32) (v4 : Int32) (v5 : Int32) (v6 : Int32) (v7 : Int32) (v8 : Int32) (σ : SG), V D z0 l RL cL_areThings 13 wsL_areThings (some .boolean) rmL_areThings false tvI 67 [some (va_rf v0), some (.int v1), some (.int v2), some (.int v3), some (.int v4), some (.int v5), some (.int v6), some (.int v7), some (.int v8), none, none, none, none] [] σ 0 0 (rec67 v0 v1 v2 v3 v4 v5 v6 v7 v8 σ)) : ∀ (v0 : Option Nat) (v1 : Int32) (v2 : Int32) (v3 : Int32) (v4 : Int32) (v5 : Int32) (v6 : Int32) (v7 : Int32) (v8 : Int32) (σ : SG), V D z0 l RL cL_areThings 13 wsL_areThings (some .boolean) rmL_areThings false tvI 67 [some (va_rf v0), some (.int v1), some (.int v2), some (.int v3), some (.int v4), some (.int v5), some (.int v6), some (.int v7), some (.int v8), none, none, none, none] [] σ 0 0 (m_L_areThings_B67 rec67 v0 v1 v2 v3 v4 v5 v6 v7 v8 σ) := by
  intro v0 v1 v2 v3 v4 v5 v6 v7 v8 σ
  unfold m_L_areThings_B67
  refine V_iload (x := v8) dL_areThings_67 rfl ?_
  refine V_iconst (v := (5 : Int32)) dL_areThings_69 rfl ?_
  refine V_icmp_ge (tgt := 308) (x := v8) (y := (5 : Int32)) dL_areThings_70 (by decide) (fun hc71 => ?_) (fun hc71 => ?_)
  · exact V_sub (LE.s (LE.s (LE.s (LE.s (LE.s (LE.s (LE.s (LE.s (LE.n (LE.s (LE.s (LE.s (LE.s LE.e))))))))))))) (v_L_areThings_b308  v0 v1 v2 v3 v4 v5 v6 v7 σ)
  · refine V_iload (x := v7) dL_areThings_73 rfl ?_
    refine V_if_eq (tgt := 308) (x := v7) dL_areThings_75 (by decide) (fun hc72 => ?_) (fun hc72 => ?_)
    · exact V_sub (LE.s (LE.s (LE.s (LE.s (LE.s (LE.s (LE.s (LE.s (LE.n (LE.s (LE.s (LE.s (LE.s LE.e))))))))))))) (v_L_areThings_b308  v0 v1 v2 v3 v4 v5 v6 v7 σ)
    · refine V_aload_n (x := v0) dL_areThings_78 rfl ?_
      refine V_iload (x := v8) dL_areThings_79 rfl ?_
      refine V_iconst (v := (0 : Int32)) dL_areThings_81 rfl ?_
      refine V_callV0 (As := [.int v8, .int (0 : Int32)]) (st0 := []) (stI := [.int (0 : Int32), .int v8, va_rf v0]) (fun _ h => by cases h; exact t_X8_senderOf _ v8 (0 : Int32) σ) (q := (RX8, TX8, 6)) rfl rfl rfl (Nat.le_of_ble_eq_true rfl) rfl (fun s args hts => cwV 2 hts gL_areThings_X8_senderOf rfl rfl rfl (by decide +kernel) ⟨Nat.le_of_ble_eq_true rfl, Nat.le_of_ble_eq_true rfl⟩) rfl rfl dL_areThings_82 (fun r73 σ74 _ => ?_)
      refine V_if_lt (tgt := 302) (x := r73) dL_areThings_85 (by decide) (fun hc75 => ?_) (fun hc75 => ?_)
      · exact v_L_areThings_b302 hrec67 v0 v1 v2 v3 v4 v5 v6 v7 v8 σ74
      · refine V_aload_n (x := v0) dL_areThings_88 rfl ?_
        refine V_iload (x := v8) dL_areThings_89 rfl ?_
        refine V_iconst (v := (2 : Int32)) dL_areThings_91 rfl ?_
        refine V_callV0 (As := [.int v8, .int (2 : Int32)]) (st0 := []) (stI := [.int (2 : Int32), .int v8, va_rf v0]) (fun _ h => by cases h; exact t_X8_senderOf _ v8 (2 : Int32) σ74) (q := (RX8, TX8, 6)) rfl rfl rfl (Nat.le_of_ble_eq_true rfl) rfl (fun s args hts => cwV 2 hts gL_areThings_X8_senderOf rfl rfl rfl (by decide +kernel) ⟨Nat.le_of_ble_eq_true rfl, Nat.le_of_ble_eq_true rfl⟩) rfl rfl dL_areThings_92 (fun r76 σ77 _ => ?_)
        refine V_istore (x := r76) (ls' := [some (va_rf v0), some (.int v1), some (.int v2), some (.int v3), some (.int v4), some (.int v5), some (.int v6), some (.int v7), some (.int v8), some (.int r76), none, none, none]) dL_areThings_95 (by decide) rfl ?_
        refine V_aload_n (x := v0) dL_areThings_97 rfl ?_
        refine V_iload (x := v8) dL_areThings_98 rfl ?_
        refine V_iconst (v := (3 : Int32)) dL_areThings_100 rfl ?_
        refine V_callV0 (As := [.int v8, .int (3 : Int32)]) (st0 := []) (stI := [.int (3 : Int32), .int v8, va_rf v0]) (fun _ h => by cases h; exact t_X8_senderOf _ v8 (3 : Int32) σ77) (q := (RX8, TX8, 6)) rfl rfl rfl (Nat.le_of_ble_eq_true rfl) rfl (fun s args hts => cwV 2 hts gL_areThings_X8_senderOf rfl rfl rfl (by decide +kernel) ⟨Nat.le_of_ble_eq_true rfl, Nat.le_of_ble_eq_true rfl⟩) rfl rfl dL_areThings_101 (fun r78 σ79 _ => ?_)
        refine V_istore (x := r78) (ls' := [some (va_rf v0), some (.int v1), some (.int v2), some (.int v3), some (.int v4), some (.int v5), some (.int v6), some (.int v7), some (.int v8), some (.int r76), some (.int r78), none, none]) dL_areThings_104 (by decide) rfl ?_
        refine V_aload_n (x := v0) dL_areThings_106 rfl ?_
        refine V_iload (x := v8) dL_areThings_107 rfl ?_
        refine V_iconst (v := (4 : Int32)) dL_areThings_109 rfl ?_
        refine V_callV0 (As := [.int v8, .int (4 : Int32)]) (st0 := []) (stI := [.int (4 : Int32), .int v8, va_rf v0]) (fun _ h => by cases h; exact t_X8_senderOf _ v8 (4 : Int32) σ79) (q := (RX8, TX8, 6)) rfl rfl rfl (Nat.le_of_ble_eq_true rfl) rfl (fun s args hts => cwV 2 hts gL_areThings_X8_senderOf rfl rfl rfl (by decide +kernel) ⟨Nat.le_of_ble_eq_true rfl, Nat.le_of_ble_eq_true rfl⟩) rfl rfl dL_areThings_110 (fun r80 σ81 _ => ?_)
        refine V_istore (x := r80) (ls' := [some (va_rf v0), some (.int v1), some (.int v2), some (.int v3), some (.int v4), some (.int v5), some (.int v6), some (.int v7), some (.int v8), some (.int r76), some (.int r78), some (.int r80), none]) dL_areThings_113 (by decide) rfl ?_
        refine V_aload_n (x := v0) dL_areThings_115 rfl ?_
        refine V_iload (x := v8) dL_areThings_116 rfl ?_
        refine V_bipush (v := (6 : Int32)) dL_areThings_118 rfl ?_
        refine V_callV0 (As := [.int v8, .int (6 : Int32)]) (st0 := []) (stI := [.int (6 : Int32), .int v8, va_rf v0]) (fun _ h => by cases h; exact t_X8_senderOf _ v8 (6 : Int32) σ81) (q := (RX8, TX8, 6)) rfl rfl rfl (Nat.le_of_ble_eq_true rfl) rfl (fun s args hts => cwV 2 hts gL_areThings_X8_senderOf rfl rfl rfl (by decide +kernel) ⟨Nat.le_of_ble_eq_true rfl, Nat.le_of_ble_eq_true rfl⟩) rfl rfl dL_areThings_120 (fun r82 σ83 _ => ?_)
        refine V_istore (x := r82) (ls' := [some (va_rf v0), some (.int v1), some (.int v2), some (.int v3), some (.int v4), some (.int v5), some (.int v6), some (.int v7), some (.int v8), some (.int r76), some (.int r78), some (.int r80), some (.int r82)]) dL_areThings_123 (by decide) rfl ?_
        refine V_iinc (x := v1) (v := (v1 + 1)) (ls' := [some (va_rf v0), some (.int (v1 + 1)), some (.int v2), some (.int v3), some (.int v4), some (.int v5), some (.int v6), some (.int v7), some (.int v8), some (.int r76), some (.int r78), some (.int r80), some (.int r82)]) dL_areThings_125 rfl rfl (by decide) rfl ?_
        refine V_iload_n (x := v2) dL_areThings_128 rfl ?_
        refine V_iload (x := r78) dL_areThings_129 rfl ?_
        refine V_if_lt (tgt := 138) (x := r78) dL_areThings_131 (by decide) (fun hc84 => ?_) (fun hc84 => ?_)
        · refine V_iconst (v := (0 : Int32)) dL_areThings_138 rfl ?_
          exact V_sub (LE.s (LE.s (LE.n (LE.s (LE.s (LE.s (LE.s (LE.n (LE.s (LE.s (LE.s (LE.s (LE.s LE.e))))))))))))) (v_L_areThings_b139 hrec67 v0 ((v1 + 1)) v3 v4 v5 v6 v8 r76 r78 r80 r82 v2 ((0 : Int32)) σ83)
        · refine V_iconst (v := (1 : Int32)) dL_areThings_134 rfl ?_
          refine V_goto (tgt := 139) dL_areThings_135 (by decide) ?_
          exact V_sub (LE.s (LE.s (LE.n (LE.s (LE.s (LE.s (LE.s (LE.n (LE.s (LE.s (LE.s (LE.s (LE.s LE.e))))))))))))) (v_L_areThings_b139 hrec67 v0 ((v1 + 1)) v3 v4 v5 v6 v8 r76 r78 r80 r82 v2 ((1 : Int32)) σ83)
theorem v_L_areThings_L67 {D : DG} {z0 : Nat} {l : Launch} : ∀ (n : Nat) (v0 : Option Nat) (v1 : Int32) (v2 : Int32) (v3 : Int32) (v4 : Int32) (v5 : Int32) (v6 : Int32) (v7 : Int32) (v8 : Int32) (σ : SG), V D z0 l RL cL_areThings 13 wsL_areThings (some .boolean) rmL_areThings false tvI 67 [some (va_rf v0), some (.int v1), some (.int v2), some (.int v3), some (.int v4), some (.int v5), some (.int v6), some (.int v7), some (.int v8), none, none, none, none] [] σ 0 0 (m_L_areThings_L67 n v0 v1 v2 v3 v4 v5 v6 v7 v8 σ) := by
  intro n
  induction n with
  | zero => intros; exact V_none
  | succ n ih => exact v_L_areThings_B67  ih
set_option maxRecDepth 100000 in
set_option maxHeartbeats 4000000 in
theorem v_L_areThings_b62 {D : DG} {z0 : Nat} {l : Launch} : ∀ (v0 : Option Nat) (v1 : Int32) (v2 : Int32) (v3 : Int32) (v4 : Int32) (v5 : Int32) (v6 : Int32) (s0 : Int32) (σ : SG), V D z0 l RL cL_areThings 13 wsL_areThings (some .boolean) rmL_areThings false tvI 62 [some (va_rf v0), some (.int v1), some (.int v2), some (.int v3), some (.int v4), some (.int v5), some (.int v6), none, none, none, none, none, none] [.int s0] σ 0 0 (m_L_areThings_b62 v0 v1 v2 v3 v4 v5 v6 s0 σ) := by
  intro v0 v1 v2 v3 v4 v5 v6 s0 σ
  unfold m_L_areThings_b62
  refine V_istore (x := s0) (ls' := [some (va_rf v0), some (.int v1), some (.int v2), some (.int v3), some (.int v4), some (.int v5), some (.int v6), some (.int s0), none, none, none, none, none]) dL_areThings_62 (by decide) rfl ?_
  refine V_iconst (v := (0 : Int32)) dL_areThings_64 rfl ?_
  refine V_istore (x := (0 : Int32)) (ls' := [some (va_rf v0), some (.int v1), some (.int v2), some (.int v3), some (.int v4), some (.int v5), some (.int v6), some (.int s0), some (.int (0 : Int32)), none, none, none, none]) dL_areThings_65 (by decide) rfl ?_
  exact v_L_areThings_L67  1000 v0 v1 v2 v3 v4 v5 v6 s0 ((0 : Int32)) σ
set_option maxRecDepth 100000 in
set_option maxHeartbeats 4000000 in
theorem v_L_areThings_b61 {D : DG} {z0 : Nat} {l : Launch} : ∀ (v0 : Option Nat) (v1 : Int32) (v2 : Int32) (v3 : Int32) (v4 : Int32) (v5 : Int32) (v6 : Int32) (σ : SG), V D z0 l RL cL_areThings 13 wsL_areThings (some .boolean) rmL_areThings false tvI 61 [some (va_rf v0), some (.int v1), some (.int v2), some (.int v3), some (.int v4), some (.int v5), some (.int v6), none, none, none, none, none, none] [] σ 0 0 (m_L_areThings_b61 v0 v1 v2 v3 v4 v5 v6 σ) := by
  intro v0 v1 v2 v3 v4 v5 v6 σ
  unfold m_L_areThings_b61
  refine V_iconst (v := (0 : Int32)) dL_areThings_61 rfl ?_
  exact v_L_areThings_b62  v0 v1 v2 v3 v4 v5 v6 ((0 : Int32)) σ
set_option maxRecDepth 100000 in
set_option maxHeartbeats 4000000 in
theorem v_L_areThings {D : DG} {z0 : Nat} {l : Launch} : ∀ (a0 : Option Nat) (σ : SG), V D z0 l RL cL_areThings 13 wsL_areThings (some .boolean) rmL_areThings false tvI 0 [some (va_rf a0), none, none, none, none, none, none, none, none, none, none, none, none] [] σ 0 0 (m_L_areThings a0 σ) := by
  intro a0 σ
  unfold m_L_areThings
  refine V_iconst (v := (0 : Int32)) dL_areThings_0 rfl ?_
  refine V_istore_n (x := (0 : Int32)) (ls' := [some (va_rf a0), some (.int (0 : Int32)), none, none, none, none, none, none, none, none, none, none, none]) dL_areThings_1 (by decide) rfl ?_
  refine V_iconst (v := (0 : Int32)) dL_areThings_2 rfl ?_
  refine V_istore_n (x := (0 : Int32)) (ls' := [some (va_rf a0), some (.int (0 : Int32)), some (.int (0 : Int32)), none, none, none, none, none, none, none, none, none, none]) dL_areThings_3 (by decide) rfl ?_
  refine V_iconst (v := (0 : Int32)) dL_areThings_4 rfl ?_
  refine V_istore_n (x := (0 : Int32)) (ls' := [some (va_rf a0), some (.int (0 : Int32)), some (.int (0 : Int32)), some (.int (0 : Int32)), none, none, none, none, none, none, none, none, none]) dL_areThings_5 (by decide) rfl ?_
  refine V_iconst (v := (0 : Int32)) dL_areThings_6 rfl ?_
  refine V_istore (x := (0 : Int32)) (ls' := [some (va_rf a0), some (.int (0 : Int32)), some (.int (0 : Int32)), some (.int (0 : Int32)), some (.int (0 : Int32)), none, none, none, none, none, none, none, none]) dL_areThings_7 (by decide) rfl ?_
  refine V_iconst (v := (0 : Int32)) dL_areThings_9 rfl ?_
  refine V_istore (x := (0 : Int32)) (ls' := [some (va_rf a0), some (.int (0 : Int32)), some (.int (0 : Int32)), some (.int (0 : Int32)), some (.int (0 : Int32)), some (.int (0 : Int32)), none, none, none, none, none, none, none]) dL_areThings_10 (by decide) rfl ?_
  refine V_iconst (v := (0 : Int32)) dL_areThings_12 rfl ?_
  refine V_istore (x := (0 : Int32)) (ls' := [some (va_rf a0), some (.int (0 : Int32)), some (.int (0 : Int32)), some (.int (0 : Int32)), some (.int (0 : Int32)), some (.int (0 : Int32)), some (.int (0 : Int32)), none, none, none, none, none, none]) dL_areThings_13 (by decide) rfl ?_
  refine V_aload_n (x := a0) dL_areThings_15 rfl ?_
  refine V_iconst (v := (5 : Int32)) dL_areThings_16 rfl ?_
  refine V_iconst (v := (0 : Int32)) dL_areThings_17 rfl ?_
  refine V_callV0 (As := [.int (5 : Int32), .int (0 : Int32)]) (st0 := []) (stI := [.int (0 : Int32), .int (5 : Int32), va_rf a0]) (fun _ h => by cases h; exact t_X8_senderOf _ (5 : Int32) (0 : Int32) σ) (q := (RX8, TX8, 6)) rfl rfl rfl (Nat.le_of_ble_eq_true rfl) rfl (fun s args hts => cwV 2 hts gL_areThings_X8_senderOf rfl rfl rfl (by decide +kernel) ⟨Nat.le_of_ble_eq_true rfl, Nat.le_of_ble_eq_true rfl⟩) rfl rfl dL_areThings_18 (fun r85 σ86 _ => ?_)
  refine V_iconst (v := (-1 : Int32)) dL_areThings_21 rfl ?_
  refine V_icmp_ne (tgt := 61) (x := r85) (y := (-1 : Int32)) dL_areThings_22 (by decide) (fun hc87 => ?_) (fun hc87 => ?_)
  · refine V_aload_n (x := a0) dL_areThings_25 rfl ?_
    refine V_iconst (v := (4 : Int32)) dL_areThings_26 rfl ?_
    refine V_iconst (v := (0 : Int32)) dL_areThings_27 rfl ?_
    refine V_callV0 (As := [.int (4 : Int32), .int (0 : Int32)]) (st0 := []) (stI := [.int (0 : Int32), .int (4 : Int32), va_rf a0]) (fun _ h => by cases h; exact t_X8_machineOf _ (4 : Int32) (0 : Int32) σ86) (q := (RX8, TX8, 6)) rfl rfl rfl (Nat.le_of_ble_eq_true rfl) rfl (fun s args hts => cwV 2 hts gL_areThings_X8_machineOf rfl rfl rfl (by decide +kernel) ⟨Nat.le_of_ble_eq_true rfl, Nat.le_of_ble_eq_true rfl⟩) rfl rfl dL_areThings_28 (fun r88 σ89 _ => ?_)
    refine V_iconst (v := (-1 : Int32)) dL_areThings_31 rfl ?_
    refine V_icmp_ne (tgt := 61) (x := r88) (y := (-1 : Int32)) dL_areThings_32 (by decide) (fun hc90 => ?_) (fun hc90 => ?_)
    · refine V_aload_n (x := a0) dL_areThings_35 rfl ?_
      refine V_bipush (v := (8 : Int32)) dL_areThings_36 rfl ?_
      refine V_iconst (v := (0 : Int32)) dL_areThings_38 rfl ?_
      refine V_callV0 (As := [.int (8 : Int32), .int (0 : Int32)]) (st0 := []) (stI := [.int (0 : Int32), .int (8 : Int32), va_rf a0]) (fun _ h => by cases h; exact t_X8_lampOf _ (8 : Int32) (0 : Int32) σ89) (q := (RX8, TX8, 6)) rfl rfl rfl (Nat.le_of_ble_eq_true rfl) rfl (fun s args hts => cwV 2 hts gL_areThings_X8_lampOf rfl rfl rfl (by decide +kernel) ⟨Nat.le_of_ble_eq_true rfl, Nat.le_of_ble_eq_true rfl⟩) rfl rfl dL_areThings_39 (fun r91 σ92 _ => ?_)
      refine V_iconst (v := (-1 : Int32)) dL_areThings_42 rfl ?_
      refine V_icmp_ne (tgt := 61) (x := r91) (y := (-1 : Int32)) dL_areThings_43 (by decide) (fun hc93 => ?_) (fun hc93 => ?_)
      · refine V_aload_n (x := a0) dL_areThings_46 rfl ?_
        refine V_bipush (v := (6 : Int32)) dL_areThings_47 rfl ?_
        refine V_iconst (v := (0 : Int32)) dL_areThings_49 rfl ?_
        refine V_callV0 (As := [.int (6 : Int32), .int (0 : Int32)]) (st0 := []) (stI := [.int (0 : Int32), .int (6 : Int32), va_rf a0]) (fun _ h => by cases h; exact t_X8_receiver _ (6 : Int32) (0 : Int32) σ92) (q := (RX8, TX8, 6)) rfl rfl rfl (Nat.le_of_ble_eq_true rfl) rfl (fun s args hts => cwV 2 hts gL_areThings_X8_receiver rfl rfl rfl (by decide +kernel) ⟨Nat.le_of_ble_eq_true rfl, Nat.le_of_ble_eq_true rfl⟩) rfl rfl dL_areThings_50 (fun r94 σ95 _ => ?_)
        refine V_iconst (v := (-1 : Int32)) dL_areThings_53 rfl ?_
        refine V_icmp_ne (tgt := 61) (x := r94) (y := (-1 : Int32)) dL_areThings_54 (by decide) (fun hc96 => ?_) (fun hc96 => ?_)
        · refine V_iconst (v := (1 : Int32)) dL_areThings_57 rfl ?_
          refine V_goto (tgt := 62) dL_areThings_58 (by decide) ?_
          exact v_L_areThings_b62  a0 ((0 : Int32)) ((0 : Int32)) ((0 : Int32)) ((0 : Int32)) ((0 : Int32)) ((0 : Int32)) ((1 : Int32)) σ95
        · exact v_L_areThings_b61  a0 ((0 : Int32)) ((0 : Int32)) ((0 : Int32)) ((0 : Int32)) ((0 : Int32)) ((0 : Int32)) σ95
      · exact v_L_areThings_b61  a0 ((0 : Int32)) ((0 : Int32)) ((0 : Int32)) ((0 : Int32)) ((0 : Int32)) ((0 : Int32)) σ92
    · exact v_L_areThings_b61  a0 ((0 : Int32)) ((0 : Int32)) ((0 : Int32)) ((0 : Int32)) ((0 : Int32)) ((0 : Int32)) σ89
  · exact v_L_areThings_b61  a0 ((0 : Int32)) ((0 : Int32)) ((0 : Int32)) ((0 : Int32)) ((0 : Int32)) ((0 : Int32)) σ86
theorem t_L_areThings {D : DG} {z0 : Nat} {l : Launch} (a0 : Option Nat) (σ : SG) : MT D z0 l yL_areThings wsL_areThings rmL_areThings tvI [va_rf a0] σ (m_L_areThings a0 σ) :=
  MT.of (own := RL) (cc := cL_areThings) (nL := 13) (ret := (some .boolean)) (ct := false) (by decide) rfl rfl (fun h => by cases h) (Nat.le_of_ble_eq_true rfl) (by intro v hv; simp only [List.mem_cons, List.not_mem_nil, or_false] at hv; first | (rcases hv with rfl <;> first | rfl | exact va_rf_cat _) | exact absurd hv (fun h => h)) (v_L_areThings a0 σ)
