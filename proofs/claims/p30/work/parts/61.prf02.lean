theorem in_X4_isQuiet_X4 : ∀ w ∈ u_ws RX4 TX4 7, w ∈ wsX4_isQuiet := by decide +kernel
theorem wd_X4_isQuiet_1 : Cond.fieldLink RX4 9 "MainsWords$Receiver" "reads" "Z" ∈ wsX4_isQuiet := by decide +kernel
theorem fd_X4_isQuiet_9_X4 : FD RX4 9 wsX4_isQuiet 4 0 := ⟨RX4, "MainsWords$Receiver", TX4, 7, rfl, in_X4_isQuiet_X4, by decide, wd_X4_isQuiet_1, Or.inl rfl⟩
theorem wd_X4_isQuiet_3 : Cond.fieldLink RX4 15 "MainsWords$Receiver" "latestBits" "I" ∈ wsX4_isQuiet := by decide +kernel
theorem fd_X4_isQuiet_15_X4 : FD RX4 15 wsX4_isQuiet 4 1 := ⟨RX4, "MainsWords$Receiver", TX4, 7, rfl, in_X4_isQuiet_X4, by decide, wd_X4_isQuiet_3, Or.inl rfl⟩
set_option maxRecDepth 100000 in
set_option maxHeartbeats 4000000 in
theorem v_X4_isQuiet {D : DG} {z0 : Nat} {l : Launch} : ∀ (a0 : Option Nat) (σ : SG), V D z0 l RX4 cX4_isQuiet 1 wsX4_isQuiet (some .boolean) rmX4_isQuiet false tvI 0 [some (va_rf a0)] [] σ 0 0 (m_X4_isQuiet a0 σ) := by
  intro a0 σ
  unfold m_X4_isQuiet
  refine V_aload_n (x := a0) dX4_isQuiet_0 rfl ?_
  refine V_getI fd_X4_isQuiet_9_X4 dX4_isQuiet_1 (fun x1 => ?_)
  refine V_if_ne (tgt := 18) (x := x1) dX4_isQuiet_4 (by decide) (fun hc2 => ?_) (fun hc2 => ?_)
  · refine V_aload_n (x := a0) dX4_isQuiet_7 rfl ?_
    refine V_getI fd_X4_isQuiet_15_X4 dX4_isQuiet_8 (fun x3 => ?_)
    refine V_if_ne (tgt := 18) (x := x3) dX4_isQuiet_11 (by decide) (fun hc4 => ?_) (fun hc4 => ?_)
    · refine V_iconst (v := (1 : Int32)) dX4_isQuiet_14 rfl ?_
      refine V_goto (tgt := 19) dX4_isQuiet_15 (by decide) ?_
      exact V_zret (fun _ => rfl) rfl (Nat.zero_le _) (Nat.zero_le _) dX4_isQuiet_19
    · refine V_iconst (v := (0 : Int32)) dX4_isQuiet_18 rfl ?_
      exact V_zret (fun _ => rfl) rfl (Nat.zero_le _) (Nat.zero_le _) dX4_isQuiet_19
  · refine V_iconst (v := (0 : Int32)) dX4_isQuiet_18 rfl ?_
    exact V_zret (fun _ => rfl) rfl (Nat.zero_le _) (Nat.zero_le _) dX4_isQuiet_19
theorem t_X4_isQuiet {D : DG} {z0 : Nat} {l : Launch} (a : Nat)  (σ : SG) : MT D z0 l yX4_isQuiet wsX4_isQuiet rmX4_isQuiet tvI [.ref a] σ (m_X4_isQuiet (some a) σ) :=
  MT.of (own := RX4) (cc := cX4_isQuiet) (nL := 1) (ret := (some .boolean)) (ct := false) (by decide) rfl rfl (fun h => by cases h) (Nat.le_of_ble_eq_true rfl) (by intro v hv; simp only [List.mem_cons, List.not_mem_nil, or_false] at hv; first | (rcases hv with rfl <;> first | rfl | exact va_rf_cat _) | exact absurd hv (fun h => h)) (v_X4_isQuiet (some a) σ)
theorem in_X3_isQuietOn_X3 : ∀ w ∈ u_ws RX3 TX3 8, w ∈ wsX3_isQuietOn := by decide +kernel
theorem wd_X3_isQuietOn_1 : Cond.fieldLink RX3 31 "MainsWords$Net" "receivers" "[LMainsWords$Receiver;" ∈ wsX3_isQuietOn := by decide +kernel
theorem fd_X3_isQuietOn_31_X3 : FD RX3 31 wsX3_isQuietOn 3 3 := ⟨RX3, "MainsWords$Net", TX3, 8, rfl, in_X3_isQuietOn_X3, by decide, wd_X3_isQuietOn_1, Or.inl rfl⟩
set_option maxRecDepth 100000 in
set_option maxHeartbeats 4000000 in
theorem v_X3_isQuietOn {D : DG} {z0 : Nat} {l : Launch} : ∀ (a0 : Option Nat) (a1 : Int32) (σ : SG), V D z0 l RX3 cX3_isQuietOn 2 wsX3_isQuietOn (some .boolean) rmX3_isQuietOn false tvI 0 [some (va_rf a0), some (.int a1)] [] σ 0 0 (m_X3_isQuietOn a0 a1 σ) := by
  intro a0 a1 σ
  unfold m_X3_isQuietOn
  refine V_iload_n (x := a1) dX3_isQuietOn_0 rfl ?_
  refine V_if_lt (tgt := 29) (x := a1) dX3_isQuietOn_1 (by decide) (fun hc1 => ?_) (fun hc1 => ?_)
  · refine V_iconst (v := (0 : Int32)) dX3_isQuietOn_29 rfl ?_
    exact V_zret (fun _ => rfl) rfl (Nat.zero_le _) (Nat.zero_le _) dX3_isQuietOn_30
  · refine V_iload_n (x := a1) dX3_isQuietOn_4 rfl ?_
    refine V_aload_n (x := a0) dX3_isQuietOn_5 rfl ?_
    refine V_getR fd_X3_isQuietOn_31_X3 dX3_isQuietOn_6 (fun x2 => ?_)
    refine V_alen dX3_isQuietOn_9 (fun x3 => ?_)
    refine V_icmp_ge (tgt := 29) (x := a1) (y := x3) dX3_isQuietOn_10 (by decide) (fun hc4 => ?_) (fun hc4 => ?_)
    · refine V_iconst (v := (0 : Int32)) dX3_isQuietOn_29 rfl ?_
      exact V_zret (fun _ => rfl) rfl (Nat.zero_le _) (Nat.zero_le _) dX3_isQuietOn_30
    · refine V_aload_n (x := a0) dX3_isQuietOn_13 rfl ?_
      refine V_getR fd_X3_isQuietOn_31_X3 dX3_isQuietOn_14 (fun x5 => ?_)
      refine V_iload_n (x := a1) dX3_isQuietOn_17 rfl ?_
      refine V_aaload dX3_isQuietOn_18 (fun x6 => ?_)
      refine V_callV0 (As := []) (st0 := []) (stI := [va_rf x6]) (fun _ h => by cases h; exact t_X4_isQuiet _ σ) (q := (RX4, TX4, 7)) rfl rfl rfl (Nat.le_of_ble_eq_true rfl) rfl (fun s args hts => cwV 0 hts gX3_isQuietOn_X4_isQuiet rfl rfl rfl (by decide +kernel) ⟨Nat.le_of_ble_eq_true rfl, Nat.le_of_ble_eq_true rfl⟩) rfl rfl dX3_isQuietOn_19 (fun r7 σ8 _ => ?_)
      refine V_if_eq (tgt := 29) (x := r7) dX3_isQuietOn_22 (by decide) (fun hc9 => ?_) (fun hc9 => ?_)
      · refine V_iconst (v := (0 : Int32)) dX3_isQuietOn_29 rfl ?_
        exact V_zret (fun _ => rfl) rfl (Nat.zero_le _) (Nat.zero_le _) dX3_isQuietOn_30
      · refine V_iconst (v := (1 : Int32)) dX3_isQuietOn_25 rfl ?_
        refine V_goto (tgt := 30) dX3_isQuietOn_26 (by decide) ?_
        exact V_zret (fun _ => rfl) rfl (Nat.zero_le _) (Nat.zero_le _) dX3_isQuietOn_30
theorem t_X3_isQuietOn {D : DG} {z0 : Nat} {l : Launch} (a : Nat) (a1 : Int32) (σ : SG) : MT D z0 l yX3_isQuietOn wsX3_isQuietOn rmX3_isQuietOn tvI [.ref a, .int a1] σ (m_X3_isQuietOn (some a) a1 σ) :=
  MT.of (own := RX3) (cc := cX3_isQuietOn) (nL := 2) (ret := (some .boolean)) (ct := false) (by decide) rfl rfl (fun h => by cases h) (Nat.le_of_ble_eq_true rfl) (by intro v hv; simp only [List.mem_cons, List.not_mem_nil, or_false] at hv; first | (rcases hv with rfl | rfl <;> first | rfl | exact va_rf_cat _) | exact absurd hv (fun h => h)) (v_X3_isQuietOn (some a) a1 σ)
theorem in_X6_beginOrWait_X6 : ∀ w ∈ u_ws RX6 TX6 10, w ∈ wsX6_beginOrWait := by decide +kernel
theorem wd_X6_beginOrWait_1 : Cond.fieldLink RX6 22 "MainsWords$Sender" "speaks" "Z" ∈ wsX6_beginOrWait := by decide +kernel
theorem fd_X6_beginOrWait_22_X6 : FD RX6 22 wsX6_beginOrWait 6 6 := ⟨RX6, "MainsWords$Sender", TX6, 10, rfl, in_X6_beginOrWait_X6, by decide, wd_X6_beginOrWait_1, Or.inl rfl⟩
theorem wd_X6_beginOrWait_3 : Cond.fieldLink RX6 32 "MainsWords$Sender" "pause" "I" ∈ wsX6_beginOrWait := by decide +kernel
theorem fd_X6_beginOrWait_32_X6 : FD RX6 32 wsX6_beginOrWait 6 9 := ⟨RX6, "MainsWords$Sender", TX6, 10, rfl, in_X6_beginOrWait_X6, by decide, wd_X6_beginOrWait_3, Or.inl rfl⟩
theorem wd_X6_beginOrWait_5 : Cond.fieldLink RX6 15 "MainsWords$Sender" "queueLength" "I" ∈ wsX6_beginOrWait := by decide +kernel
theorem fd_X6_beginOrWait_15_X6 : FD RX6 15 wsX6_beginOrWait 6 4 := ⟨RX6, "MainsWords$Sender", TX6, 10, rfl, in_X6_beginOrWait_X6, by decide, wd_X6_beginOrWait_5, Or.inl rfl⟩
theorem fw_X6_beginOrWait_X6_6 : FW RX6 wsX6_beginOrWait 6 6 .boolean false := ⟨RX6, TX6, 10, tyX6, rfl, in_X6_beginOrWait_X6, tyX6_ok, nmX6, rfl, (fun h => by cases h), rfl⟩
theorem wd_X6_beginOrWait_8 : Cond.fieldLink RX6 26 "MainsWords$Sender" "copy" "I" ∈ wsX6_beginOrWait := by decide +kernel
theorem fd_X6_beginOrWait_26_X6 : FD RX6 26 wsX6_beginOrWait 6 7 := ⟨RX6, "MainsWords$Sender", TX6, 10, rfl, in_X6_beginOrWait_X6, by decide, wd_X6_beginOrWait_8, Or.inl rfl⟩
theorem fw_X6_beginOrWait_X6_7 : FW RX6 wsX6_beginOrWait 6 7 .int false := ⟨RX6, TX6, 10, tyX6, rfl, in_X6_beginOrWait_X6, tyX6_ok, nmX6, rfl, (fun h => by cases h), rfl⟩
theorem wd_X6_beginOrWait_11 : Cond.fieldLink RX6 29 "MainsWords$Sender" "place" "I" ∈ wsX6_beginOrWait := by decide +kernel
theorem fd_X6_beginOrWait_29_X6 : FD RX6 29 wsX6_beginOrWait 6 8 := ⟨RX6, "MainsWords$Sender", TX6, 10, rfl, in_X6_beginOrWait_X6, by decide, wd_X6_beginOrWait_11, Or.inl rfl⟩
theorem fw_X6_beginOrWait_X6_8 : FW RX6 wsX6_beginOrWait 6 8 .int false := ⟨RX6, TX6, 10, tyX6, rfl, in_X6_beginOrWait_X6, tyX6_ok, nmX6, rfl, (fun h => by cases h), rfl⟩
theorem fw_X6_beginOrWait_X6_9 : FW RX6 wsX6_beginOrWait 6 9 .int false := ⟨RX6, TX6, 10, tyX6, rfl, in_X6_beginOrWait_X6, tyX6_ok, nmX6, rfl, (fun h => by cases h), rfl⟩
set_option maxRecDepth 100000 in
set_option maxHeartbeats 4000000 in
theorem v_X6_beginOrWait {D : DG} {z0 : Nat} {l : Launch} : ∀ (a0 : Option Nat) (a1 : Int32) (σ : SG), V D z0 l RX6 cX6_beginOrWait 2 wsX6_beginOrWait none rmX6_beginOrWait false tvU 0 [some (va_rf a0), some (.int a1)] [] σ 0 0 (m_X6_beginOrWait a0 a1 σ) := by
  intro a0 a1 σ
  unfold m_X6_beginOrWait
  refine V_aload_n (x := a0) dX6_beginOrWait_0 rfl ?_
  refine V_getI fd_X6_beginOrWait_22_X6 dX6_beginOrWait_1 (fun x1 => ?_)
  refine V_if_eq (tgt := 8) (x := x1) dX6_beginOrWait_4 (by decide) (fun hc2 => ?_) (fun hc2 => ?_)
  · refine V_aload_n (x := a0) dX6_beginOrWait_8 rfl ?_
    refine V_getI fd_X6_beginOrWait_32_X6 dX6_beginOrWait_9 (fun x3 => ?_)
    refine V_if_le (tgt := 28) (x := x3) dX6_beginOrWait_12 (by decide) (fun hc4 => ?_) (fun hc4 => ?_)
    · refine V_aload_n (x := a0) dX6_beginOrWait_28 rfl ?_
      refine V_getI fd_X6_beginOrWait_15_X6 dX6_beginOrWait_29 (fun x5 => ?_)
      refine V_if_le (tgt := 54) (x := x5) dX6_beginOrWait_32 (by decide) (fun hc6 => ?_) (fun hc6 => ?_)
      · exact V_vret (fun _ => rfl) rfl (Nat.zero_le _) (Nat.zero_le _) dX6_beginOrWait_54
      · refine V_iload_n (x := a1) dX6_beginOrWait_35 rfl ?_
        refine V_if_eq (tgt := 54) (x := a1) dX6_beginOrWait_36 (by decide) (fun hc7 => ?_) (fun hc7 => ?_)
        · exact V_vret (fun _ => rfl) rfl (Nat.zero_le _) (Nat.zero_le _) dX6_beginOrWait_54
        · refine V_aload_n (x := a0) dX6_beginOrWait_39 rfl ?_
          refine V_iconst (v := (1 : Int32)) dX6_beginOrWait_40 rfl ?_
          refine V_putZ fd_X6_beginOrWait_22_X6 fw_X6_beginOrWait_X6_6 (fun h => by cases h) dX6_beginOrWait_41 (fun σ8 hσ8 => ?_)
          refine V_aload_n (x := a0) dX6_beginOrWait_44 rfl ?_
          refine V_iconst (v := (0 : Int32)) dX6_beginOrWait_45 rfl ?_
          refine V_putI fd_X6_beginOrWait_26_X6 fw_X6_beginOrWait_X6_7 (fun h => by cases h) dX6_beginOrWait_46 (fun σ9 hσ9 => ?_)
          refine V_aload_n (x := a0) dX6_beginOrWait_49 rfl ?_
          refine V_iconst (v := (0 : Int32)) dX6_beginOrWait_50 rfl ?_
          refine V_putI fd_X6_beginOrWait_29_X6 fw_X6_beginOrWait_X6_8 (fun h => by cases h) dX6_beginOrWait_51 (fun σ10 hσ10 => ?_)
          exact V_vret (fun _ => rfl) rfl (Nat.zero_le _) (Nat.zero_le _) dX6_beginOrWait_54
    · refine V_aload_n (x := a0) dX6_beginOrWait_15 rfl ?_
      refine V_dup dX6_beginOrWait_16 (va_rf_cat _) ?_
      refine V_getI fd_X6_beginOrWait_32_X6 dX6_beginOrWait_17 (fun x11 => ?_)
      refine V_iconst (v := (1 : Int32)) dX6_beginOrWait_20 rfl ?_
      refine V_isub (x := x11) (y := (1 : Int32)) dX6_beginOrWait_21 ?_
      refine V_putI fd_X6_beginOrWait_32_X6 fw_X6_beginOrWait_X6_9 (fun h => by cases h) dX6_beginOrWait_22 (fun σ12 hσ12 => ?_)
      refine V_goto (tgt := 54) dX6_beginOrWait_25 (by decide) ?_
      exact V_vret (fun _ => rfl) rfl (Nat.zero_le _) (Nat.zero_le _) dX6_beginOrWait_54
  · exact V_vret (fun _ => rfl) rfl (Nat.zero_le _) (Nat.zero_le _) dX6_beginOrWait_7
theorem t_X6_beginOrWait {D : DG} {z0 : Nat} {l : Launch} (a : Nat) (a1 : Int32) (σ : SG) : MT D z0 l yX6_beginOrWait wsX6_beginOrWait rmX6_beginOrWait tvU [.ref a, .int a1] σ (m_X6_beginOrWait (some a) a1 σ) :=
  MT.of (own := RX6) (cc := cX6_beginOrWait) (nL := 2) (ret := none) (ct := false) (by decide) rfl rfl (fun h => by cases h) (Nat.le_of_ble_eq_true rfl) (by intro v hv; simp only [List.mem_cons, List.not_mem_nil, or_false] at hv; first | (rcases hv with rfl | rfl <;> first | rfl | exact va_rf_cat _) | exact absurd hv (fun h => h)) (v_X6_beginOrWait (some a) a1 σ)
theorem wd_X3_beginSpeaking_0 : Cond.sameField "MainsWords$Sender" "MainsWords$Thing" "isPresent" "Z" ∈ wsX3_beginSpeaking := by decide +kernel
theorem in_X3_beginSpeaking_X6 : ∀ w ∈ u_ws RX6 TX6 10, w ∈ wsX3_beginSpeaking := by decide +kernel
theorem wd_X3_beginSpeaking_2 : Cond.fieldLink RX3 89 "MainsWords$Sender" "isPresent" "Z" ∈ wsX3_beginSpeaking := by decide +kernel
theorem fd_X3_beginSpeaking_89_X6 : FD RX3 89 wsX3_beginSpeaking 6 1 := ⟨RX6, "MainsWords$Sender", TX6, 10, rfl, in_X3_beginSpeaking_X6, by decide, wd_X3_beginSpeaking_2, Or.inr wd_X3_beginSpeaking_0⟩
theorem wd_X3_beginSpeaking_4 : Cond.sameField "MainsWords$Sender" "MainsWords$Thing" "wire" "I" ∈ wsX3_beginSpeaking := by decide +kernel
theorem wd_X3_beginSpeaking_5 : Cond.fieldLink RX3 130 "MainsWords$Sender" "wire" "I" ∈ wsX3_beginSpeaking := by decide +kernel
theorem fd_X3_beginSpeaking_130_X6 : FD RX3 130 wsX3_beginSpeaking 6 2 := ⟨RX6, "MainsWords$Sender", TX6, 10, rfl, in_X3_beginSpeaking_X6, by decide, wd_X3_beginSpeaking_5, Or.inr wd_X3_beginSpeaking_4⟩
theorem in_X3_beginSpeaking_X3 : ∀ w ∈ u_ws RX3 TX3 8, w ∈ wsX3_beginSpeaking := by decide +kernel
theorem wd_X3_beginSpeaking_8 : Cond.fieldLink RX3 11 "MainsWords$Net" "senders" "[LMainsWords$Sender;" ∈ wsX3_beginSpeaking := by decide +kernel
theorem fd_X3_beginSpeaking_11_X3 : FD RX3 11 wsX3_beginSpeaking 3 0 := ⟨RX3, "MainsWords$Net", TX3, 8, rfl, in_X3_beginSpeaking_X3, by decide, wd_X3_beginSpeaking_8, Or.inl rfl⟩
set_option maxRecDepth 100000 in
set_option maxHeartbeats 4000000 in
theorem v_X3_beginSpeaking_b42 {D : DG} {z0 : Nat} {l : Launch} {rec10 : Option Nat → Option Nat → Int32 → Int32 → SG → Option (Unit × SG)} (hrec10 : ∀ (v0 : Option Nat) (v1 : Option Nat) (v2 : Int32) (v3 : Int32) (σ : SG), V D z0 l RX3 cX3_beginSpeaking 5 wsX3_beginSpeaking none rmX3_beginSpeaking false tvU 10 [some (va_rf v0), some (va_rf v1), some (.int v2), some (.int v3), none] [] σ 0 0 (rec10 v0 v1 v2 v3 σ)) : ∀ (v0 : Option Nat) (v1 : Option Nat) (v2 : Int32) (v3 : Int32) (σ : SG), V D z0 l RX3 cX3_beginSpeaking 5 wsX3_beginSpeaking none rmX3_beginSpeaking false tvU 42 [some (va_rf v0), some (va_rf v1), some (.int v2), some (.int v3), none] [] σ 0 0 (m_X3_beginSpeaking_b42 rec10 v0 v1 v2 v3 σ) := by
  intro v0 v1 v2 v3 σ
  unfold m_X3_beginSpeaking_b42
  refine V_iinc (x := v3) (v := (v3 + 1)) (ls' := [some (va_rf v0), some (va_rf v1), some (.int v2), some (.int (v3 + 1)), none]) dX3_beginSpeaking_42 rfl rfl (by decide) rfl ?_
  refine V_goto (tgt := 10) dX3_beginSpeaking_45 (by decide) ?_
  exact hrec10 v0 v1 v2 ((v3 + 1)) σ
set_option maxRecDepth 100000 in
set_option maxHeartbeats 4000000 in
theorem v_X3_beginSpeaking_B10 {D : DG} {z0 : Nat} {l : Launch} {rec10 : Option Nat → Option Nat → Int32 → Int32 → SG → Option (Unit × SG)} (hrec10 : ∀ (v0 : Option Nat) (v1 : Option Nat) (v2 : Int32) (v3 : Int32) (σ : SG), V D z0 l RX3 cX3_beginSpeaking 5 wsX3_beginSpeaking none rmX3_beginSpeaking false tvU 10 [some (va_rf v0), some (va_rf v1), some (.int v2), some (.int v3), none] [] σ 0 0 (rec10 v0 v1 v2 v3 σ)) : ∀ (v0 : Option Nat) (v1 : Option Nat) (v2 : Int32) (v3 : Int32) (σ : SG), V D z0 l RX3 cX3_beginSpeaking 5 wsX3_beginSpeaking none rmX3_beginSpeaking false tvU 10 [some (va_rf v0), some (va_rf v1), some (.int v2), some (.int v3), none] [] σ 0 0 (m_X3_beginSpeaking_B10 rec10 v0 v1 v2 v3 σ) := by
  intro v0 v1 v2 v3 σ
  unfold m_X3_beginSpeaking_B10
  refine V_iload_n (x := v3) dX3_beginSpeaking_10 rfl ?_
  refine V_iload_n (x := v2) dX3_beginSpeaking_11 rfl ?_
  refine V_icmp_ge (tgt := 48) (x := v3) (y := v2) dX3_beginSpeaking_12 (by decide) (fun hc1 => ?_) (fun hc1 => ?_)
  · exact V_vret (fun _ => rfl) rfl (Nat.zero_le _) (Nat.zero_le _) dX3_beginSpeaking_48
  · refine V_aload_n (x := v1) dX3_beginSpeaking_15 rfl ?_
    refine V_iload_n (x := v3) dX3_beginSpeaking_16 rfl ?_
    refine V_aaload dX3_beginSpeaking_17 (fun x2 => ?_)
    refine V_astore (x := x2) (ls' := [some (va_rf v0), some (va_rf v1), some (.int v2), some (.int v3), some (va_rf x2)]) dX3_beginSpeaking_18 (by decide) rfl ?_
    refine V_aload (x := x2) dX3_beginSpeaking_20 rfl ?_
    refine V_getI fd_X3_beginSpeaking_89_X6 dX3_beginSpeaking_22 (fun x3 => ?_)
    refine V_if_eq (tgt := 42) (x := x3) dX3_beginSpeaking_25 (by decide) (fun hc4 => ?_) (fun hc4 => ?_)
    · exact V_sub (LE.s (LE.s (LE.s (LE.s (LE.n LE.e))))) (v_X3_beginSpeaking_b42 hrec10 v0 v1 v2 v3 σ)
    · refine V_aload (x := x2) dX3_beginSpeaking_28 rfl ?_
      refine V_aload_n (x := v0) dX3_beginSpeaking_30 rfl ?_
      refine V_aload (x := x2) dX3_beginSpeaking_31 rfl ?_
      refine V_getI fd_X3_beginSpeaking_130_X6 dX3_beginSpeaking_33 (fun x5 => ?_)
      refine V_callV0 (As := [.int x5]) (st0 := [va_rf x2]) (stI := [.int x5, va_rf v0, va_rf x2]) (fun _ h => by cases h; exact t_X3_isQuietOn _ x5 σ) (q := (RX3, TX3, 8)) rfl rfl rfl (by simp only [List.map_cons, List.map_nil, List.sum_cons, List.sum_nil, va_rf_cat, catI, catF]; decide) rfl (fun s args hts => cwV 1 hts gX3_beginSpeaking_X3_isQuietOn rfl rfl rfl (by decide +kernel) ⟨Nat.le_of_ble_eq_true rfl, Nat.le_of_ble_eq_true rfl⟩) rfl rfl dX3_beginSpeaking_36 (fun r6 σ7 _ => ?_)
      refine V_callV0 (As := [.int r6]) (st0 := []) (stI := [.int r6, va_rf x2]) (fun _ h => by cases h; exact t_X6_beginOrWait _ r6 σ7) (q := (RX6, TX6, 10)) rfl rfl rfl (Nat.le_of_ble_eq_true rfl) rfl (fun s args hts => cwV 1 hts gX3_beginSpeaking_X6_beginOrWait rfl rfl rfl (by decide +kernel) ⟨Nat.le_of_ble_eq_true rfl, Nat.le_of_ble_eq_true rfl⟩) rfl rfl dX3_beginSpeaking_39 (fun _ σ8 _ => ?_)
      exact V_sub (LE.s (LE.s (LE.s (LE.s (LE.n LE.e))))) (v_X3_beginSpeaking_b42 hrec10 v0 v1 v2 v3 σ8)
theorem v_X3_beginSpeaking_L10 {D : DG} {z0 : Nat} {l : Launch} : ∀ (n : Nat) (v0 : Option Nat) (v1 : Option Nat) (v2 : Int32) (v3 : Int32) (σ : SG), V D z0 l RX3 cX3_beginSpeaking 5 wsX3_beginSpeaking none rmX3_beginSpeaking false tvU 10 [some (va_rf v0), some (va_rf v1), some (.int v2), some (.int v3), none] [] σ 0 0 (m_X3_beginSpeaking_L10 n v0 v1 v2 v3 σ) := by
  intro n
  induction n with
  | zero => intros; exact V_none
  | succ n ih => exact v_X3_beginSpeaking_B10  ih
set_option maxRecDepth 100000 in
set_option maxHeartbeats 4000000 in
theorem v_X3_beginSpeaking {D : DG} {z0 : Nat} {l : Launch} : ∀ (a0 : Option Nat) (σ : SG), V D z0 l RX3 cX3_beginSpeaking 5 wsX3_beginSpeaking none rmX3_beginSpeaking false tvU 0 [some (va_rf a0), none, none, none, none] [] σ 0 0 (m_X3_beginSpeaking a0 σ) := by
  intro a0 σ
  unfold m_X3_beginSpeaking
  refine V_aload_n (x := a0) dX3_beginSpeaking_0 rfl ?_
  refine V_getR fd_X3_beginSpeaking_11_X3 dX3_beginSpeaking_1 (fun x9 => ?_)
  refine V_astore_n (x := x9) (ls' := [some (va_rf a0), some (va_rf x9), none, none, none]) dX3_beginSpeaking_4 (by decide) rfl ?_
  refine V_aload_n (x := x9) dX3_beginSpeaking_5 rfl ?_
  refine V_alen dX3_beginSpeaking_6 (fun x10 => ?_)
  refine V_istore_n (x := x10) (ls' := [some (va_rf a0), some (va_rf x9), some (.int x10), none, none]) dX3_beginSpeaking_7 (by decide) rfl ?_
  refine V_iconst (v := (0 : Int32)) dX3_beginSpeaking_8 rfl ?_
  refine V_istore_n (x := (0 : Int32)) (ls' := [some (va_rf a0), some (va_rf x9), some (.int x10), some (.int (0 : Int32)), none]) dX3_beginSpeaking_9 (by decide) rfl ?_
  exact v_X3_beginSpeaking_L10  1000 a0 x9 x10 ((0 : Int32)) σ
theorem t_X3_beginSpeaking {D : DG} {z0 : Nat} {l : Launch} (a : Nat)  (σ : SG) : MT D z0 l yX3_beginSpeaking wsX3_beginSpeaking rmX3_beginSpeaking tvU [.ref a] σ (m_X3_beginSpeaking (some a) σ) :=
  MT.of (own := RX3) (cc := cX3_beginSpeaking) (nL := 5) (ret := none) (ct := false) (by decide) rfl rfl (fun h => by cases h) (Nat.le_of_ble_eq_true rfl) (by intro v hv; simp only [List.mem_cons, List.not_mem_nil, or_false] at hv; first | (rcases hv with rfl <;> first | rfl | exact va_rf_cat _) | exact absurd hv (fun h => h)) (v_X3_beginSpeaking (some a) σ)
set_option maxRecDepth 100000 in
set_option maxHeartbeats 4000000 in
theorem v_X8_frameBit {D : DG} {z0 : Nat} {l : Launch} : ∀ (a0 : Int32) (a1 : Int32) (σ : SG), V D z0 l RX8 cX8_frameBit 4 wsX8_frameBit (some .int) rmX8_frameBit false tvI 0 [some (.int a0), some (.int a1), none, none] [] σ 0 0 (m_X8_frameBit a0 a1 σ) := by
  intro a0 a1 σ
  unfold m_X8_frameBit
  refine V_iload_n (x := a1) dX8_frameBit_0 rfl ?_
  refine V_iconst (v := (4 : Int32)) dX8_frameBit_1 rfl ?_
  refine V_icmp_ge (tgt := 14) (x := a1) (y := (4 : Int32)) dX8_frameBit_2 (by decide) (fun hc1 => ?_) (fun hc1 => ?_)
  · refine V_iload_n (x := a1) dX8_frameBit_14 rfl ?_
    refine V_iconst (v := (4 : Int32)) dX8_frameBit_15 rfl ?_
    refine V_isub (x := a1) (y := (4 : Int32)) dX8_frameBit_16 ?_
    refine V_iconst (v := (2 : Int32)) dX8_frameBit_17 rfl ?_
    refine V_idiv (x := (a1 - (4 : Int32))) (y := (2 : Int32)) dX8_frameBit_18 ?_
    refine V_istore_n (x := ((a1 - (4 : Int32)) / (2 : Int32))) (ls' := [some (.int a0), some (.int a1), some (.int ((a1 - (4 : Int32)) / (2 : Int32))), none]) dX8_frameBit_19 (by decide) rfl ?_
    refine V_iload_n (x := a0) dX8_frameBit_20 rfl ?_
    refine V_iconst (v := (4 : Int32)) dX8_frameBit_21 rfl ?_
    refine V_iload_n (x := ((a1 - (4 : Int32)) / (2 : Int32))) dX8_frameBit_22 rfl ?_
    refine V_isub (x := (4 : Int32)) (y := ((a1 - (4 : Int32)) / (2 : Int32))) dX8_frameBit_23 ?_
    refine V_ishr (x := a0) (y := ((4 : Int32) - ((a1 - (4 : Int32)) / (2 : Int32)))) dX8_frameBit_24 ?_
    refine V_iconst (v := (1 : Int32)) dX8_frameBit_25 rfl ?_
    refine V_iand (x := (a0 >>> (((4 : Int32) - ((a1 - (4 : Int32)) / (2 : Int32))) &&& 31))) (y := (1 : Int32)) dX8_frameBit_26 ?_
    refine V_istore_n (x := ((a0 >>> (((4 : Int32) - ((a1 - (4 : Int32)) / (2 : Int32))) &&& 31)) &&& (1 : Int32))) (ls' := [some (.int a0), some (.int a1), some (.int ((a1 - (4 : Int32)) / (2 : Int32))), some (.int ((a0 >>> (((4 : Int32) - ((a1 - (4 : Int32)) / (2 : Int32))) &&& 31)) &&& (1 : Int32)))]) dX8_frameBit_27 (by decide) rfl ?_
    refine V_iload_n (x := a1) dX8_frameBit_28 rfl ?_
    refine V_iconst (v := (2 : Int32)) dX8_frameBit_29 rfl ?_
    refine V_irem (x := a1) (y := (2 : Int32)) dX8_frameBit_30 ?_
    refine V_if_ne (tgt := 38) (x := (a1 - a1 / (2 : Int32) * (2 : Int32))) dX8_frameBit_31 (by decide) (fun hc2 => ?_) (fun hc2 => ?_)
    · refine V_iload_n (x := ((a0 >>> (((4 : Int32) - ((a1 - (4 : Int32)) / (2 : Int32))) &&& 31)) &&& (1 : Int32))) dX8_frameBit_34 rfl ?_
      refine V_goto (tgt := 41) dX8_frameBit_35 (by decide) ?_
      exact V_iret (fun _ => rfl) rfl (Nat.zero_le _) (Nat.zero_le _) dX8_frameBit_41
    · refine V_iconst (v := (1 : Int32)) dX8_frameBit_38 rfl ?_
      refine V_iload_n (x := ((a0 >>> (((4 : Int32) - ((a1 - (4 : Int32)) / (2 : Int32))) &&& 31)) &&& (1 : Int32))) dX8_frameBit_39 rfl ?_
      refine V_isub (x := (1 : Int32)) (y := ((a0 >>> (((4 : Int32) - ((a1 - (4 : Int32)) / (2 : Int32))) &&& 31)) &&& (1 : Int32))) dX8_frameBit_40 ?_
      exact V_iret (fun _ => rfl) rfl (Nat.zero_le _) (Nat.zero_le _) dX8_frameBit_41
  · refine V_bipush (v := (14 : Int32)) dX8_frameBit_5 rfl ?_
    refine V_iconst (v := (3 : Int32)) dX8_frameBit_7 rfl ?_
    refine V_iload_n (x := a1) dX8_frameBit_8 rfl ?_
    refine V_isub (x := (3 : Int32)) (y := a1) dX8_frameBit_9 ?_
    refine V_ishr (x := (14 : Int32)) (y := ((3 : Int32) - a1)) dX8_frameBit_10 ?_
    refine V_iconst (v := (1 : Int32)) dX8_frameBit_11 rfl ?_
    refine V_iand (x := ((14 : Int32) >>> (((3 : Int32) - a1) &&& 31))) (y := (1 : Int32)) dX8_frameBit_12 ?_
    exact V_iret (fun _ => rfl) rfl (Nat.zero_le _) (Nat.zero_le _) dX8_frameBit_13
theorem t_X8_frameBit {D : DG} {z0 : Nat} {l : Launch} (a0 : Int32) (a1 : Int32) (σ : SG) : MT D z0 l yX8_frameBit wsX8_frameBit rmX8_frameBit tvI [.int a0, .int a1] σ (m_X8_frameBit a0 a1 σ) :=
  MT.of (own := RX8) (cc := cX8_frameBit) (nL := 4) (ret := (some .int)) (ct := false) (by decide) rfl rfl (fun h => by cases h) (Nat.le_of_ble_eq_true rfl) (by intro v hv; simp only [List.mem_cons, List.not_mem_nil, or_false] at hv; first | (rcases hv with rfl | rfl <;> first | rfl | exact va_rf_cat _) | exact absurd hv (fun h => h)) (v_X8_frameBit a0 a1 σ)
theorem in_X6_bitToSend_X6 : ∀ w ∈ u_ws RX6 TX6 10, w ∈ wsX6_bitToSend := by decide +kernel
theorem wd_X6_bitToSend_1 : Cond.fieldLink RX6 29 "MainsWords$Sender" "place" "I" ∈ wsX6_bitToSend := by decide +kernel
theorem fd_X6_bitToSend_29_X6 : FD RX6 29 wsX6_bitToSend 6 8 := ⟨RX6, "MainsWords$Sender", TX6, 10, rfl, in_X6_bitToSend_X6, by decide, wd_X6_bitToSend_1, Or.inl rfl⟩
theorem wd_X6_bitToSend_3 : Cond.fieldLink RX6 9 "MainsWords$Sender" "queue" "[I" ∈ wsX6_bitToSend := by decide +kernel
theorem fd_X6_bitToSend_9_X6 : FD RX6 9 wsX6_bitToSend 6 3 := ⟨RX6, "MainsWords$Sender", TX6, 10, rfl, in_X6_bitToSend_X6, by decide, wd_X6_bitToSend_3, Or.inl rfl⟩
theorem wd_X6_bitToSend_5 : Cond.initialized RX8 ∈ wsX6_bitToSend := by decide +kernel
theorem wd_X6_bitToSend_6 : Cond.static yX8_frameBit ∈ wsX6_bitToSend := by decide +kernel
set_option maxRecDepth 100000 in
set_option maxHeartbeats 4000000 in
theorem v_X6_bitToSend {D : DG} {z0 : Nat} {l : Launch} : ∀ (a0 : Option Nat) (σ : SG), V D z0 l RX6 cX6_bitToSend 1 wsX6_bitToSend (some .int) rmX6_bitToSend false tvI 0 [some (va_rf a0)] [] σ 0 0 (m_X6_bitToSend a0 σ) := by
  intro a0 σ
  unfold m_X6_bitToSend
  refine V_aload_n (x := a0) dX6_bitToSend_0 rfl ?_
  refine V_getI fd_X6_bitToSend_29_X6 dX6_bitToSend_1 (fun x1 => ?_)
  refine V_bipush (v := (14 : Int32)) dX6_bitToSend_4 rfl ?_
  refine V_icmp_ge (tgt := 25) (x := x1) (y := (14 : Int32)) dX6_bitToSend_6 (by decide) (fun hc2 => ?_) (fun hc2 => ?_)
  · refine V_iconst (v := (0 : Int32)) dX6_bitToSend_25 rfl ?_
    exact V_iret (fun _ => rfl) rfl (Nat.zero_le _) (Nat.zero_le _) dX6_bitToSend_26
  · refine V_aload_n (x := a0) dX6_bitToSend_9 rfl ?_
    refine V_getR fd_X6_bitToSend_9_X6 dX6_bitToSend_10 (fun x3 => ?_)
    refine V_iconst (v := (0 : Int32)) dX6_bitToSend_13 rfl ?_
    refine V_iaload dX6_bitToSend_14 (fun x4 => ?_)
    refine V_aload_n (x := a0) dX6_bitToSend_15 rfl ?_
    refine V_getI fd_X6_bitToSend_29_X6 dX6_bitToSend_16 (fun x5 => ?_)
    refine V_callSN0 (host := "MainsWords") (As := [.int x4, .int x5]) (st0 := []) (stI := [.int x5, .int x4]) (t_X8_frameBit x4 x5 σ) rfl (Nat.le_of_ble_eq_true rfl) rfl (by decide +kernel) (fun s args hts hnw => ⟨va_cnB 2 hts gX6_bitToSend_X8_frameBit_n49 rfl rfl rfl hnw (hts _ wd_X6_bitToSend_5) (by decide +kernel) ⟨Nat.le_of_ble_eq_true rfl, Nat.le_of_ble_eq_true rfl⟩, hts _ wd_X6_bitToSend_6, trivial⟩) rfl rfl dX6_bitToSend_19 (fun r6 σ7 _ => ?_)
    refine V_goto (tgt := 26) dX6_bitToSend_22 (by decide) ?_
    exact V_iret (fun _ => rfl) rfl (Nat.zero_le _) (Nat.zero_le _) dX6_bitToSend_26
theorem t_X6_bitToSend {D : DG} {z0 : Nat} {l : Launch} (a : Nat)  (σ : SG) : MT D z0 l yX6_bitToSend wsX6_bitToSend rmX6_bitToSend tvI [.ref a] σ (m_X6_bitToSend (some a) σ) :=
  MT.of (own := RX6) (cc := cX6_bitToSend) (nL := 1) (ret := (some .int)) (ct := false) (by decide) rfl rfl (fun h => by cases h) (Nat.le_of_ble_eq_true rfl) (by intro v hv; simp only [List.mem_cons, List.not_mem_nil, or_false] at hv; first | (rcases hv with rfl <;> first | rfl | exact va_rf_cat _) | exact absurd hv (fun h => h)) (v_X6_bitToSend (some a) σ)
theorem in_X3_spreadOne_X3 : ∀ w ∈ u_ws RX3 TX3 8, w ∈ wsX3_spreadOne := by decide +kernel
theorem wd_X3_spreadOne_1 : Cond.fieldLink RX3 46 "MainsWords$Net" "heard" "[Z" ∈ wsX3_spreadOne := by decide +kernel
theorem fd_X3_spreadOne_46_X3 : FD RX3 46 wsX3_spreadOne 3 7 := ⟨RX3, "MainsWords$Net", TX3, 8, rfl, in_X3_spreadOne_X3, by decide, wd_X3_spreadOne_1, Or.inl rfl⟩
theorem wd_X3_spreadOne_3 : Cond.fieldLink RX3 35 "MainsWords$Net" "settings" "[I" ∈ wsX3_spreadOne := by decide +kernel
theorem fd_X3_spreadOne_35_X3 : FD RX3 35 wsX3_spreadOne 3 4 := ⟨RX3, "MainsWords$Net", TX3, 8, rfl, in_X3_spreadOne_X3, by decide, wd_X3_spreadOne_3, Or.inl rfl⟩
set_option maxRecDepth 100000 in
set_option maxHeartbeats 4000000 in
theorem v_X3_spreadOne_b35 {D : DG} {z0 : Nat} {l : Launch} {rec2 : Option Nat → Int32 → Int32 → Int32 → SG → Option (Unit × SG)} (hrec2 : ∀ (v0 : Option Nat) (v1 : Int32) (v2 : Int32) (v3 : Int32) (σ : SG), V D z0 l RX3 cX3_spreadOne 4 wsX3_spreadOne none rmX3_spreadOne false tvU 2 [some (va_rf v0), some (.int v1), some (.int v2), some (.int v3)] [] σ 0 0 (rec2 v0 v1 v2 v3 σ)) : ∀ (v0 : Option Nat) (v1 : Int32) (v2 : Int32) (v3 : Int32) (σ : SG), V D z0 l RX3 cX3_spreadOne 4 wsX3_spreadOne none rmX3_spreadOne false tvU 35 [some (va_rf v0), some (.int v1), some (.int v2), some (.int v3)] [] σ 0 0 (m_X3_spreadOne_b35 rec2 v0 v1 v2 v3 σ) := by
  intro v0 v1 v2 v3 σ
  unfold m_X3_spreadOne_b35
  refine V_iinc (x := v3) (v := (v3 + 1)) (ls' := [some (va_rf v0), some (.int v1), some (.int v2), some (.int (v3 + 1))]) dX3_spreadOne_35 rfl rfl (by decide) rfl ?_
  refine V_goto (tgt := 2) dX3_spreadOne_38 (by decide) ?_
  exact hrec2 v0 v1 v2 ((v3 + 1)) σ
set_option maxRecDepth 100000 in
set_option maxHeartbeats 4000000 in
theorem v_X3_spreadOne_B2 {D : DG} {z0 : Nat} {l : Launch} {rec2 : Option Nat → Int32 → Int32 → Int32 → SG → Option (Unit × SG)} (hrec2 : ∀ (v0 : Option Nat) (v1 : Int32) (v2 : Int32) (v3 : Int32) (σ : SG), V D z0 l RX3 cX3_spreadOne 4 wsX3_spreadOne none rmX3_spreadOne false tvU 2 [some (va_rf v0), some (.int v1), some (.int v2), some (.int v3)] [] σ 0 0 (rec2 v0 v1 v2 v3 σ)) : ∀ (v0 : Option Nat) (v1 : Int32) (v2 : Int32) (v3 : Int32) (σ : SG), V D z0 l RX3 cX3_spreadOne 4 wsX3_spreadOne none rmX3_spreadOne false tvU 2 [some (va_rf v0), some (.int v1), some (.int v2), some (.int v3)] [] σ 0 0 (m_X3_spreadOne_B2 rec2 v0 v1 v2 v3 σ) := by
  intro v0 v1 v2 v3 σ
  unfold m_X3_spreadOne_B2
  refine V_iload_n (x := v3) dX3_spreadOne_2 rfl ?_
  refine V_aload_n (x := v0) dX3_spreadOne_3 rfl ?_
  refine V_getR fd_X3_spreadOne_46_X3 dX3_spreadOne_4 (fun x1 => ?_)
  refine V_alen dX3_spreadOne_7 (fun x2 => ?_)
  refine V_icmp_ge (tgt := 41) (x := v3) (y := x2) dX3_spreadOne_8 (by decide) (fun hc3 => ?_) (fun hc3 => ?_)
  · exact V_vret (fun _ => rfl) rfl (Nat.zero_le _) (Nat.zero_le _) dX3_spreadOne_41
  · refine V_iload_n (x := v2) dX3_spreadOne_11 rfl ?_
    refine V_aload_n (x := v0) dX3_spreadOne_12 rfl ?_
    refine V_iload_n (x := v1) dX3_spreadOne_13 rfl ?_
    refine V_iload_n (x := v3) dX3_spreadOne_14 rfl ?_
    refine V_callV0 (As := [.int v1, .int v3]) (st0 := [.int v2]) (stI := [.int v3, .int v1, va_rf v0, .int v2]) (fun _ h => by cases h; exact t_X3_lossBetween _ v1 v3 σ) (q := (RX3, TX3, 8)) rfl rfl rfl (Nat.le_of_ble_eq_true rfl) rfl (fun s args hts => cwV 2 hts gX3_spreadOne_X3_lossBetween rfl rfl rfl (by decide +kernel) ⟨Nat.le_of_ble_eq_true rfl, Nat.le_of_ble_eq_true rfl⟩) rfl rfl dX3_spreadOne_15 (fun r4 σ5 _ => ?_)
    refine V_isub (x := v2) (y := r4) dX3_spreadOne_18 ?_
    refine V_aload_n (x := v0) dX3_spreadOne_19 rfl ?_
    refine V_getR fd_X3_spreadOne_35_X3 dX3_spreadOne_20 (fun x6 => ?_)
    refine V_iconst (v := (2 : Int32)) dX3_spreadOne_23 rfl ?_
    refine V_iaload dX3_spreadOne_24 (fun x7 => ?_)
    refine V_icmp_lt (tgt := 35) (x := (v2 - r4)) (y := x7) dX3_spreadOne_25 (by decide) (fun hc8 => ?_) (fun hc8 => ?_)
    · exact v_X3_spreadOne_b35 hrec2 v0 v1 v2 v3 σ5
    · refine V_aload_n (x := v0) dX3_spreadOne_28 rfl ?_
      refine V_getR fd_X3_spreadOne_46_X3 dX3_spreadOne_29 (fun x9 => ?_)
      refine V_iload_n (x := v3) dX3_spreadOne_32 rfl ?_
      refine V_iconst (v := (1 : Int32)) dX3_spreadOne_33 rfl ?_
      refine V_zastore dX3_spreadOne_34 (fun σ10 hσ10 => ?_)
      exact v_X3_spreadOne_b35 hrec2 v0 v1 v2 v3 σ10
theorem v_X3_spreadOne_L2 {D : DG} {z0 : Nat} {l : Launch} : ∀ (n : Nat) (v0 : Option Nat) (v1 : Int32) (v2 : Int32) (v3 : Int32) (σ : SG), V D z0 l RX3 cX3_spreadOne 4 wsX3_spreadOne none rmX3_spreadOne false tvU 2 [some (va_rf v0), some (.int v1), some (.int v2), some (.int v3)] [] σ 0 0 (m_X3_spreadOne_L2 n v0 v1 v2 v3 σ) := by
  intro n
  induction n with
  | zero => intros; exact V_none
  | succ n ih => exact v_X3_spreadOne_B2  ih
set_option maxRecDepth 100000 in
set_option maxHeartbeats 4000000 in
theorem v_X3_spreadOne {D : DG} {z0 : Nat} {l : Launch} : ∀ (a0 : Option Nat) (a1 : Int32) (a2 : Int32) (σ : SG), V D z0 l RX3 cX3_spreadOne 4 wsX3_spreadOne none rmX3_spreadOne false tvU 0 [some (va_rf a0), some (.int a1), some (.int a2), none] [] σ 0 0 (m_X3_spreadOne a0 a1 a2 σ) := by
  intro a0 a1 a2 σ
  unfold m_X3_spreadOne
  refine V_iconst (v := (0 : Int32)) dX3_spreadOne_0 rfl ?_
  refine V_istore_n (x := (0 : Int32)) (ls' := [some (va_rf a0), some (.int a1), some (.int a2), some (.int (0 : Int32))]) dX3_spreadOne_1 (by decide) rfl ?_
  exact v_X3_spreadOne_L2  1000 a0 a1 a2 ((0 : Int32)) σ
theorem t_X3_spreadOne {D : DG} {z0 : Nat} {l : Launch} (a : Nat) (a1 : Int32) (a2 : Int32) (σ : SG) : MT D z0 l yX3_spreadOne wsX3_spreadOne rmX3_spreadOne tvU [.ref a, .int a1, .int a2] σ (m_X3_spreadOne (some a) a1 a2 σ) :=
  MT.of (own := RX3) (cc := cX3_spreadOne) (nL := 4) (ret := none) (ct := false) (by decide) rfl rfl (fun h => by cases h) (Nat.le_of_ble_eq_true rfl) (by intro v hv; simp only [List.mem_cons, List.not_mem_nil, or_false] at hv; first | (rcases hv with rfl | rfl | rfl <;> first | rfl | exact va_rf_cat _) | exact absurd hv (fun h => h)) (v_X3_spreadOne (some a) a1 a2 σ)
theorem in_X3_carryBits_X3 : ∀ w ∈ u_ws RX3 TX3 8, w ∈ wsX3_carryBits := by decide +kernel
theorem wd_X3_carryBits_1 : Cond.fieldLink RX3 42 "MainsWords$Net" "time" "I" ∈ wsX3_carryBits := by decide +kernel
theorem fd_X3_carryBits_42_X3 : FD RX3 42 wsX3_carryBits 3 6 := ⟨RX3, "MainsWords$Net", TX3, 8, rfl, in_X3_carryBits_X3, by decide, wd_X3_carryBits_1, Or.inl rfl⟩
theorem wd_X3_carryBits_3 : Cond.sameField "MainsWords$Machine" "MainsWords$Thing" "wire" "I" ∈ wsX3_carryBits := by decide +kernel
theorem in_X3_carryBits_X2 : ∀ w ∈ u_ws RX2 TX2 6, w ∈ wsX3_carryBits := by decide +kernel
theorem wd_X3_carryBits_5 : Cond.fieldLink RX3 156 "MainsWords$Machine" "wire" "I" ∈ wsX3_carryBits := by decide +kernel
theorem fd_X3_carryBits_156_X2 : FD RX3 156 wsX3_carryBits 2 2 := ⟨RX2, "MainsWords$Machine", TX2, 6, rfl, in_X3_carryBits_X2, by decide, wd_X3_carryBits_5, Or.inr wd_X3_carryBits_3⟩
theorem wd_X3_carryBits_7 : Cond.fieldLink RX3 157 "MainsWords$Machine" "strength" "I" ∈ wsX3_carryBits := by decide +kernel
theorem fd_X3_carryBits_157_X2 : FD RX3 157 wsX3_carryBits 2 3 := ⟨RX2, "MainsWords$Machine", TX2, 6, rfl, in_X3_carryBits_X2, by decide, wd_X3_carryBits_7, Or.inl rfl⟩
theorem wd_X3_carryBits_9 : Cond.fieldLink RX3 19 "MainsWords$Net" "machines" "[LMainsWords$Machine;" ∈ wsX3_carryBits := by decide +kernel
theorem fd_X3_carryBits_19_X3 : FD RX3 19 wsX3_carryBits 3 1 := ⟨RX3, "MainsWords$Net", TX3, 8, rfl, in_X3_carryBits_X3, by decide, wd_X3_carryBits_9, Or.inl rfl⟩
theorem wd_X3_carryBits_11 : Cond.sameField "MainsWords$Sender" "MainsWords$Thing" "wire" "I" ∈ wsX3_carryBits := by decide +kernel
theorem in_X3_carryBits_X6 : ∀ w ∈ u_ws RX6 TX6 10, w ∈ wsX3_carryBits := by decide +kernel
theorem wd_X3_carryBits_13 : Cond.fieldLink RX3 130 "MainsWords$Sender" "wire" "I" ∈ wsX3_carryBits := by decide +kernel
theorem fd_X3_carryBits_130_X6 : FD RX3 130 wsX3_carryBits 6 2 := ⟨RX6, "MainsWords$Sender", TX6, 10, rfl, in_X3_carryBits_X6, by decide, wd_X3_carryBits_13, Or.inr wd_X3_carryBits_11⟩
theorem wd_X3_carryBits_15 : Cond.fieldLink RX3 146 "MainsWords$Sender" "strength" "I" ∈ wsX3_carryBits := by decide +kernel
theorem fd_X3_carryBits_146_X6 : FD RX3 146 wsX3_carryBits 6 5 := ⟨RX6, "MainsWords$Sender", TX6, 10, rfl, in_X3_carryBits_X6, by decide, wd_X3_carryBits_15, Or.inl rfl⟩
theorem wd_X3_carryBits_17 : Cond.fieldLink RX3 46 "MainsWords$Net" "heard" "[Z" ∈ wsX3_carryBits := by decide +kernel
theorem fd_X3_carryBits_46_X3 : FD RX3 46 wsX3_carryBits 3 7 := ⟨RX3, "MainsWords$Net", TX3, 8, rfl, in_X3_carryBits_X3, by decide, wd_X3_carryBits_17, Or.inl rfl⟩
theorem wd_X3_carryBits_19 : Cond.fieldLink RX3 11 "MainsWords$Net" "senders" "[LMainsWords$Sender;" ∈ wsX3_carryBits := by decide +kernel
theorem fd_X3_carryBits_11_X3 : FD RX3 11 wsX3_carryBits 3 0 := ⟨RX3, "MainsWords$Net", TX3, 8, rfl, in_X3_carryBits_X3, by decide, wd_X3_carryBits_19, Or.inl rfl⟩
set_option maxRecDepth 100000 in
set_option maxHeartbeats 4000000 in
theorem v_X3_carryBits_b127 {D : DG} {z0 : Nat} {l : Launch} {rec91 : Option Nat → Option Nat → Int32 → Int32 → SG → Option (Unit × SG)} (hrec91 : ∀ (v0 : Option Nat) (v1 : Option Nat) (v2 : Int32) (v3 : Int32) (σ : SG), V D z0 l RX3 cX3_carryBits 5 wsX3_carryBits none rmX3_carryBits false tvU 91 [some (va_rf v0), some (va_rf v1), some (.int v2), some (.int v3), none] [] σ 0 0 (rec91 v0 v1 v2 v3 σ)) : ∀ (v0 : Option Nat) (v1 : Option Nat) (v2 : Int32) (v3 : Int32) (σ : SG), V D z0 l RX3 cX3_carryBits 5 wsX3_carryBits none rmX3_carryBits false tvU 127 [some (va_rf v0), some (va_rf v1), some (.int v2), some (.int v3), none] [] σ 0 0 (m_X3_carryBits_b127 rec91 v0 v1 v2 v3 σ) := by
  intro v0 v1 v2 v3 σ
  unfold m_X3_carryBits_b127
  refine V_iinc (x := v3) (v := (v3 + 1)) (ls' := [some (va_rf v0), some (va_rf v1), some (.int v2), some (.int (v3 + 1)), none]) dX3_carryBits_127 rfl rfl (by decide) rfl ?_
  refine V_goto (tgt := 91) dX3_carryBits_130 (by decide) ?_
  exact hrec91 v0 v1 v2 ((v3 + 1)) σ
set_option maxRecDepth 100000 in
set_option maxHeartbeats 4000000 in
theorem v_X3_carryBits_B91 {D : DG} {z0 : Nat} {l : Launch} {rec91 : Option Nat → Option Nat → Int32 → Int32 → SG → Option (Unit × SG)} (hrec91 : ∀ (v0 : Option Nat) (v1 : Option Nat) (v2 : Int32) (v3 : Int32) (σ : SG), V D z0 l RX3 cX3_carryBits 5 wsX3_carryBits none rmX3_carryBits false tvU 91 [some (va_rf v0), some (va_rf v1), some (.int v2), some (.int v3), none] [] σ 0 0 (rec91 v0 v1 v2 v3 σ)) : ∀ (v0 : Option Nat) (v1 : Option Nat) (v2 : Int32) (v3 : Int32) (σ : SG), V D z0 l RX3 cX3_carryBits 5 wsX3_carryBits none rmX3_carryBits false tvU 91 [some (va_rf v0), some (va_rf v1), some (.int v2), some (.int v3), none] [] σ 0 0 (m_X3_carryBits_B91 rec91 v0 v1 v2 v3 σ) := by
  intro v0 v1 v2 v3 σ
  unfold m_X3_carryBits_B91
  refine V_iload_n (x := v3) dX3_carryBits_91 rfl ?_
  refine V_iload_n (x := v2) dX3_carryBits_92 rfl ?_
  refine V_icmp_ge (tgt := 133) (x := v3) (y := v2) dX3_carryBits_93 (by decide) (fun hc1 => ?_) (fun hc1 => ?_)
  · exact V_vret (fun _ => rfl) rfl (Nat.zero_le _) (Nat.zero_le _) dX3_carryBits_133
  · refine V_aload_n (x := v1) dX3_carryBits_96 rfl ?_
    refine V_iload_n (x := v3) dX3_carryBits_97 rfl ?_
    refine V_aaload dX3_carryBits_98 (fun x2 => ?_)
    refine V_astore (x := x2) (ls' := [some (va_rf v0), some (va_rf v1), some (.int v2), some (.int v3), some (va_rf x2)]) dX3_carryBits_99 (by decide) rfl ?_
    refine V_aload (x := x2) dX3_carryBits_101 rfl ?_
    refine V_aload_n (x := v0) dX3_carryBits_103 rfl ?_
    refine V_getI fd_X3_carryBits_42_X3 dX3_carryBits_104 (fun x3 => ?_)
    refine V_callV0 (As := [.int x3]) (st0 := []) (stI := [.int x3, va_rf x2]) (fun _ h => by cases h; exact t_X2_makesNoiseAt _ x3 σ) (q := (RX2, TX2, 6)) rfl rfl rfl (Nat.le_of_ble_eq_true rfl) rfl (fun s args hts => cwV 1 hts gX3_carryBits_X2_makesNoiseAt rfl rfl rfl (by decide +kernel) ⟨Nat.le_of_ble_eq_true rfl, Nat.le_of_ble_eq_true rfl⟩) rfl rfl dX3_carryBits_107 (fun r4 σ5 _ => ?_)
    refine V_if_eq (tgt := 127) (x := r4) dX3_carryBits_110 (by decide) (fun hc6 => ?_) (fun hc6 => ?_)
    · exact V_sub (LE.s (LE.s (LE.s (LE.s (LE.n LE.e))))) (v_X3_carryBits_b127 hrec91 v0 v1 v2 v3 σ5)
    · refine V_aload_n (x := v0) dX3_carryBits_113 rfl ?_
      refine V_aload (x := x2) dX3_carryBits_114 rfl ?_
      refine V_getI fd_X3_carryBits_156_X2 dX3_carryBits_116 (fun x7 => ?_)
      refine V_aload (x := x2) dX3_carryBits_119 rfl ?_
      refine V_getI fd_X3_carryBits_157_X2 dX3_carryBits_121 (fun x8 => ?_)
      refine V_callV0 (As := [.int x7, .int x8]) (st0 := []) (stI := [.int x8, .int x7, va_rf v0]) (fun _ h => by cases h; exact t_X3_spreadOne _ x7 x8 σ5) (q := (RX3, TX3, 8)) rfl rfl rfl (Nat.le_of_ble_eq_true rfl) rfl (fun s args hts => cwV 2 hts gX3_carryBits_X3_spreadOne rfl rfl rfl (by decide +kernel) ⟨Nat.le_of_ble_eq_true rfl, Nat.le_of_ble_eq_true rfl⟩) rfl rfl dX3_carryBits_124 (fun _ σ9 _ => ?_)
      exact V_sub (LE.s (LE.s (LE.s (LE.s (LE.n LE.e))))) (v_X3_carryBits_b127 hrec91 v0 v1 v2 v3 σ9)
theorem v_X3_carryBits_L91 {D : DG} {z0 : Nat} {l : Launch} : ∀ (n : Nat) (v0 : Option Nat) (v1 : Option Nat) (v2 : Int32) (v3 : Int32) (σ : SG), V D z0 l RX3 cX3_carryBits 5 wsX3_carryBits none rmX3_carryBits false tvU 91 [some (va_rf v0), some (va_rf v1), some (.int v2), some (.int v3), none] [] σ 0 0 (m_X3_carryBits_L91 n v0 v1 v2 v3 σ) := by
  intro n
  induction n with
  | zero => intros; exact V_none
  | succ n ih => exact v_X3_carryBits_B91  ih
set_option maxRecDepth 100000 in
set_option maxHeartbeats 4000000 in
theorem v_X3_carryBits_b75 {D : DG} {z0 : Nat} {l : Launch} {rec34 : Option Nat → Option Nat → Int32 → Int32 → SG → Option (Unit × SG)} (hrec34 : ∀ (v0 : Option Nat) (v1 : Option Nat) (v2 : Int32) (v3 : Int32) (σ : SG), V D z0 l RX3 cX3_carryBits 5 wsX3_carryBits none rmX3_carryBits false tvU 34 [some (va_rf v0), some (va_rf v1), some (.int v2), some (.int v3), none] [] σ 0 0 (rec34 v0 v1 v2 v3 σ)) : ∀ (v0 : Option Nat) (v1 : Option Nat) (v2 : Int32) (v3 : Int32) (σ : SG), V D z0 l RX3 cX3_carryBits 5 wsX3_carryBits none rmX3_carryBits false tvU 75 [some (va_rf v0), some (va_rf v1), some (.int v2), some (.int v3), none] [] σ 0 0 (m_X3_carryBits_b75 rec34 v0 v1 v2 v3 σ) := by
  intro v0 v1 v2 v3 σ
  unfold m_X3_carryBits_b75
  refine V_iinc (x := v3) (v := (v3 + 1)) (ls' := [some (va_rf v0), some (va_rf v1), some (.int v2), some (.int (v3 + 1)), none]) dX3_carryBits_75 rfl rfl (by decide) rfl ?_
  refine V_goto (tgt := 34) dX3_carryBits_78 (by decide) ?_
  exact hrec34 v0 v1 v2 ((v3 + 1)) σ
set_option maxRecDepth 100000 in
set_option maxHeartbeats 4000000 in
theorem v_X3_carryBits_B34 {D : DG} {z0 : Nat} {l : Launch} {rec34 : Option Nat → Option Nat → Int32 → Int32 → SG → Option (Unit × SG)} (hrec34 : ∀ (v0 : Option Nat) (v1 : Option Nat) (v2 : Int32) (v3 : Int32) (σ : SG), V D z0 l RX3 cX3_carryBits 5 wsX3_carryBits none rmX3_carryBits false tvU 34 [some (va_rf v0), some (va_rf v1), some (.int v2), some (.int v3), none] [] σ 0 0 (rec34 v0 v1 v2 v3 σ)) : ∀ (v0 : Option Nat) (v1 : Option Nat) (v2 : Int32) (v3 : Int32) (σ : SG), V D z0 l RX3 cX3_carryBits 5 wsX3_carryBits none rmX3_carryBits false tvU 34 [some (va_rf v0), some (va_rf v1), some (.int v2), some (.int v3), none] [] σ 0 0 (m_X3_carryBits_B34 rec34 v0 v1 v2 v3 σ) := by
  intro v0 v1 v2 v3 σ
  unfold m_X3_carryBits_B34
  refine V_iload_n (x := v3) dX3_carryBits_34 rfl ?_
  refine V_iload_n (x := v2) dX3_carryBits_35 rfl ?_
  refine V_icmp_ge (tgt := 81) (x := v3) (y := v2) dX3_carryBits_36 (by decide) (fun hc10 => ?_) (fun hc10 => ?_)
  · refine V_aload_n (x := v0) dX3_carryBits_81 rfl ?_
    refine V_getR fd_X3_carryBits_19_X3 dX3_carryBits_82 (fun x11 => ?_)
    refine V_astore_n (x := x11) (ls' := [some (va_rf v0), some (va_rf x11), some (.int v2), some (.int v3), none]) dX3_carryBits_85 (by decide) rfl ?_
    refine V_aload_n (x := x11) dX3_carryBits_86 rfl ?_
    refine V_alen dX3_carryBits_87 (fun x12 => ?_)
    refine V_istore_n (x := x12) (ls' := [some (va_rf v0), some (va_rf x11), some (.int x12), some (.int v3), none]) dX3_carryBits_88 (by decide) rfl ?_
    refine V_iconst (v := (0 : Int32)) dX3_carryBits_89 rfl ?_
    refine V_istore_n (x := (0 : Int32)) (ls' := [some (va_rf v0), some (va_rf x11), some (.int x12), some (.int (0 : Int32)), none]) dX3_carryBits_90 (by decide) rfl ?_
    exact v_X3_carryBits_L91  1000 v0 x11 x12 ((0 : Int32)) σ
  · refine V_aload_n (x := v1) dX3_carryBits_39 rfl ?_
    refine V_iload_n (x := v3) dX3_carryBits_40 rfl ?_
    refine V_aaload dX3_carryBits_41 (fun x13 => ?_)
    refine V_astore (x := x13) (ls' := [some (va_rf v0), some (va_rf v1), some (.int v2), some (.int v3), some (va_rf x13)]) dX3_carryBits_42 (by decide) rfl ?_
    refine V_aload (x := x13) dX3_carryBits_44 rfl ?_
    refine V_callV0 (As := []) (st0 := []) (stI := [va_rf x13]) (fun _ h => by cases h; exact t_X6_isSpeaking _ σ) (q := (RX6, TX6, 10)) rfl rfl rfl (Nat.le_of_ble_eq_true rfl) rfl (fun s args hts => cwV 0 hts gX3_carryBits_X6_isSpeaking rfl rfl rfl (by decide +kernel) ⟨Nat.le_of_ble_eq_true rfl, Nat.le_of_ble_eq_true rfl⟩) rfl rfl dX3_carryBits_46 (fun r14 σ15 _ => ?_)
    refine V_if_eq (tgt := 75) (x := r14) dX3_carryBits_49 (by decide) (fun hc16 => ?_) (fun hc16 => ?_)
    · exact V_sub (LE.s (LE.s (LE.s (LE.s (LE.n LE.e))))) (v_X3_carryBits_b75 hrec34 v0 v1 v2 v3 σ15)
    · refine V_aload (x := x13) dX3_carryBits_52 rfl ?_
      refine V_callV0 (As := []) (st0 := []) (stI := [va_rf x13]) (fun _ h => by cases h; exact t_X6_bitToSend _ σ15) (q := (RX6, TX6, 10)) rfl rfl rfl (Nat.le_of_ble_eq_true rfl) rfl (fun s args hts => cwV 0 hts gX3_carryBits_X6_bitToSend rfl rfl rfl (by decide +kernel) ⟨Nat.le_of_ble_eq_true rfl, Nat.le_of_ble_eq_true rfl⟩) rfl rfl dX3_carryBits_54 (fun r17 σ18 _ => ?_)
      refine V_iconst (v := (1 : Int32)) dX3_carryBits_57 rfl ?_
      refine V_icmp_ne (tgt := 75) (x := r17) (y := (1 : Int32)) dX3_carryBits_58 (by decide) (fun hc19 => ?_) (fun hc19 => ?_)
      · refine V_aload_n (x := v0) dX3_carryBits_61 rfl ?_
        refine V_aload (x := x13) dX3_carryBits_62 rfl ?_
        refine V_getI fd_X3_carryBits_130_X6 dX3_carryBits_64 (fun x20 => ?_)
        refine V_aload (x := x13) dX3_carryBits_67 rfl ?_
        refine V_getI fd_X3_carryBits_146_X6 dX3_carryBits_69 (fun x21 => ?_)
        refine V_callV0 (As := [.int x20, .int x21]) (st0 := []) (stI := [.int x21, .int x20, va_rf v0]) (fun _ h => by cases h; exact t_X3_spreadOne _ x20 x21 σ18) (q := (RX3, TX3, 8)) rfl rfl rfl (Nat.le_of_ble_eq_true rfl) rfl (fun s args hts => cwV 2 hts gX3_carryBits_X3_spreadOne rfl rfl rfl (by decide +kernel) ⟨Nat.le_of_ble_eq_true rfl, Nat.le_of_ble_eq_true rfl⟩) rfl rfl dX3_carryBits_72 (fun _ σ22 _ => ?_)
        exact V_sub (LE.s (LE.s (LE.s (LE.s (LE.n LE.e))))) (v_X3_carryBits_b75 hrec34 v0 v1 v2 v3 σ22)
      · exact V_sub (LE.s (LE.s (LE.s (LE.s (LE.n LE.e))))) (v_X3_carryBits_b75 hrec34 v0 v1 v2 v3 σ18)
theorem v_X3_carryBits_L34 {D : DG} {z0 : Nat} {l : Launch} : ∀ (n : Nat) (v0 : Option Nat) (v1 : Option Nat) (v2 : Int32) (v3 : Int32) (σ : SG), V D z0 l RX3 cX3_carryBits 5 wsX3_carryBits none rmX3_carryBits false tvU 34 [some (va_rf v0), some (va_rf v1), some (.int v2), some (.int v3), none] [] σ 0 0 (m_X3_carryBits_L34 n v0 v1 v2 v3 σ) := by
  intro n
  induction n with
  | zero => intros; exact V_none
  | succ n ih => exact v_X3_carryBits_B34  ih
set_option maxRecDepth 100000 in
set_option maxHeartbeats 4000000 in
theorem v_X3_carryBits_B2 {D : DG} {z0 : Nat} {l : Launch} {rec2 : Option Nat → Int32 → SG → Option (Unit × SG)} (hrec2 : ∀ (v0 : Option Nat) (v1 : Int32) (σ : SG), V D z0 l RX3 cX3_carryBits 5 wsX3_carryBits none rmX3_carryBits false tvU 2 [some (va_rf v0), some (.int v1), none, none, none] [] σ 0 0 (rec2 v0 v1 σ)) : ∀ (v0 : Option Nat) (v1 : Int32) (σ : SG), V D z0 l RX3 cX3_carryBits 5 wsX3_carryBits none rmX3_carryBits false tvU 2 [some (va_rf v0), some (.int v1), none, none, none] [] σ 0 0 (m_X3_carryBits_B2 rec2 v0 v1 σ) := by
  intro v0 v1 σ
  unfold m_X3_carryBits_B2
  refine V_iload_n (x := v1) dX3_carryBits_2 rfl ?_
  refine V_aload_n (x := v0) dX3_carryBits_3 rfl ?_
  refine V_getR fd_X3_carryBits_46_X3 dX3_carryBits_4 (fun x23 => ?_)
  refine V_alen dX3_carryBits_7 (fun x24 => ?_)
  refine V_icmp_ge (tgt := 24) (x := v1) (y := x24) dX3_carryBits_8 (by decide) (fun hc25 => ?_) (fun hc25 => ?_)
  · refine V_aload_n (x := v0) dX3_carryBits_24 rfl ?_
    refine V_getR fd_X3_carryBits_11_X3 dX3_carryBits_25 (fun x26 => ?_)
    refine V_astore_n (x := x26) (ls' := [some (va_rf v0), some (va_rf x26), none, none, none]) dX3_carryBits_28 (by decide) rfl ?_
    refine V_aload_n (x := x26) dX3_carryBits_29 rfl ?_
    refine V_alen dX3_carryBits_30 (fun x27 => ?_)
    refine V_istore_n (x := x27) (ls' := [some (va_rf v0), some (va_rf x26), some (.int x27), none, none]) dX3_carryBits_31 (by decide) rfl ?_
    refine V_iconst (v := (0 : Int32)) dX3_carryBits_32 rfl ?_
    refine V_istore_n (x := (0 : Int32)) (ls' := [some (va_rf v0), some (va_rf x26), some (.int x27), some (.int (0 : Int32)), none]) dX3_carryBits_33 (by decide) rfl ?_
    exact v_X3_carryBits_L34  1000 v0 x26 x27 ((0 : Int32)) σ
  · refine V_aload_n (x := v0) dX3_carryBits_11 rfl ?_
    refine V_getR fd_X3_carryBits_46_X3 dX3_carryBits_12 (fun x28 => ?_)
    refine V_iload_n (x := v1) dX3_carryBits_15 rfl ?_
    refine V_iconst (v := (0 : Int32)) dX3_carryBits_16 rfl ?_
    refine V_zastore dX3_carryBits_17 (fun σ29 hσ29 => ?_)
    refine V_iinc (x := v1) (v := (v1 + 1)) (ls' := [some (va_rf v0), some (.int (v1 + 1)), none, none, none]) dX3_carryBits_18 rfl rfl (by decide) rfl ?_
    refine V_goto (tgt := 2) dX3_carryBits_21 (by decide) ?_
    exact hrec2 v0 ((v1 + 1)) σ29
theorem v_X3_carryBits_L2 {D : DG} {z0 : Nat} {l : Launch} : ∀ (n : Nat) (v0 : Option Nat) (v1 : Int32) (σ : SG), V D z0 l RX3 cX3_carryBits 5 wsX3_carryBits none rmX3_carryBits false tvU 2 [some (va_rf v0), some (.int v1), none, none, none] [] σ 0 0 (m_X3_carryBits_L2 n v0 v1 σ) := by
  intro n
  induction n with
  | zero => intros; exact V_none
  | succ n ih => exact v_X3_carryBits_B2  ih
set_option maxRecDepth 100000 in
set_option maxHeartbeats 4000000 in
theorem v_X3_carryBits {D : DG} {z0 : Nat} {l : Launch} : ∀ (a0 : Option Nat) (σ : SG), V D z0 l RX3 cX3_carryBits 5 wsX3_carryBits none rmX3_carryBits false tvU 0 [some (va_rf a0), none, none, none, none] [] σ 0 0 (m_X3_carryBits a0 σ) := by
  intro a0 σ
  unfold m_X3_carryBits
  refine V_iconst (v := (0 : Int32)) dX3_carryBits_0 rfl ?_
  refine V_istore_n (x := (0 : Int32)) (ls' := [some (va_rf a0), some (.int (0 : Int32)), none, none, none]) dX3_carryBits_1 (by decide) rfl ?_
  exact v_X3_carryBits_L2  1000 a0 ((0 : Int32)) σ
theorem t_X3_carryBits {D : DG} {z0 : Nat} {l : Launch} (a : Nat)  (σ : SG) : MT D z0 l yX3_carryBits wsX3_carryBits rmX3_carryBits tvU [.ref a] σ (m_X3_carryBits (some a) σ) :=
  MT.of (own := RX3) (cc := cX3_carryBits) (nL := 5) (ret := none) (ct := false) (by decide) rfl rfl (fun h => by cases h) (Nat.le_of_ble_eq_true rfl) (by intro v hv; simp only [List.mem_cons, List.not_mem_nil, or_false] at hv; first | (rcases hv with rfl <;> first | rfl | exact va_rf_cat _) | exact absurd hv (fun h => h)) (v_X3_carryBits (some a) σ)
theorem in_X3_isHeardOn_X3 : ∀ w ∈ u_ws RX3 TX3 8, w ∈ wsX3_isHeardOn := by decide +kernel
theorem wd_X3_isHeardOn_1 : Cond.fieldLink RX3 46 "MainsWords$Net" "heard" "[Z" ∈ wsX3_isHeardOn := by decide +kernel
theorem fd_X3_isHeardOn_46_X3 : FD RX3 46 wsX3_isHeardOn 3 7 := ⟨RX3, "MainsWords$Net", TX3, 8, rfl, in_X3_isHeardOn_X3, by decide, wd_X3_isHeardOn_1, Or.inl rfl⟩
set_option maxRecDepth 100000 in
set_option maxHeartbeats 4000000 in
theorem v_X3_isHeardOn {D : DG} {z0 : Nat} {l : Launch} : ∀ (a0 : Option Nat) (a1 : Int32) (σ : SG), V D z0 l RX3 cX3_isHeardOn 2 wsX3_isHeardOn (some .boolean) rmX3_isHeardOn false tvI 0 [some (va_rf a0), some (.int a1)] [] σ 0 0 (m_X3_isHeardOn a0 a1 σ) := by
  intro a0 a1 σ
  unfold m_X3_isHeardOn
  refine V_iload_n (x := a1) dX3_isHeardOn_0 rfl ?_
  refine V_if_lt (tgt := 26) (x := a1) dX3_isHeardOn_1 (by decide) (fun hc1 => ?_) (fun hc1 => ?_)
  · refine V_iconst (v := (0 : Int32)) dX3_isHeardOn_26 rfl ?_
    exact V_zret (fun _ => rfl) rfl (Nat.zero_le _) (Nat.zero_le _) dX3_isHeardOn_27
  · refine V_iload_n (x := a1) dX3_isHeardOn_4 rfl ?_
    refine V_aload_n (x := a0) dX3_isHeardOn_5 rfl ?_
    refine V_getR fd_X3_isHeardOn_46_X3 dX3_isHeardOn_6 (fun x2 => ?_)
    refine V_alen dX3_isHeardOn_9 (fun x3 => ?_)
    refine V_icmp_ge (tgt := 26) (x := a1) (y := x3) dX3_isHeardOn_10 (by decide) (fun hc4 => ?_) (fun hc4 => ?_)
    · refine V_iconst (v := (0 : Int32)) dX3_isHeardOn_26 rfl ?_
      exact V_zret (fun _ => rfl) rfl (Nat.zero_le _) (Nat.zero_le _) dX3_isHeardOn_27
    · refine V_aload_n (x := a0) dX3_isHeardOn_13 rfl ?_
      refine V_getR fd_X3_isHeardOn_46_X3 dX3_isHeardOn_14 (fun x5 => ?_)
      refine V_iload_n (x := a1) dX3_isHeardOn_17 rfl ?_
      refine V_zaload dX3_isHeardOn_18 (fun x6 => ?_)
      refine V_if_eq (tgt := 26) (x := x6) dX3_isHeardOn_19 (by decide) (fun hc7 => ?_) (fun hc7 => ?_)
      · refine V_iconst (v := (0 : Int32)) dX3_isHeardOn_26 rfl ?_
        exact V_zret (fun _ => rfl) rfl (Nat.zero_le _) (Nat.zero_le _) dX3_isHeardOn_27
      · refine V_iconst (v := (1 : Int32)) dX3_isHeardOn_22 rfl ?_
        refine V_goto (tgt := 27) dX3_isHeardOn_23 (by decide) ?_
        exact V_zret (fun _ => rfl) rfl (Nat.zero_le _) (Nat.zero_le _) dX3_isHeardOn_27
theorem t_X3_isHeardOn {D : DG} {z0 : Nat} {l : Launch} (a : Nat) (a1 : Int32) (σ : SG) : MT D z0 l yX3_isHeardOn wsX3_isHeardOn rmX3_isHeardOn tvI [.ref a, .int a1] σ (m_X3_isHeardOn (some a) a1 σ) :=
  MT.of (own := RX3) (cc := cX3_isHeardOn) (nL := 2) (ret := (some .boolean)) (ct := false) (by decide) rfl rfl (fun h => by cases h) (Nat.le_of_ble_eq_true rfl) (by intro v hv; simp only [List.mem_cons, List.not_mem_nil, or_false] at hv; first | (rcases hv with rfl | rfl <;> first | rfl | exact va_rf_cat _) | exact absurd hv (fun h => h)) (v_X3_isHeardOn (some a) a1 σ)
theorem in_X6_isDisturbedBy_X6 : ∀ w ∈ u_ws RX6 TX6 10, w ∈ wsX6_isDisturbedBy := by decide +kernel
theorem wd_X6_isDisturbedBy_1 : Cond.fieldLink RX6 29 "MainsWords$Sender" "place" "I" ∈ wsX6_isDisturbedBy := by decide +kernel
theorem fd_X6_isDisturbedBy_29_X6 : FD RX6 29 wsX6_isDisturbedBy 6 8 := ⟨RX6, "MainsWords$Sender", TX6, 10, rfl, in_X6_isDisturbedBy_X6, by decide, wd_X6_isDisturbedBy_1, Or.inl rfl⟩
set_option maxRecDepth 100000 in
set_option maxHeartbeats 4000000 in
theorem v_X6_isDisturbedBy {D : DG} {z0 : Nat} {l : Launch} : ∀ (a0 : Option Nat) (a1 : Int32) (σ : SG), V D z0 l RX6 cX6_isDisturbedBy 2 wsX6_isDisturbedBy (some .boolean) rmX6_isDisturbedBy false tvI 0 [some (va_rf a0), some (.int a1)] [] σ 0 0 (m_X6_isDisturbedBy a0 a1 σ) := by
  intro a0 a1 σ
  unfold m_X6_isDisturbedBy
  refine V_iload_n (x := a1) dX6_isDisturbedBy_0 rfl ?_
  refine V_if_eq (tgt := 24) (x := a1) dX6_isDisturbedBy_1 (by decide) (fun hc1 => ?_) (fun hc1 => ?_)
  · refine V_iconst (v := (0 : Int32)) dX6_isDisturbedBy_24 rfl ?_
    exact V_zret (fun _ => rfl) rfl (Nat.zero_le _) (Nat.zero_le _) dX6_isDisturbedBy_25
  · refine V_aload_n (x := a0) dX6_isDisturbedBy_4 rfl ?_
    refine V_getI fd_X6_isDisturbedBy_29_X6 dX6_isDisturbedBy_5 (fun x2 => ?_)
    refine V_bipush (v := (14 : Int32)) dX6_isDisturbedBy_8 rfl ?_
    refine V_icmp_ge (tgt := 24) (x := x2) (y := (14 : Int32)) dX6_isDisturbedBy_10 (by decide) (fun hc3 => ?_) (fun hc3 => ?_)
    · refine V_iconst (v := (0 : Int32)) dX6_isDisturbedBy_24 rfl ?_
      exact V_zret (fun _ => rfl) rfl (Nat.zero_le _) (Nat.zero_le _) dX6_isDisturbedBy_25
    · refine V_aload_n (x := a0) dX6_isDisturbedBy_13 rfl ?_
      refine V_callV0 (As := []) (st0 := []) (stI := [va_rf a0]) (fun _ h => by cases h; exact t_X6_bitToSend _ σ) (q := (RX6, TX6, 10)) rfl rfl rfl (Nat.le_of_ble_eq_true rfl) rfl (fun s args hts => cwV 0 hts gX6_isDisturbedBy_X6_bitToSend rfl rfl rfl (by decide +kernel) ⟨Nat.le_of_ble_eq_true rfl, Nat.le_of_ble_eq_true rfl⟩) rfl rfl dX6_isDisturbedBy_14 (fun r4 σ5 _ => ?_)
      refine V_if_ne (tgt := 24) (x := r4) dX6_isDisturbedBy_17 (by decide) (fun hc6 => ?_) (fun hc6 => ?_)
      · refine V_iconst (v := (1 : Int32)) dX6_isDisturbedBy_20 rfl ?_
        refine V_goto (tgt := 25) dX6_isDisturbedBy_21 (by decide) ?_
        exact V_zret (fun _ => rfl) rfl (Nat.zero_le _) (Nat.zero_le _) dX6_isDisturbedBy_25
      · refine V_iconst (v := (0 : Int32)) dX6_isDisturbedBy_24 rfl ?_
        exact V_zret (fun _ => rfl) rfl (Nat.zero_le _) (Nat.zero_le _) dX6_isDisturbedBy_25
theorem t_X6_isDisturbedBy {D : DG} {z0 : Nat} {l : Launch} (a : Nat) (a1 : Int32) (σ : SG) : MT D z0 l yX6_isDisturbedBy wsX6_isDisturbedBy rmX6_isDisturbedBy tvI [.ref a, .int a1] σ (m_X6_isDisturbedBy (some a) a1 σ) :=
  MT.of (own := RX6) (cc := cX6_isDisturbedBy) (nL := 2) (ret := (some .boolean)) (ct := false) (by decide) rfl rfl (fun h => by cases h) (Nat.le_of_ble_eq_true rfl) (by intro v hv; simp only [List.mem_cons, List.not_mem_nil, or_false] at hv; first | (rcases hv with rfl | rfl <;> first | rfl | exact va_rf_cat _) | exact absurd hv (fun h => h)) (v_X6_isDisturbedBy (some a) a1 σ)
theorem in_X6_giveWay_X6 : ∀ w ∈ u_ws RX6 TX6 10, w ∈ wsX6_giveWay := by decide +kernel
theorem wd_X6_giveWay_1 : Cond.fieldLink RX6 22 "MainsWords$Sender" "speaks" "Z" ∈ wsX6_giveWay := by decide +kernel
theorem fd_X6_giveWay_22_X6 : FD RX6 22 wsX6_giveWay 6 6 := ⟨RX6, "MainsWords$Sender", TX6, 10, rfl, in_X6_giveWay_X6, by decide, wd_X6_giveWay_1, Or.inl rfl⟩
theorem fw_X6_giveWay_X6_6 : FW RX6 wsX6_giveWay 6 6 .boolean false := ⟨RX6, TX6, 10, tyX6, rfl, in_X6_giveWay_X6, tyX6_ok, nmX6, rfl, (fun h => by cases h), rfl⟩
theorem wd_X6_giveWay_4 : Cond.sameField "MainsWords$Sender" "MainsWords$Thing" "number" "I" ∈ wsX6_giveWay := by decide +kernel
theorem wd_X6_giveWay_5 : Cond.fieldLink RX6 57 "MainsWords$Sender" "number" "I" ∈ wsX6_giveWay := by decide +kernel
theorem fd_X6_giveWay_57_X6 : FD RX6 57 wsX6_giveWay 6 0 := ⟨RX6, "MainsWords$Sender", TX6, 10, rfl, in_X6_giveWay_X6, by decide, wd_X6_giveWay_5, Or.inr wd_X6_giveWay_4⟩
theorem wd_X6_giveWay_7 : Cond.fieldLink RX6 32 "MainsWords$Sender" "pause" "I" ∈ wsX6_giveWay := by decide +kernel
theorem fd_X6_giveWay_32_X6 : FD RX6 32 wsX6_giveWay 6 9 := ⟨RX6, "MainsWords$Sender", TX6, 10, rfl, in_X6_giveWay_X6, by decide, wd_X6_giveWay_7, Or.inl rfl⟩
theorem fw_X6_giveWay_X6_9 : FW RX6 wsX6_giveWay 6 9 .int false := ⟨RX6, TX6, 10, tyX6, rfl, in_X6_giveWay_X6, tyX6_ok, nmX6, rfl, (fun h => by cases h), rfl⟩
set_option maxRecDepth 100000 in
set_option maxHeartbeats 4000000 in
theorem v_X6_giveWay {D : DG} {z0 : Nat} {l : Launch} : ∀ (a0 : Option Nat) (σ : SG), V D z0 l RX6 cX6_giveWay 1 wsX6_giveWay none rmX6_giveWay false tvU 0 [some (va_rf a0)] [] σ 0 0 (m_X6_giveWay a0 σ) := by
  intro a0 σ
  unfold m_X6_giveWay
  refine V_aload_n (x := a0) dX6_giveWay_0 rfl ?_
  refine V_iconst (v := (0 : Int32)) dX6_giveWay_1 rfl ?_
  refine V_putZ fd_X6_giveWay_22_X6 fw_X6_giveWay_X6_6 (fun h => by cases h) dX6_giveWay_2 (fun σ1 hσ1 => ?_)
  refine V_aload_n (x := a0) dX6_giveWay_5 rfl ?_
  refine V_iconst (v := (3 : Int32)) dX6_giveWay_6 rfl ?_
  refine V_iconst (v := (2 : Int32)) dX6_giveWay_7 rfl ?_
  refine V_aload_n (x := a0) dX6_giveWay_8 rfl ?_
  refine V_getI fd_X6_giveWay_57_X6 dX6_giveWay_9 (fun x2 => ?_)
  refine V_imul (x := (2 : Int32)) (y := x2) dX6_giveWay_12 ?_
  refine V_iadd (x := (3 : Int32)) (y := ((2 : Int32) * x2)) dX6_giveWay_13 ?_
  refine V_putI fd_X6_giveWay_32_X6 fw_X6_giveWay_X6_9 (fun h => by cases h) dX6_giveWay_14 (fun σ3 hσ3 => ?_)
  exact V_vret (fun _ => rfl) rfl (Nat.zero_le _) (Nat.zero_le _) dX6_giveWay_17
theorem t_X6_giveWay {D : DG} {z0 : Nat} {l : Launch} (a : Nat)  (σ : SG) : MT D z0 l yX6_giveWay wsX6_giveWay rmX6_giveWay tvU [.ref a] σ (m_X6_giveWay (some a) σ) :=
  MT.of (own := RX6) (cc := cX6_giveWay) (nL := 1) (ret := none) (ct := false) (by decide) rfl rfl (fun h => by cases h) (Nat.le_of_ble_eq_true rfl) (by intro v hv; simp only [List.mem_cons, List.not_mem_nil, or_false] at hv; first | (rcases hv with rfl <;> first | rfl | exact va_rf_cat _) | exact absurd hv (fun h => h)) (v_X6_giveWay (some a) σ)
theorem in_X6_dropFirstWord_X6 : ∀ w ∈ u_ws RX6 TX6 10, w ∈ wsX6_dropFirstWord := by decide +kernel
theorem wd_X6_dropFirstWord_1 : Cond.fieldLink RX6 9 "MainsWords$Sender" "queue" "[I" ∈ wsX6_dropFirstWord := by decide +kernel
theorem fd_X6_dropFirstWord_9_X6 : FD RX6 9 wsX6_dropFirstWord 6 3 := ⟨RX6, "MainsWords$Sender", TX6, 10, rfl, in_X6_dropFirstWord_X6, by decide, wd_X6_dropFirstWord_1, Or.inl rfl⟩
theorem wd_X6_dropFirstWord_3 : Cond.fieldLink RX6 15 "MainsWords$Sender" "queueLength" "I" ∈ wsX6_dropFirstWord := by decide +kernel
theorem fd_X6_dropFirstWord_15_X6 : FD RX6 15 wsX6_dropFirstWord 6 4 := ⟨RX6, "MainsWords$Sender", TX6, 10, rfl, in_X6_dropFirstWord_X6, by decide, wd_X6_dropFirstWord_3, Or.inl rfl⟩
theorem fw_X6_dropFirstWord_X6_4 : FW RX6 wsX6_dropFirstWord 6 4 .int false := ⟨RX6, TX6, 10, tyX6, rfl, in_X6_dropFirstWord_X6, tyX6_ok, nmX6, rfl, (fun h => by cases h), rfl⟩
set_option maxRecDepth 100000 in
set_option maxHeartbeats 4000000 in
theorem v_X6_dropFirstWord_B2 {D : DG} {z0 : Nat} {l : Launch} {rec2 : Option Nat → Int32 → SG → Option (Unit × SG)} (hrec2 : ∀ (v0 : Option Nat) (v1 : Int32) (σ : SG), V D z0 l RX6 cX6_dropFirstWord 2 wsX6_dropFirstWord none rmX6_dropFirstWord false tvU 2 [some (va_rf v0), some (.int v1)] [] σ 0 0 (rec2 v0 v1 σ)) : ∀ (v0 : Option Nat) (v1 : Int32) (σ : SG), V D z0 l RX6 cX6_dropFirstWord 2 wsX6_dropFirstWord none rmX6_dropFirstWord false tvU 2 [some (va_rf v0), some (.int v1)] [] σ 0 0 (m_X6_dropFirstWord_B2 rec2 v0 v1 σ) := by
  intro v0 v1 σ
  unfold m_X6_dropFirstWord_B2
  refine V_iload_n (x := v1) dX6_dropFirstWord_2 rfl ?_
  refine V_aload_n (x := v0) dX6_dropFirstWord_3 rfl ?_
  refine V_getR fd_X6_dropFirstWord_9_X6 dX6_dropFirstWord_4 (fun x1 => ?_)
  refine V_alen dX6_dropFirstWord_7 (fun x2 => ?_)
  refine V_icmp_ge (tgt := 31) (x := v1) (y := x2) dX6_dropFirstWord_8 (by decide) (fun hc3 => ?_) (fun hc3 => ?_)
  · refine V_aload_n (x := v0) dX6_dropFirstWord_31 rfl ?_
    refine V_dup dX6_dropFirstWord_32 (va_rf_cat _) ?_
    refine V_getI fd_X6_dropFirstWord_15_X6 dX6_dropFirstWord_33 (fun x4 => ?_)
    refine V_iconst (v := (1 : Int32)) dX6_dropFirstWord_36 rfl ?_
    refine V_isub (x := x4) (y := (1 : Int32)) dX6_dropFirstWord_37 ?_
    refine V_putI fd_X6_dropFirstWord_15_X6 fw_X6_dropFirstWord_X6_4 (fun h => by cases h) dX6_dropFirstWord_38 (fun σ5 hσ5 => ?_)
    exact V_vret (fun _ => rfl) rfl (Nat.zero_le _) (Nat.zero_le _) dX6_dropFirstWord_41
  · refine V_aload_n (x := v0) dX6_dropFirstWord_11 rfl ?_
    refine V_getR fd_X6_dropFirstWord_9_X6 dX6_dropFirstWord_12 (fun x6 => ?_)
    refine V_iload_n (x := v1) dX6_dropFirstWord_15 rfl ?_
    refine V_iconst (v := (1 : Int32)) dX6_dropFirstWord_16 rfl ?_
    refine V_isub (x := v1) (y := (1 : Int32)) dX6_dropFirstWord_17 ?_
    refine V_aload_n (x := v0) dX6_dropFirstWord_18 rfl ?_
    refine V_getR fd_X6_dropFirstWord_9_X6 dX6_dropFirstWord_19 (fun x7 => ?_)
    refine V_iload_n (x := v1) dX6_dropFirstWord_22 rfl ?_
    refine V_iaload dX6_dropFirstWord_23 (fun x8 => ?_)
    refine V_iastore dX6_dropFirstWord_24 (fun σ9 hσ9 => ?_)
    refine V_iinc (x := v1) (v := (v1 + 1)) (ls' := [some (va_rf v0), some (.int (v1 + 1))]) dX6_dropFirstWord_25 rfl rfl (by decide) rfl ?_
    refine V_goto (tgt := 2) dX6_dropFirstWord_28 (by decide) ?_
    exact hrec2 v0 ((v1 + 1)) σ9
theorem v_X6_dropFirstWord_L2 {D : DG} {z0 : Nat} {l : Launch} : ∀ (n : Nat) (v0 : Option Nat) (v1 : Int32) (σ : SG), V D z0 l RX6 cX6_dropFirstWord 2 wsX6_dropFirstWord none rmX6_dropFirstWord false tvU 2 [some (va_rf v0), some (.int v1)] [] σ 0 0 (m_X6_dropFirstWord_L2 n v0 v1 σ) := by
  intro n
  induction n with
  | zero => intros; exact V_none
  | succ n ih => exact v_X6_dropFirstWord_B2  ih
set_option maxRecDepth 100000 in
set_option maxHeartbeats 4000000 in
theorem v_X6_dropFirstWord {D : DG} {z0 : Nat} {l : Launch} : ∀ (a0 : Option Nat) (σ : SG), V D z0 l RX6 cX6_dropFirstWord 2 wsX6_dropFirstWord none rmX6_dropFirstWord false tvU 0 [some (va_rf a0), none] [] σ 0 0 (m_X6_dropFirstWord a0 σ) := by
  intro a0 σ
  unfold m_X6_dropFirstWord
  refine V_iconst (v := (1 : Int32)) dX6_dropFirstWord_0 rfl ?_
  refine V_istore_n (x := (1 : Int32)) (ls' := [some (va_rf a0), some (.int (1 : Int32))]) dX6_dropFirstWord_1 (by decide) rfl ?_
  exact v_X6_dropFirstWord_L2  1000 a0 ((1 : Int32)) σ
theorem t_X6_dropFirstWord {D : DG} {z0 : Nat} {l : Launch} (a : Nat)  (σ : SG) : MT D z0 l yX6_dropFirstWord wsX6_dropFirstWord rmX6_dropFirstWord tvU [.ref a] σ (m_X6_dropFirstWord (some a) σ) :=
  MT.of (own := RX6) (cc := cX6_dropFirstWord) (nL := 2) (ret := none) (ct := false) (by decide) rfl rfl (fun h => by cases h) (Nat.le_of_ble_eq_true rfl) (by intro v hv; simp only [List.mem_cons, List.not_mem_nil, or_false] at hv; first | (rcases hv with rfl <;> first | rfl | exact va_rf_cat _) | exact absurd hv (fun h => h)) (v_X6_dropFirstWord (some a) σ)
theorem in_X6_goOn_X6 : ∀ w ∈ u_ws RX6 TX6 10, w ∈ wsX6_goOn := by decide +kernel
theorem wd_X6_goOn_1 : Cond.fieldLink RX6 29 "MainsWords$Sender" "place" "I" ∈ wsX6_goOn := by decide +kernel
theorem fd_X6_goOn_29_X6 : FD RX6 29 wsX6_goOn 6 8 := ⟨RX6, "MainsWords$Sender", TX6, 10, rfl, in_X6_goOn_X6, by decide, wd_X6_goOn_1, Or.inl rfl⟩
theorem fw_X6_goOn_X6_8 : FW RX6 wsX6_goOn 6 8 .int false := ⟨RX6, TX6, 10, tyX6, rfl, in_X6_goOn_X6, tyX6_ok, nmX6, rfl, (fun h => by cases h), rfl⟩
theorem wd_X6_goOn_4 : Cond.fieldLink RX6 26 "MainsWords$Sender" "copy" "I" ∈ wsX6_goOn := by decide +kernel
theorem fd_X6_goOn_26_X6 : FD RX6 26 wsX6_goOn 6 7 := ⟨RX6, "MainsWords$Sender", TX6, 10, rfl, in_X6_goOn_X6, by decide, wd_X6_goOn_4, Or.inl rfl⟩
theorem fw_X6_goOn_X6_7 : FW RX6 wsX6_goOn 6 7 .int false := ⟨RX6, TX6, 10, tyX6, rfl, in_X6_goOn_X6, tyX6_ok, nmX6, rfl, (fun h => by cases h), rfl⟩
theorem wd_X6_goOn_7 : Cond.fieldLink RX6 22 "MainsWords$Sender" "speaks" "Z" ∈ wsX6_goOn := by decide +kernel
theorem fd_X6_goOn_22_X6 : FD RX6 22 wsX6_goOn 6 6 := ⟨RX6, "MainsWords$Sender", TX6, 10, rfl, in_X6_goOn_X6, by decide, wd_X6_goOn_7, Or.inl rfl⟩
theorem fw_X6_goOn_X6_6 : FW RX6 wsX6_goOn 6 6 .boolean false := ⟨RX6, TX6, 10, tyX6, rfl, in_X6_goOn_X6, tyX6_ok, nmX6, rfl, (fun h => by cases h), rfl⟩
set_option maxRecDepth 100000 in
set_option maxHeartbeats 4000000 in
theorem v_X6_goOn {D : DG} {z0 : Nat} {l : Launch} : ∀ (a0 : Option Nat) (a1 : Int32) (σ : SG), V D z0 l RX6 cX6_goOn 2 wsX6_goOn (some .boolean) rmX6_goOn false tvI 0 [some (va_rf a0), some (.int a1)] [] σ 0 0 (m_X6_goOn a0 a1 σ) := by
  intro a0 a1 σ
  unfold m_X6_goOn
  refine V_aload_n (x := a0) dX6_goOn_0 rfl ?_
  refine V_dup dX6_goOn_1 (va_rf_cat _) ?_
  refine V_getI fd_X6_goOn_29_X6 dX6_goOn_2 (fun x1 => ?_)
  refine V_iconst (v := (1 : Int32)) dX6_goOn_5 rfl ?_
  refine V_iadd (x := x1) (y := (1 : Int32)) dX6_goOn_6 ?_
  refine V_putI fd_X6_goOn_29_X6 fw_X6_goOn_X6_8 (fun h => by cases h) dX6_goOn_7 (fun σ2 hσ2 => ?_)
  refine V_aload_n (x := a0) dX6_goOn_10 rfl ?_
  refine V_getI fd_X6_goOn_29_X6 dX6_goOn_11 (fun x3 => ?_)
  refine V_bipush (v := (16 : Int32)) dX6_goOn_14 rfl ?_
  refine V_icmp_gt (tgt := 21) (x := x3) (y := (16 : Int32)) dX6_goOn_16 (by decide) (fun hc4 => ?_) (fun hc4 => ?_)
  · refine V_aload_n (x := a0) dX6_goOn_21 rfl ?_
    refine V_iconst (v := (0 : Int32)) dX6_goOn_22 rfl ?_
    refine V_putI fd_X6_goOn_29_X6 fw_X6_goOn_X6_8 (fun h => by cases h) dX6_goOn_23 (fun σ5 hσ5 => ?_)
    refine V_aload_n (x := a0) dX6_goOn_26 rfl ?_
    refine V_dup dX6_goOn_27 (va_rf_cat _) ?_
    refine V_getI fd_X6_goOn_26_X6 dX6_goOn_28 (fun x6 => ?_)
    refine V_iconst (v := (1 : Int32)) dX6_goOn_31 rfl ?_
    refine V_iadd (x := x6) (y := (1 : Int32)) dX6_goOn_32 ?_
    refine V_putI fd_X6_goOn_26_X6 fw_X6_goOn_X6_7 (fun h => by cases h) dX6_goOn_33 (fun σ7 hσ7 => ?_)
    refine V_aload_n (x := a0) dX6_goOn_36 rfl ?_
    refine V_getI fd_X6_goOn_26_X6 dX6_goOn_37 (fun x8 => ?_)
    refine V_iload_n (x := a1) dX6_goOn_40 rfl ?_
    refine V_icmp_ge (tgt := 46) (x := x8) (y := a1) dX6_goOn_41 (by decide) (fun hc9 => ?_) (fun hc9 => ?_)
    · refine V_aload_n (x := a0) dX6_goOn_46 rfl ?_
      refine V_iconst (v := (0 : Int32)) dX6_goOn_47 rfl ?_
      refine V_putZ fd_X6_goOn_22_X6 fw_X6_goOn_X6_6 (fun h => by cases h) dX6_goOn_48 (fun σ10 hσ10 => ?_)
      refine V_aload_n (x := a0) dX6_goOn_51 rfl ?_
      refine V_callV0 (As := []) (st0 := []) (stI := [va_rf a0]) (fun _ h => by cases h; exact t_X6_dropFirstWord _ σ10) (q := (RX6, TX6, 10)) rfl rfl rfl (Nat.le_of_ble_eq_true rfl) rfl (fun s args hts => cwV 0 hts gX6_goOn_X6_dropFirstWord rfl rfl rfl (by decide +kernel) ⟨Nat.le_of_ble_eq_true rfl, Nat.le_of_ble_eq_true rfl⟩) rfl rfl dX6_goOn_52 (fun _ σ11 _ => ?_)
      refine V_iconst (v := (1 : Int32)) dX6_goOn_55 rfl ?_
      exact V_zret (fun _ => rfl) rfl (Nat.zero_le _) (Nat.zero_le _) dX6_goOn_56
    · refine V_iconst (v := (0 : Int32)) dX6_goOn_44 rfl ?_
      exact V_zret (fun _ => rfl) rfl (Nat.zero_le _) (Nat.zero_le _) dX6_goOn_45
  · refine V_iconst (v := (0 : Int32)) dX6_goOn_19 rfl ?_
    exact V_zret (fun _ => rfl) rfl (Nat.zero_le _) (Nat.zero_le _) dX6_goOn_20
theorem t_X6_goOn {D : DG} {z0 : Nat} {l : Launch} (a : Nat) (a1 : Int32) (σ : SG) : MT D z0 l yX6_goOn wsX6_goOn rmX6_goOn tvI [.ref a, .int a1] σ (m_X6_goOn (some a) a1 σ) :=
  MT.of (own := RX6) (cc := cX6_goOn) (nL := 2) (ret := (some .boolean)) (ct := false) (by decide) rfl rfl (fun h => by cases h) (Nat.le_of_ble_eq_true rfl) (by intro v hv; simp only [List.mem_cons, List.not_mem_nil, or_false] at hv; first | (rcases hv with rfl | rfl <;> first | rfl | exact va_rf_cat _) | exact absurd hv (fun h => h)) (v_X6_goOn (some a) a1 σ)
theorem wd_X3_moveSenders_0 : Cond.sameField "MainsWords$Sender" "MainsWords$Thing" "wire" "I" ∈ wsX3_moveSenders := by decide +kernel
theorem in_X3_moveSenders_X6 : ∀ w ∈ u_ws RX6 TX6 10, w ∈ wsX3_moveSenders := by decide +kernel
theorem wd_X3_moveSenders_2 : Cond.fieldLink RX3 130 "MainsWords$Sender" "wire" "I" ∈ wsX3_moveSenders := by decide +kernel
theorem fd_X3_moveSenders_130_X6 : FD RX3 130 wsX3_moveSenders 6 2 := ⟨RX6, "MainsWords$Sender", TX6, 10, rfl, in_X3_moveSenders_X6, by decide, wd_X3_moveSenders_2, Or.inr wd_X3_moveSenders_0⟩
theorem in_X3_moveSenders_X3 : ∀ w ∈ u_ws RX3 TX3 8, w ∈ wsX3_moveSenders := by decide +kernel
theorem wd_X3_moveSenders_5 : Cond.fieldLink RX3 35 "MainsWords$Net" "settings" "[I" ∈ wsX3_moveSenders := by decide +kernel
theorem fd_X3_moveSenders_35_X3 : FD RX3 35 wsX3_moveSenders 3 4 := ⟨RX3, "MainsWords$Net", TX3, 8, rfl, in_X3_moveSenders_X3, by decide, wd_X3_moveSenders_5, Or.inl rfl⟩
theorem wd_X3_moveSenders_7 : Cond.fieldLink RX3 39 "MainsWords$Net" "totals" "[I" ∈ wsX3_moveSenders := by decide +kernel
theorem fd_X3_moveSenders_39_X3 : FD RX3 39 wsX3_moveSenders 3 5 := ⟨RX3, "MainsWords$Net", TX3, 8, rfl, in_X3_moveSenders_X3, by decide, wd_X3_moveSenders_7, Or.inl rfl⟩
theorem wd_X3_moveSenders_9 : Cond.fieldLink RX3 11 "MainsWords$Net" "senders" "[LMainsWords$Sender;" ∈ wsX3_moveSenders := by decide +kernel
theorem fd_X3_moveSenders_11_X3 : FD RX3 11 wsX3_moveSenders 3 0 := ⟨RX3, "MainsWords$Net", TX3, 8, rfl, in_X3_moveSenders_X3, by decide, wd_X3_moveSenders_9, Or.inl rfl⟩
set_option maxRecDepth 100000 in
set_option maxHeartbeats 4000000 in
theorem v_X3_moveSenders_b90 {D : DG} {z0 : Nat} {l : Launch} {rec10 : Option Nat → Option Nat → Int32 → Int32 → SG → Option (Unit × SG)} (hrec10 : ∀ (v0 : Option Nat) (v1 : Option Nat) (v2 : Int32) (v3 : Int32) (σ : SG), V D z0 l RX3 cX3_moveSenders 5 wsX3_moveSenders none rmX3_moveSenders false tvU 10 [some (va_rf v0), some (va_rf v1), some (.int v2), some (.int v3), none] [] σ 0 0 (rec10 v0 v1 v2 v3 σ)) : ∀ (v0 : Option Nat) (v1 : Option Nat) (v2 : Int32) (v3 : Int32) (σ : SG), V D z0 l RX3 cX3_moveSenders 5 wsX3_moveSenders none rmX3_moveSenders false tvU 90 [some (va_rf v0), some (va_rf v1), some (.int v2), some (.int v3), none] [] σ 0 0 (m_X3_moveSenders_b90 rec10 v0 v1 v2 v3 σ) := by
  intro v0 v1 v2 v3 σ
  unfold m_X3_moveSenders_b90
  refine V_iinc (x := v3) (v := (v3 + 1)) (ls' := [some (va_rf v0), some (va_rf v1), some (.int v2), some (.int (v3 + 1)), none]) dX3_moveSenders_90 rfl rfl (by decide) rfl ?_
  refine V_goto (tgt := 10) dX3_moveSenders_93 (by decide) ?_
  exact hrec10 v0 v1 v2 ((v3 + 1)) σ
set_option maxRecDepth 100000 in
set_option maxHeartbeats 4000000 in
theorem v_X3_moveSenders_B10 {D : DG} {z0 : Nat} {l : Launch} {rec10 : Option Nat → Option Nat → Int32 → Int32 → SG → Option (Unit × SG)} (hrec10 : ∀ (v0 : Option Nat) (v1 : Option Nat) (v2 : Int32) (v3 : Int32) (σ : SG), V D z0 l RX3 cX3_moveSenders 5 wsX3_moveSenders none rmX3_moveSenders false tvU 10 [some (va_rf v0), some (va_rf v1), some (.int v2), some (.int v3), none] [] σ 0 0 (rec10 v0 v1 v2 v3 σ)) : ∀ (v0 : Option Nat) (v1 : Option Nat) (v2 : Int32) (v3 : Int32) (σ : SG), V D z0 l RX3 cX3_moveSenders 5 wsX3_moveSenders none rmX3_moveSenders false tvU 10 [some (va_rf v0), some (va_rf v1), some (.int v2), some (.int v3), none] [] σ 0 0 (m_X3_moveSenders_B10 rec10 v0 v1 v2 v3 σ) := by
  intro v0 v1 v2 v3 σ
  unfold m_X3_moveSenders_B10
  refine V_iload_n (x := v3) dX3_moveSenders_10 rfl ?_
  refine V_iload_n (x := v2) dX3_moveSenders_11 rfl ?_
  refine V_icmp_ge (tgt := 96) (x := v3) (y := v2) dX3_moveSenders_12 (by decide) (fun hc1 => ?_) (fun hc1 => ?_)
  · exact V_vret (fun _ => rfl) rfl (Nat.zero_le _) (Nat.zero_le _) dX3_moveSenders_96
  · refine V_aload_n (x := v1) dX3_moveSenders_15 rfl ?_
    refine V_iload_n (x := v3) dX3_moveSenders_16 rfl ?_
    refine V_aaload dX3_moveSenders_17 (fun x2 => ?_)
    refine V_astore (x := x2) (ls' := [some (va_rf v0), some (va_rf v1), some (.int v2), some (.int v3), some (va_rf x2)]) dX3_moveSenders_18 (by decide) rfl ?_
    refine V_aload (x := x2) dX3_moveSenders_20 rfl ?_
    refine V_callV0 (As := []) (st0 := []) (stI := [va_rf x2]) (fun _ h => by cases h; exact t_X6_isSpeaking _ σ) (q := (RX6, TX6, 10)) rfl rfl rfl (Nat.le_of_ble_eq_true rfl) rfl (fun s args hts => cwV 0 hts gX3_moveSenders_X6_isSpeaking rfl rfl rfl (by decide +kernel) ⟨Nat.le_of_ble_eq_true rfl, Nat.le_of_ble_eq_true rfl⟩) rfl rfl dX3_moveSenders_22 (fun r3 σ4 _ => ?_)
    refine V_if_ne (tgt := 31) (x := r3) dX3_moveSenders_25 (by decide) (fun hc5 => ?_) (fun hc5 => ?_)
    · refine V_goto (tgt := 90) dX3_moveSenders_28 (by decide) ?_
      exact V_sub (LE.s (LE.s (LE.s (LE.s (LE.n LE.e))))) (v_X3_moveSenders_b90 hrec10 v0 v1 v2 v3 σ4)
    · refine V_aload (x := x2) dX3_moveSenders_31 rfl ?_
      refine V_aload_n (x := v0) dX3_moveSenders_33 rfl ?_
      refine V_aload (x := x2) dX3_moveSenders_34 rfl ?_
      refine V_getI fd_X3_moveSenders_130_X6 dX3_moveSenders_36 (fun x6 => ?_)
      refine V_callV0 (As := [.int x6]) (st0 := [va_rf x2]) (stI := [.int x6, va_rf v0, va_rf x2]) (fun _ h => by cases h; exact t_X3_isHeardOn _ x6 σ4) (q := (RX3, TX3, 8)) rfl rfl rfl (by simp only [List.map_cons, List.map_nil, List.sum_cons, List.sum_nil, va_rf_cat, catI, catF]; decide) rfl (fun s args hts => cwV 1 hts gX3_moveSenders_X3_isHeardOn rfl rfl rfl (by decide +kernel) ⟨Nat.le_of_ble_eq_true rfl, Nat.le_of_ble_eq_true rfl⟩) rfl rfl dX3_moveSenders_39 (fun r7 σ8 _ => ?_)
      refine V_callV0 (As := [.int r7]) (st0 := []) (stI := [.int r7, va_rf x2]) (fun _ h => by cases h; exact t_X6_isDisturbedBy _ r7 σ8) (q := (RX6, TX6, 10)) rfl rfl rfl (Nat.le_of_ble_eq_true rfl) rfl (fun s args hts => cwV 1 hts gX3_moveSenders_X6_isDisturbedBy rfl rfl rfl (by decide +kernel) ⟨Nat.le_of_ble_eq_true rfl, Nat.le_of_ble_eq_true rfl⟩) rfl rfl dX3_moveSenders_42 (fun r9 σ10 _ => ?_)
      refine V_if_eq (tgt := 66) (x := r9) dX3_moveSenders_45 (by decide) (fun hc11 => ?_) (fun hc11 => ?_)
      · refine V_aload (x := x2) dX3_moveSenders_66 rfl ?_
        refine V_aload_n (x := v0) dX3_moveSenders_68 rfl ?_
        refine V_getR fd_X3_moveSenders_35_X3 dX3_moveSenders_69 (fun x12 => ?_)
        refine V_iconst (v := (3 : Int32)) dX3_moveSenders_72 rfl ?_
        refine V_iaload dX3_moveSenders_73 (fun x13 => ?_)
        refine V_callV0 (As := [.int x13]) (st0 := []) (stI := [.int x13, va_rf x2]) (fun _ h => by cases h; exact t_X6_goOn _ x13 σ10) (q := (RX6, TX6, 10)) rfl rfl rfl (Nat.le_of_ble_eq_true rfl) rfl (fun s args hts => cwV 1 hts gX3_moveSenders_X6_goOn rfl rfl rfl (by decide +kernel) ⟨Nat.le_of_ble_eq_true rfl, Nat.le_of_ble_eq_true rfl⟩) rfl rfl dX3_moveSenders_74 (fun r14 σ15 _ => ?_)
        refine V_if_eq (tgt := 90) (x := r14) dX3_moveSenders_77 (by decide) (fun hc16 => ?_) (fun hc16 => ?_)
        · exact V_sub (LE.s (LE.s (LE.s (LE.s (LE.n LE.e))))) (v_X3_moveSenders_b90 hrec10 v0 v1 v2 v3 σ15)
        · refine V_aload_n (x := v0) dX3_moveSenders_80 rfl ?_
          refine V_getR fd_X3_moveSenders_39_X3 dX3_moveSenders_81 (fun x17 => ?_)
          refine V_iconst (v := (0 : Int32)) dX3_moveSenders_84 rfl ?_
          refine V_dup2 dX3_moveSenders_85 rfl (va_rf_cat _) ?_
          refine V_iaload dX3_moveSenders_86 (fun x18 => ?_)
          refine V_iconst (v := (1 : Int32)) dX3_moveSenders_87 rfl ?_
          refine V_iadd (x := x18) (y := (1 : Int32)) dX3_moveSenders_88 ?_
          refine V_iastore dX3_moveSenders_89 (fun σ19 hσ19 => ?_)
          exact V_sub (LE.s (LE.s (LE.s (LE.s (LE.n LE.e))))) (v_X3_moveSenders_b90 hrec10 v0 v1 v2 v3 σ19)
      · refine V_aload (x := x2) dX3_moveSenders_48 rfl ?_
        refine V_callV0 (As := []) (st0 := []) (stI := [va_rf x2]) (fun _ h => by cases h; exact t_X6_giveWay _ σ10) (q := (RX6, TX6, 10)) rfl rfl rfl (Nat.le_of_ble_eq_true rfl) rfl (fun s args hts => cwV 0 hts gX3_moveSenders_X6_giveWay rfl rfl rfl (by decide +kernel) ⟨Nat.le_of_ble_eq_true rfl, Nat.le_of_ble_eq_true rfl⟩) rfl rfl dX3_moveSenders_50 (fun _ σ20 _ => ?_)
        refine V_aload_n (x := v0) dX3_moveSenders_53 rfl ?_
        refine V_getR fd_X3_moveSenders_39_X3 dX3_moveSenders_54 (fun x21 => ?_)
        refine V_iconst (v := (1 : Int32)) dX3_moveSenders_57 rfl ?_
        refine V_dup2 dX3_moveSenders_58 rfl (va_rf_cat _) ?_
        refine V_iaload dX3_moveSenders_59 (fun x22 => ?_)
        refine V_iconst (v := (1 : Int32)) dX3_moveSenders_60 rfl ?_
        refine V_iadd (x := x22) (y := (1 : Int32)) dX3_moveSenders_61 ?_
        refine V_iastore dX3_moveSenders_62 (fun σ23 hσ23 => ?_)
        refine V_goto (tgt := 90) dX3_moveSenders_63 (by decide) ?_
        exact V_sub (LE.s (LE.s (LE.s (LE.s (LE.n LE.e))))) (v_X3_moveSenders_b90 hrec10 v0 v1 v2 v3 σ23)
theorem v_X3_moveSenders_L10 {D : DG} {z0 : Nat} {l : Launch} : ∀ (n : Nat) (v0 : Option Nat) (v1 : Option Nat) (v2 : Int32) (v3 : Int32) (σ : SG), V D z0 l RX3 cX3_moveSenders 5 wsX3_moveSenders none rmX3_moveSenders false tvU 10 [some (va_rf v0), some (va_rf v1), some (.int v2), some (.int v3), none] [] σ 0 0 (m_X3_moveSenders_L10 n v0 v1 v2 v3 σ) := by
  intro n
  induction n with
  | zero => intros; exact V_none
  | succ n ih => exact v_X3_moveSenders_B10  ih
set_option maxRecDepth 100000 in
set_option maxHeartbeats 4000000 in
theorem v_X3_moveSenders {D : DG} {z0 : Nat} {l : Launch} : ∀ (a0 : Option Nat) (σ : SG), V D z0 l RX3 cX3_moveSenders 5 wsX3_moveSenders none rmX3_moveSenders false tvU 0 [some (va_rf a0), none, none, none, none] [] σ 0 0 (m_X3_moveSenders a0 σ) := by
  intro a0 σ
  unfold m_X3_moveSenders
  refine V_aload_n (x := a0) dX3_moveSenders_0 rfl ?_
  refine V_getR fd_X3_moveSenders_11_X3 dX3_moveSenders_1 (fun x24 => ?_)
  refine V_astore_n (x := x24) (ls' := [some (va_rf a0), some (va_rf x24), none, none, none]) dX3_moveSenders_4 (by decide) rfl ?_
  refine V_aload_n (x := x24) dX3_moveSenders_5 rfl ?_
  refine V_alen dX3_moveSenders_6 (fun x25 => ?_)
  refine V_istore_n (x := x25) (ls' := [some (va_rf a0), some (va_rf x24), some (.int x25), none, none]) dX3_moveSenders_7 (by decide) rfl ?_
  refine V_iconst (v := (0 : Int32)) dX3_moveSenders_8 rfl ?_
  refine V_istore_n (x := (0 : Int32)) (ls' := [some (va_rf a0), some (va_rf x24), some (.int x25), some (.int (0 : Int32)), none]) dX3_moveSenders_9 (by decide) rfl ?_
  exact v_X3_moveSenders_L10  1000 a0 x24 x25 ((0 : Int32)) σ
theorem t_X3_moveSenders {D : DG} {z0 : Nat} {l : Launch} (a : Nat)  (σ : SG) : MT D z0 l yX3_moveSenders wsX3_moveSenders rmX3_moveSenders tvU [.ref a] σ (m_X3_moveSenders (some a) σ) :=
  MT.of (own := RX3) (cc := cX3_moveSenders) (nL := 5) (ret := none) (ct := false) (by decide) rfl rfl (fun h => by cases h) (Nat.le_of_ble_eq_true rfl) (by intro v hv; simp only [List.mem_cons, List.not_mem_nil, or_false] at hv; first | (rcases hv with rfl <;> first | rfl | exact va_rf_cat _) | exact absurd hv (fun h => h)) (v_X3_moveSenders (some a) σ)
theorem in_X4_listenAnew_X4 : ∀ w ∈ u_ws RX4 TX4 7, w ∈ wsX4_listenAnew := by decide +kernel
theorem wd_X4_listenAnew_1 : Cond.fieldLink RX4 9 "MainsWords$Receiver" "reads" "Z" ∈ wsX4_listenAnew := by decide +kernel
theorem fd_X4_listenAnew_9_X4 : FD RX4 9 wsX4_listenAnew 4 0 := ⟨RX4, "MainsWords$Receiver", TX4, 7, rfl, in_X4_listenAnew_X4, by decide, wd_X4_listenAnew_1, Or.inl rfl⟩
theorem fw_X4_listenAnew_X4_0 : FW RX4 wsX4_listenAnew 4 0 .boolean false := ⟨RX4, TX4, 7, tyX4, rfl, in_X4_listenAnew_X4, tyX4_ok, nmX4, rfl, (fun h => by cases h), rfl⟩
theorem wd_X4_listenAnew_4 : Cond.fieldLink RX4 15 "MainsWords$Receiver" "latestBits" "I" ∈ wsX4_listenAnew := by decide +kernel
theorem fd_X4_listenAnew_15_X4 : FD RX4 15 wsX4_listenAnew 4 1 := ⟨RX4, "MainsWords$Receiver", TX4, 7, rfl, in_X4_listenAnew_X4, by decide, wd_X4_listenAnew_4, Or.inl rfl⟩
theorem fw_X4_listenAnew_X4_1 : FW RX4 wsX4_listenAnew 4 1 .int false := ⟨RX4, TX4, 7, tyX4, rfl, in_X4_listenAnew_X4, tyX4_ok, nmX4, rfl, (fun h => by cases h), rfl⟩
set_option maxRecDepth 100000 in
set_option maxHeartbeats 4000000 in
theorem v_X4_listenAnew {D : DG} {z0 : Nat} {l : Launch} : ∀ (a0 : Option Nat) (σ : SG), V D z0 l RX4 cX4_listenAnew 1 wsX4_listenAnew none rmX4_listenAnew false tvU 0 [some (va_rf a0)] [] σ 0 0 (m_X4_listenAnew a0 σ) := by
  intro a0 σ
  unfold m_X4_listenAnew
  refine V_aload_n (x := a0) dX4_listenAnew_0 rfl ?_
  refine V_iconst (v := (0 : Int32)) dX4_listenAnew_1 rfl ?_
  refine V_putZ fd_X4_listenAnew_9_X4 fw_X4_listenAnew_X4_0 (fun h => by cases h) dX4_listenAnew_2 (fun σ1 hσ1 => ?_)
  refine V_aload_n (x := a0) dX4_listenAnew_5 rfl ?_
  refine V_iconst (v := (0 : Int32)) dX4_listenAnew_6 rfl ?_
  refine V_putI fd_X4_listenAnew_15_X4 fw_X4_listenAnew_X4_1 (fun h => by cases h) dX4_listenAnew_7 (fun σ2 hσ2 => ?_)
  exact V_vret (fun _ => rfl) rfl (Nat.zero_le _) (Nat.zero_le _) dX4_listenAnew_10
theorem t_X4_listenAnew {D : DG} {z0 : Nat} {l : Launch} (a : Nat)  (σ : SG) : MT D z0 l yX4_listenAnew wsX4_listenAnew rmX4_listenAnew tvU [.ref a] σ (m_X4_listenAnew (some a) σ) :=
  MT.of (own := RX4) (cc := cX4_listenAnew) (nL := 1) (ret := none) (ct := false) (by decide) rfl rfl (fun h => by cases h) (Nat.le_of_ble_eq_true rfl) (by intro v hv; simp only [List.mem_cons, List.not_mem_nil, or_false] at hv; first | (rcases hv with rfl <;> first | rfl | exact va_rf_cat _) | exact absurd hv (fun h => h)) (v_X4_listenAnew (some a) σ)
theorem in_X4_read_X4 : ∀ w ∈ u_ws RX4 TX4 7, w ∈ wsX4_read := by decide +kernel
theorem wd_X4_read_1 : Cond.fieldLink RX4 19 "MainsWords$Receiver" "bitsRead" "I" ∈ wsX4_read := by decide +kernel
theorem fd_X4_read_19_X4 : FD RX4 19 wsX4_read 4 2 := ⟨RX4, "MainsWords$Receiver", TX4, 7, rfl, in_X4_read_X4, by decide, wd_X4_read_1, Or.inl rfl⟩
theorem fw_X4_read_X4_2 : FW RX4 wsX4_read 4 2 .int false := ⟨RX4, TX4, 7, tyX4, rfl, in_X4_read_X4, tyX4_ok, nmX4, rfl, (fun h => by cases h), rfl⟩
theorem wd_X4_read_4 : Cond.fieldLink RX4 22 "MainsWords$Receiver" "wordSoFar" "I" ∈ wsX4_read := by decide +kernel
theorem fd_X4_read_22_X4 : FD RX4 22 wsX4_read 4 3 := ⟨RX4, "MainsWords$Receiver", TX4, 7, rfl, in_X4_read_X4, by decide, wd_X4_read_4, Or.inl rfl⟩
theorem fw_X4_read_X4_3 : FW RX4 wsX4_read 4 3 .int false := ⟨RX4, TX4, 7, tyX4, rfl, in_X4_read_X4, tyX4_ok, nmX4, rfl, (fun h => by cases h), rfl⟩
set_option maxRecDepth 100000 in
set_option maxHeartbeats 4000000 in
theorem v_X4_read {D : DG} {z0 : Nat} {l : Launch} : ∀ (a0 : Option Nat) (a1 : Int32) (σ : SG), V D z0 l RX4 cX4_read 2 wsX4_read (some .int) rmX4_read false tvI 0 [some (va_rf a0), some (.int a1)] [] σ 0 0 (m_X4_read a0 a1 σ) := by
  intro a0 a1 σ
  unfold m_X4_read
  refine V_aload_n (x := a0) dX4_read_0 rfl ?_
  refine V_dup dX4_read_1 (va_rf_cat _) ?_
  refine V_getI fd_X4_read_19_X4 dX4_read_2 (fun x1 => ?_)
  refine V_iconst (v := (1 : Int32)) dX4_read_5 rfl ?_
  refine V_iadd (x := x1) (y := (1 : Int32)) dX4_read_6 ?_
  refine V_putI fd_X4_read_19_X4 fw_X4_read_X4_2 (fun h => by cases h) dX4_read_7 (fun σ2 hσ2 => ?_)
  refine V_aload_n (x := a0) dX4_read_10 rfl ?_
  refine V_getI fd_X4_read_19_X4 dX4_read_11 (fun x3 => ?_)
  refine V_iconst (v := (2 : Int32)) dX4_read_14 rfl ?_
  refine V_irem (x := x3) (y := (2 : Int32)) dX4_read_15 ?_
  refine V_if_eq (tgt := 33) (x := (x3 - x3 / (2 : Int32) * (2 : Int32))) dX4_read_16 (by decide) (fun hc4 => ?_) (fun hc4 => ?_)
  · refine V_aload_n (x := a0) dX4_read_33 rfl ?_
    refine V_getI fd_X4_read_22_X4 dX4_read_34 (fun x5 => ?_)
    refine V_iconst (v := (1 : Int32)) dX4_read_37 rfl ?_
    refine V_iand (x := x5) (y := (1 : Int32)) dX4_read_38 ?_
    refine V_iload_n (x := a1) dX4_read_39 rfl ?_
    refine V_icmp_ne (tgt := 50) (x := (x5 &&& (1 : Int32))) (y := a1) dX4_read_40 (by decide) (fun hc6 => ?_) (fun hc6 => ?_)
    · refine V_aload_n (x := a0) dX4_read_43 rfl ?_
      refine V_callV0 (As := []) (st0 := []) (stI := [va_rf a0]) (fun _ h => by cases h; exact t_X4_listenAnew _ σ2) (q := (RX4, TX4, 7)) rfl rfl rfl (Nat.le_of_ble_eq_true rfl) rfl (fun s args hts => cwV 0 hts gX4_read_X4_listenAnew rfl rfl rfl (by decide +kernel) ⟨Nat.le_of_ble_eq_true rfl, Nat.le_of_ble_eq_true rfl⟩) rfl rfl dX4_read_44 (fun _ σ7 _ => ?_)
      refine V_bipush (v := (-2 : Int32)) dX4_read_47 rfl ?_
      exact V_iret (fun _ => rfl) rfl (Nat.zero_le _) (Nat.zero_le _) dX4_read_49
    · refine V_aload_n (x := a0) dX4_read_50 rfl ?_
      refine V_getI fd_X4_read_19_X4 dX4_read_51 (fun x8 => ?_)
      refine V_bipush (v := (10 : Int32)) dX4_read_54 rfl ?_
      refine V_icmp_ge (tgt := 61) (x := x8) (y := (10 : Int32)) dX4_read_56 (by decide) (fun hc9 => ?_) (fun hc9 => ?_)
      · refine V_aload_n (x := a0) dX4_read_61 rfl ?_
        refine V_callV0 (As := []) (st0 := []) (stI := [va_rf a0]) (fun _ h => by cases h; exact t_X4_listenAnew _ σ2) (q := (RX4, TX4, 7)) rfl rfl rfl (Nat.le_of_ble_eq_true rfl) rfl (fun s args hts => cwV 0 hts gX4_read_X4_listenAnew rfl rfl rfl (by decide +kernel) ⟨Nat.le_of_ble_eq_true rfl, Nat.le_of_ble_eq_true rfl⟩) rfl rfl dX4_read_62 (fun _ σ10 _ => ?_)
        refine V_aload_n (x := a0) dX4_read_65 rfl ?_
        refine V_getI fd_X4_read_22_X4 dX4_read_66 (fun x11 => ?_)
        exact V_iret (fun _ => rfl) rfl (Nat.zero_le _) (Nat.zero_le _) dX4_read_69
      · refine V_iconst (v := (-1 : Int32)) dX4_read_59 rfl ?_
        exact V_iret (fun _ => rfl) rfl (Nat.zero_le _) (Nat.zero_le _) dX4_read_60
  · refine V_aload_n (x := a0) dX4_read_19 rfl ?_
    refine V_aload_n (x := a0) dX4_read_20 rfl ?_
    refine V_getI fd_X4_read_22_X4 dX4_read_21 (fun x12 => ?_)
    refine V_iconst (v := (1 : Int32)) dX4_read_24 rfl ?_
    refine V_ishl (x := x12) (y := (1 : Int32)) dX4_read_25 ?_
    refine V_iload_n (x := a1) dX4_read_26 rfl ?_
    refine V_ior (x := (x12 <<< ((1 : Int32) &&& 31))) (y := a1) dX4_read_27 ?_
    refine V_putI fd_X4_read_22_X4 fw_X4_read_X4_3 (fun h => by cases h) dX4_read_28 (fun σ13 hσ13 => ?_)
    refine V_iconst (v := (-1 : Int32)) dX4_read_31 rfl ?_
    exact V_iret (fun _ => rfl) rfl (Nat.zero_le _) (Nat.zero_le _) dX4_read_32
theorem t_X4_read {D : DG} {z0 : Nat} {l : Launch} (a : Nat) (a1 : Int32) (σ : SG) : MT D z0 l yX4_read wsX4_read rmX4_read tvI [.ref a, .int a1] σ (m_X4_read (some a) a1 σ) :=
  MT.of (own := RX4) (cc := cX4_read) (nL := 2) (ret := (some .int)) (ct := false) (by decide) rfl rfl (fun h => by cases h) (Nat.le_of_ble_eq_true rfl) (by intro v hv; simp only [List.mem_cons, List.not_mem_nil, or_false] at hv; first | (rcases hv with rfl | rfl <;> first | rfl | exact va_rf_cat _) | exact absurd hv (fun h => h)) (v_X4_read (some a) a1 σ)
theorem in_X4_listen_X4 : ∀ w ∈ u_ws RX4 TX4 7, w ∈ wsX4_listen := by decide +kernel
theorem wd_X4_listen_1 : Cond.fieldLink RX4 15 "MainsWords$Receiver" "latestBits" "I" ∈ wsX4_listen := by decide +kernel
theorem fd_X4_listen_15_X4 : FD RX4 15 wsX4_listen 4 1 := ⟨RX4, "MainsWords$Receiver", TX4, 7, rfl, in_X4_listen_X4, by decide, wd_X4_listen_1, Or.inl rfl⟩
theorem fw_X4_listen_X4_1 : FW RX4 wsX4_listen 4 1 .int false := ⟨RX4, TX4, 7, tyX4, rfl, in_X4_listen_X4, tyX4_ok, nmX4, rfl, (fun h => by cases h), rfl⟩
theorem wd_X4_listen_4 : Cond.fieldLink RX4 9 "MainsWords$Receiver" "reads" "Z" ∈ wsX4_listen := by decide +kernel
theorem fd_X4_listen_9_X4 : FD RX4 9 wsX4_listen 4 0 := ⟨RX4, "MainsWords$Receiver", TX4, 7, rfl, in_X4_listen_X4, by decide, wd_X4_listen_4, Or.inl rfl⟩
theorem fw_X4_listen_X4_0 : FW RX4 wsX4_listen 4 0 .boolean false := ⟨RX4, TX4, 7, tyX4, rfl, in_X4_listen_X4, tyX4_ok, nmX4, rfl, (fun h => by cases h), rfl⟩
theorem wd_X4_listen_7 : Cond.fieldLink RX4 19 "MainsWords$Receiver" "bitsRead" "I" ∈ wsX4_listen := by decide +kernel
theorem fd_X4_listen_19_X4 : FD RX4 19 wsX4_listen 4 2 := ⟨RX4, "MainsWords$Receiver", TX4, 7, rfl, in_X4_listen_X4, by decide, wd_X4_listen_7, Or.inl rfl⟩
theorem fw_X4_listen_X4_2 : FW RX4 wsX4_listen 4 2 .int false := ⟨RX4, TX4, 7, tyX4, rfl, in_X4_listen_X4, tyX4_ok, nmX4, rfl, (fun h => by cases h), rfl⟩
theorem wd_X4_listen_10 : Cond.fieldLink RX4 22 "MainsWords$Receiver" "wordSoFar" "I" ∈ wsX4_listen := by decide +kernel
theorem fd_X4_listen_22_X4 : FD RX4 22 wsX4_listen 4 3 := ⟨RX4, "MainsWords$Receiver", TX4, 7, rfl, in_X4_listen_X4, by decide, wd_X4_listen_10, Or.inl rfl⟩
theorem fw_X4_listen_X4_3 : FW RX4 wsX4_listen 4 3 .int false := ⟨RX4, TX4, 7, tyX4, rfl, in_X4_listen_X4, tyX4_ok, nmX4, rfl, (fun h => by cases h), rfl⟩
set_option maxRecDepth 100000 in
set_option maxHeartbeats 4000000 in
theorem v_X4_listen {D : DG} {z0 : Nat} {l : Launch} : ∀ (a0 : Option Nat) (a1 : Int32) (σ : SG), V D z0 l RX4 cX4_listen 2 wsX4_listen (some .int) rmX4_listen false tvI 0 [some (va_rf a0), some (.int a1)] [] σ 0 0 (m_X4_listen a0 a1 σ) := by
  intro a0 a1 σ
  unfold m_X4_listen
  refine V_aload_n (x := a0) dX4_listen_0 rfl ?_
  refine V_aload_n (x := a0) dX4_listen_1 rfl ?_
  refine V_getI fd_X4_listen_15_X4 dX4_listen_2 (fun x1 => ?_)
  refine V_iconst (v := (1 : Int32)) dX4_listen_5 rfl ?_
  refine V_ishl (x := x1) (y := (1 : Int32)) dX4_listen_6 ?_
  refine V_iload_n (x := a1) dX4_listen_7 rfl ?_
  refine V_ior (x := (x1 <<< ((1 : Int32) &&& 31))) (y := a1) dX4_listen_8 ?_
  refine V_bipush (v := (15 : Int32)) dX4_listen_9 rfl ?_
  refine V_iand (x := ((x1 <<< ((1 : Int32) &&& 31)) ||| a1)) (y := (15 : Int32)) dX4_listen_11 ?_
  refine V_putI fd_X4_listen_15_X4 fw_X4_listen_X4_1 (fun h => by cases h) dX4_listen_12 (fun σ2 hσ2 => ?_)
  refine V_aload_n (x := a0) dX4_listen_15 rfl ?_
  refine V_getI fd_X4_listen_15_X4 dX4_listen_16 (fun x3 => ?_)
  refine V_bipush (v := (14 : Int32)) dX4_listen_19 rfl ?_
  refine V_icmp_ne (tgt := 39) (x := x3) (y := (14 : Int32)) dX4_listen_21 (by decide) (fun hc4 => ?_) (fun hc4 => ?_)
  · refine V_aload_n (x := a0) dX4_listen_24 rfl ?_
    refine V_iconst (v := (1 : Int32)) dX4_listen_25 rfl ?_
    refine V_putZ fd_X4_listen_9_X4 fw_X4_listen_X4_0 (fun h => by cases h) dX4_listen_26 (fun σ5 hσ5 => ?_)
    refine V_aload_n (x := a0) dX4_listen_29 rfl ?_
    refine V_iconst (v := (0 : Int32)) dX4_listen_30 rfl ?_
    refine V_putI fd_X4_listen_19_X4 fw_X4_listen_X4_2 (fun h => by cases h) dX4_listen_31 (fun σ6 hσ6 => ?_)
    refine V_aload_n (x := a0) dX4_listen_34 rfl ?_
    refine V_iconst (v := (0 : Int32)) dX4_listen_35 rfl ?_
    refine V_putI fd_X4_listen_22_X4 fw_X4_listen_X4_3 (fun h => by cases h) dX4_listen_36 (fun σ7 hσ7 => ?_)
    refine V_iconst (v := (-1 : Int32)) dX4_listen_39 rfl ?_
    exact V_iret (fun _ => rfl) rfl (Nat.zero_le _) (Nat.zero_le _) dX4_listen_40
  · refine V_iconst (v := (-1 : Int32)) dX4_listen_39 rfl ?_
    exact V_iret (fun _ => rfl) rfl (Nat.zero_le _) (Nat.zero_le _) dX4_listen_40
theorem t_X4_listen {D : DG} {z0 : Nat} {l : Launch} (a : Nat) (a1 : Int32) (σ : SG) : MT D z0 l yX4_listen wsX4_listen rmX4_listen tvI [.ref a, .int a1] σ (m_X4_listen (some a) a1 σ) :=
  MT.of (own := RX4) (cc := cX4_listen) (nL := 2) (ret := (some .int)) (ct := false) (by decide) rfl rfl (fun h => by cases h) (Nat.le_of_ble_eq_true rfl) (by intro v hv; simp only [List.mem_cons, List.not_mem_nil, or_false] at hv; first | (rcases hv with rfl | rfl <;> first | rfl | exact va_rf_cat _) | exact absurd hv (fun h => h)) (v_X4_listen (some a) a1 σ)
theorem in_X4_take_X4 : ∀ w ∈ u_ws RX4 TX4 7, w ∈ wsX4_take := by decide +kernel
theorem wd_X4_take_1 : Cond.fieldLink RX4 9 "MainsWords$Receiver" "reads" "Z" ∈ wsX4_take := by decide +kernel
theorem fd_X4_take_9_X4 : FD RX4 9 wsX4_take 4 0 := ⟨RX4, "MainsWords$Receiver", TX4, 7, rfl, in_X4_take_X4, by decide, wd_X4_take_1, Or.inl rfl⟩
set_option maxRecDepth 100000 in
set_option maxHeartbeats 4000000 in
theorem v_X4_take {D : DG} {z0 : Nat} {l : Launch} : ∀ (a0 : Option Nat) (a1 : Int32) (σ : SG), V D z0 l RX4 cX4_take 2 wsX4_take (some .int) rmX4_take false tvI 0 [some (va_rf a0), some (.int a1)] [] σ 0 0 (m_X4_take a0 a1 σ) := by
  intro a0 a1 σ
  unfold m_X4_take
  refine V_aload_n (x := a0) dX4_take_0 rfl ?_
  refine V_getI fd_X4_take_9_X4 dX4_take_1 (fun x1 => ?_)
  refine V_if_eq (tgt := 15) (x := x1) dX4_take_4 (by decide) (fun hc2 => ?_) (fun hc2 => ?_)
  · refine V_aload_n (x := a0) dX4_take_15 rfl ?_
    refine V_iload_n (x := a1) dX4_take_16 rfl ?_
    refine V_callV0 (As := [.int a1]) (st0 := []) (stI := [.int a1, va_rf a0]) (fun _ h => by cases h; exact t_X4_listen _ a1 σ) (q := (RX4, TX4, 7)) rfl rfl rfl (Nat.le_of_ble_eq_true rfl) rfl (fun s args hts => cwV 1 hts gX4_take_X4_listen rfl rfl rfl (by decide +kernel) ⟨Nat.le_of_ble_eq_true rfl, Nat.le_of_ble_eq_true rfl⟩) rfl rfl dX4_take_17 (fun r3 σ4 _ => ?_)
    exact V_iret (fun _ => rfl) rfl (Nat.zero_le _) (Nat.zero_le _) dX4_take_20
  · refine V_aload_n (x := a0) dX4_take_7 rfl ?_
    refine V_iload_n (x := a1) dX4_take_8 rfl ?_
    refine V_callV0 (As := [.int a1]) (st0 := []) (stI := [.int a1, va_rf a0]) (fun _ h => by cases h; exact t_X4_read _ a1 σ) (q := (RX4, TX4, 7)) rfl rfl rfl (Nat.le_of_ble_eq_true rfl) rfl (fun s args hts => cwV 1 hts gX4_take_X4_read rfl rfl rfl (by decide +kernel) ⟨Nat.le_of_ble_eq_true rfl, Nat.le_of_ble_eq_true rfl⟩) rfl rfl dX4_take_9 (fun r5 σ6 _ => ?_)
    refine V_goto (tgt := 20) dX4_take_12 (by decide) ?_
    exact V_iret (fun _ => rfl) rfl (Nat.zero_le _) (Nat.zero_le _) dX4_take_20
theorem t_X4_take {D : DG} {z0 : Nat} {l : Launch} (a : Nat) (a1 : Int32) (σ : SG) : MT D z0 l yX4_take wsX4_take rmX4_take tvI [.ref a, .int a1] σ (m_X4_take (some a) a1 σ) :=
  MT.of (own := RX4) (cc := cX4_take) (nL := 2) (ret := (some .int)) (ct := false) (by decide) rfl rfl (fun h => by cases h) (Nat.le_of_ble_eq_true rfl) (by intro v hv; simp only [List.mem_cons, List.not_mem_nil, or_false] at hv; first | (rcases hv with rfl | rfl <;> first | rfl | exact va_rf_cat _) | exact absurd hv (fun h => h)) (v_X4_take (some a) a1 σ)
theorem in_X4_tell_X4 : ∀ w ∈ u_ws RX4 TX4 7, w ∈ wsX4_tell := by decide +kernel
theorem wd_X4_tell_1 : Cond.fieldLink RX4 25 "MainsWords$Receiver" "lastWord" "I" ∈ wsX4_tell := by decide +kernel
theorem fd_X4_tell_25_X4 : FD RX4 25 wsX4_tell 4 4 := ⟨RX4, "MainsWords$Receiver", TX4, 7, rfl, in_X4_tell_X4, by decide, wd_X4_tell_1, Or.inl rfl⟩
theorem fw_X4_tell_X4_4 : FW RX4 wsX4_tell 4 4 .int false := ⟨RX4, TX4, 7, tyX4, rfl, in_X4_tell_X4, tyX4_ok, nmX4, rfl, (fun h => by cases h), rfl⟩
theorem wd_X4_tell_4 : Cond.fieldLink RX4 28 "MainsWords$Receiver" "toldAt" "I" ∈ wsX4_tell := by decide +kernel
theorem fd_X4_tell_28_X4 : FD RX4 28 wsX4_tell 4 5 := ⟨RX4, "MainsWords$Receiver", TX4, 7, rfl, in_X4_tell_X4, by decide, wd_X4_tell_4, Or.inl rfl⟩
theorem fw_X4_tell_X4_5 : FW RX4 wsX4_tell 4 5 .int false := ⟨RX4, TX4, 7, tyX4, rfl, in_X4_tell_X4, tyX4_ok, nmX4, rfl, (fun h => by cases h), rfl⟩
set_option maxRecDepth 100000 in
set_option maxHeartbeats 4000000 in
theorem v_X4_tell_b24 {D : DG} {z0 : Nat} {l : Launch} : ∀ (v0 : Option Nat) (v1 : Int32) (v2 : Int32) (s0 : Int32) (σ : SG), V D z0 l RX4 cX4_tell 4 wsX4_tell (some .boolean) rmX4_tell false tvI 24 [some (va_rf v0), some (.int v1), some (.int v2), none] [.int s0] σ 0 0 (m_X4_tell_b24 v0 v1 v2 s0 σ) := by
  intro v0 v1 v2 s0 σ
  unfold m_X4_tell_b24
  refine V_istore_n (x := s0) (ls' := [some (va_rf v0), some (.int v1), some (.int v2), some (.int s0)]) dX4_tell_24 (by decide) rfl ?_
  refine V_aload_n (x := v0) dX4_tell_25 rfl ?_
  refine V_iload_n (x := v1) dX4_tell_26 rfl ?_
  refine V_putI fd_X4_tell_25_X4 fw_X4_tell_X4_4 (fun h => by cases h) dX4_tell_27 (fun σ1 hσ1 => ?_)
  refine V_aload_n (x := v0) dX4_tell_30 rfl ?_
  refine V_iload_n (x := v2) dX4_tell_31 rfl ?_
  refine V_putI fd_X4_tell_28_X4 fw_X4_tell_X4_5 (fun h => by cases h) dX4_tell_32 (fun σ2 hσ2 => ?_)
  refine V_iload_n (x := s0) dX4_tell_35 rfl ?_
  refine V_if_ne (tgt := 43) (x := s0) dX4_tell_36 (by decide) (fun hc3 => ?_) (fun hc3 => ?_)
  · refine V_iconst (v := (1 : Int32)) dX4_tell_39 rfl ?_
    refine V_goto (tgt := 44) dX4_tell_40 (by decide) ?_
    exact V_zret (fun _ => rfl) rfl (Nat.zero_le _) (Nat.zero_le _) dX4_tell_44
  · refine V_iconst (v := (0 : Int32)) dX4_tell_43 rfl ?_
    exact V_zret (fun _ => rfl) rfl (Nat.zero_le _) (Nat.zero_le _) dX4_tell_44
set_option maxRecDepth 100000 in
set_option maxHeartbeats 4000000 in
theorem v_X4_tell_b23 {D : DG} {z0 : Nat} {l : Launch} : ∀ (v0 : Option Nat) (v1 : Int32) (v2 : Int32) (σ : SG), V D z0 l RX4 cX4_tell 4 wsX4_tell (some .boolean) rmX4_tell false tvI 23 [some (va_rf v0), some (.int v1), some (.int v2), none] [] σ 0 0 (m_X4_tell_b23 v0 v1 v2 σ) := by
  intro v0 v1 v2 σ
  unfold m_X4_tell_b23
  refine V_iconst (v := (0 : Int32)) dX4_tell_23 rfl ?_
  exact v_X4_tell_b24  v0 v1 v2 ((0 : Int32)) σ
set_option maxRecDepth 100000 in
set_option maxHeartbeats 4000000 in
theorem v_X4_tell {D : DG} {z0 : Nat} {l : Launch} : ∀ (a0 : Option Nat) (a1 : Int32) (a2 : Int32) (σ : SG), V D z0 l RX4 cX4_tell 4 wsX4_tell (some .boolean) rmX4_tell false tvI 0 [some (va_rf a0), some (.int a1), some (.int a2), none] [] σ 0 0 (m_X4_tell a0 a1 a2 σ) := by
  intro a0 a1 a2 σ
  unfold m_X4_tell
  refine V_iload_n (x := a1) dX4_tell_0 rfl ?_
  refine V_aload_n (x := a0) dX4_tell_1 rfl ?_
  refine V_getI fd_X4_tell_25_X4 dX4_tell_2 (fun x4 => ?_)
  refine V_icmp_ne (tgt := 23) (x := a1) (y := x4) dX4_tell_5 (by decide) (fun hc5 => ?_) (fun hc5 => ?_)
  · refine V_iload_n (x := a2) dX4_tell_8 rfl ?_
    refine V_aload_n (x := a0) dX4_tell_9 rfl ?_
    refine V_getI fd_X4_tell_28_X4 dX4_tell_10 (fun x6 => ?_)
    refine V_isub (x := a2) (y := x6) dX4_tell_13 ?_
    refine V_bipush (v := (17 : Int32)) dX4_tell_14 rfl ?_
    refine V_icmp_gt (tgt := 23) (x := (a2 - x6)) (y := (17 : Int32)) dX4_tell_16 (by decide) (fun hc7 => ?_) (fun hc7 => ?_)
    · exact v_X4_tell_b23  a0 a1 a2 σ
    · refine V_iconst (v := (1 : Int32)) dX4_tell_19 rfl ?_
      refine V_goto (tgt := 24) dX4_tell_20 (by decide) ?_
      exact v_X4_tell_b24  a0 a1 a2 ((1 : Int32)) σ
  · exact v_X4_tell_b23  a0 a1 a2 σ
theorem t_X4_tell {D : DG} {z0 : Nat} {l : Launch} (a : Nat) (a1 : Int32) (a2 : Int32) (σ : SG) : MT D z0 l yX4_tell wsX4_tell rmX4_tell tvI [.ref a, .int a1, .int a2] σ (m_X4_tell (some a) a1 a2 σ) :=
  MT.of (own := RX4) (cc := cX4_tell) (nL := 4) (ret := (some .boolean)) (ct := false) (by decide) rfl rfl (fun h => by cases h) (Nat.le_of_ble_eq_true rfl) (by intro v hv; simp only [List.mem_cons, List.not_mem_nil, or_false] at hv; first | (rcases hv with rfl | rfl | rfl <;> first | rfl | exact va_rf_cat _) | exact absurd hv (fun h => h)) (v_X4_tell (some a) a1 a2 σ)
theorem in_X4_isOpen_X4 : ∀ w ∈ u_ws RX4 TX4 7, w ∈ wsX4_isOpen := by decide +kernel
theorem wd_X4_isOpen_1 : Cond.fieldLink RX4 31 "MainsWords$Receiver" "openLetters" "I" ∈ wsX4_isOpen := by decide +kernel
theorem fd_X4_isOpen_31_X4 : FD RX4 31 wsX4_isOpen 4 6 := ⟨RX4, "MainsWords$Receiver", TX4, 7, rfl, in_X4_isOpen_X4, by decide, wd_X4_isOpen_1, Or.inl rfl⟩
set_option maxRecDepth 100000 in
set_option maxHeartbeats 4000000 in
theorem v_X4_isOpen {D : DG} {z0 : Nat} {l : Launch} : ∀ (a0 : Option Nat) (a1 : Int32) (σ : SG), V D z0 l RX4 cX4_isOpen 2 wsX4_isOpen (some .boolean) rmX4_isOpen false tvI 0 [some (va_rf a0), some (.int a1)] [] σ 0 0 (m_X4_isOpen a0 a1 σ) := by
  intro a0 a1 σ
  unfold m_X4_isOpen
  refine V_aload_n (x := a0) dX4_isOpen_0 rfl ?_
  refine V_getI fd_X4_isOpen_31_X4 dX4_isOpen_1 (fun x1 => ?_)
  refine V_iload_n (x := a1) dX4_isOpen_4 rfl ?_
  refine V_ishr (x := x1) (y := a1) dX4_isOpen_5 ?_
  refine V_iconst (v := (1 : Int32)) dX4_isOpen_6 rfl ?_
  refine V_iand (x := (x1 >>> (a1 &&& 31))) (y := (1 : Int32)) dX4_isOpen_7 ?_
  refine V_iconst (v := (1 : Int32)) dX4_isOpen_8 rfl ?_
  refine V_icmp_ne (tgt := 16) (x := ((x1 >>> (a1 &&& 31)) &&& (1 : Int32))) (y := (1 : Int32)) dX4_isOpen_9 (by decide) (fun hc2 => ?_) (fun hc2 => ?_)
  · refine V_iconst (v := (1 : Int32)) dX4_isOpen_12 rfl ?_
    refine V_goto (tgt := 17) dX4_isOpen_13 (by decide) ?_
    exact V_zret (fun _ => rfl) rfl (Nat.zero_le _) (Nat.zero_le _) dX4_isOpen_17
  · refine V_iconst (v := (0 : Int32)) dX4_isOpen_16 rfl ?_
    exact V_zret (fun _ => rfl) rfl (Nat.zero_le _) (Nat.zero_le _) dX4_isOpen_17
theorem t_X4_isOpen {D : DG} {z0 : Nat} {l : Launch} (a : Nat) (a1 : Int32) (σ : SG) : MT D z0 l yX4_isOpen wsX4_isOpen rmX4_isOpen tvI [.ref a, .int a1] σ (m_X4_isOpen (some a) a1 σ) :=
  MT.of (own := RX4) (cc := cX4_isOpen) (nL := 2) (ret := (some .boolean)) (ct := false) (by decide) rfl rfl (fun h => by cases h) (Nat.le_of_ble_eq_true rfl) (by intro v hv; simp only [List.mem_cons, List.not_mem_nil, or_false] at hv; first | (rcases hv with rfl | rfl <;> first | rfl | exact va_rf_cat _) | exact absurd hv (fun h => h)) (v_X4_isOpen (some a) a1 σ)
theorem in_X4_setOpen_X4 : ∀ w ∈ u_ws RX4 TX4 7, w ∈ wsX4_setOpen := by decide +kernel
theorem wd_X4_setOpen_1 : Cond.fieldLink RX4 31 "MainsWords$Receiver" "openLetters" "I" ∈ wsX4_setOpen := by decide +kernel
theorem fd_X4_setOpen_31_X4 : FD RX4 31 wsX4_setOpen 4 6 := ⟨RX4, "MainsWords$Receiver", TX4, 7, rfl, in_X4_setOpen_X4, by decide, wd_X4_setOpen_1, Or.inl rfl⟩
theorem fw_X4_setOpen_X4_6 : FW RX4 wsX4_setOpen 4 6 .int false := ⟨RX4, TX4, 7, tyX4, rfl, in_X4_setOpen_X4, tyX4_ok, nmX4, rfl, (fun h => by cases h), rfl⟩
set_option maxRecDepth 100000 in
set_option maxHeartbeats 4000000 in
theorem v_X4_setOpen_b26 {D : DG} {z0 : Nat} {l : Launch} : ∀ (s0 : Option Nat) (s1 : Int32) (σ : SG), V D z0 l RX4 cX4_setOpen 3 wsX4_setOpen none rmX4_setOpen false tvU 26 [none, none, none] [.int s1, va_rf s0] σ 0 0 (m_X4_setOpen_b26 s0 s1 σ) := by
  intro s0 s1 σ
  unfold m_X4_setOpen_b26
  refine V_putI fd_X4_setOpen_31_X4 fw_X4_setOpen_X4_6 (fun h => by cases h) dX4_setOpen_26 (fun σ1 hσ1 => ?_)
  exact V_vret (fun _ => rfl) rfl (Nat.zero_le _) (Nat.zero_le _) dX4_setOpen_29
set_option maxRecDepth 100000 in
set_option maxHeartbeats 4000000 in
theorem v_X4_setOpen {D : DG} {z0 : Nat} {l : Launch} : ∀ (a0 : Option Nat) (a1 : Int32) (a2 : Int32) (σ : SG), V D z0 l RX4 cX4_setOpen 3 wsX4_setOpen none rmX4_setOpen false tvU 0 [some (va_rf a0), some (.int a1), some (.int a2)] [] σ 0 0 (m_X4_setOpen a0 a1 a2 σ) := by
  intro a0 a1 a2 σ
  unfold m_X4_setOpen
  refine V_aload_n (x := a0) dX4_setOpen_0 rfl ?_
  refine V_iload_n (x := a2) dX4_setOpen_1 rfl ?_
  refine V_if_eq (tgt := 16) (x := a2) dX4_setOpen_2 (by decide) (fun hc2 => ?_) (fun hc2 => ?_)
  · refine V_aload_n (x := a0) dX4_setOpen_16 rfl ?_
    refine V_getI fd_X4_setOpen_31_X4 dX4_setOpen_17 (fun x3 => ?_)
    refine V_iconst (v := (1 : Int32)) dX4_setOpen_20 rfl ?_
    refine V_iload_n (x := a1) dX4_setOpen_21 rfl ?_
    refine V_ishl (x := (1 : Int32)) (y := a1) dX4_setOpen_22 ?_
    refine V_iconst (v := (-1 : Int32)) dX4_setOpen_23 rfl ?_
    refine V_ixor (x := ((1 : Int32) <<< (a1 &&& 31))) (y := (-1 : Int32)) dX4_setOpen_24 ?_
    refine V_iand (x := x3) (y := (((1 : Int32) <<< (a1 &&& 31)) ^^^ (-1 : Int32))) dX4_setOpen_25 ?_
    exact V_sub (LE.n (LE.n (LE.n LE.e))) (v_X4_setOpen_b26  a0 ((x3 &&& (((1 : Int32) <<< (a1 &&& 31)) ^^^ (-1 : Int32)))) σ)
  · refine V_aload_n (x := a0) dX4_setOpen_5 rfl ?_
    refine V_getI fd_X4_setOpen_31_X4 dX4_setOpen_6 (fun x4 => ?_)
    refine V_iconst (v := (1 : Int32)) dX4_setOpen_9 rfl ?_
    refine V_iload_n (x := a1) dX4_setOpen_10 rfl ?_
    refine V_ishl (x := (1 : Int32)) (y := a1) dX4_setOpen_11 ?_
    refine V_ior (x := x4) (y := ((1 : Int32) <<< (a1 &&& 31))) dX4_setOpen_12 ?_
    refine V_goto (tgt := 26) dX4_setOpen_13 (by decide) ?_
    exact V_sub (LE.n (LE.n (LE.n LE.e))) (v_X4_setOpen_b26  a0 ((x4 ||| ((1 : Int32) <<< (a1 &&& 31)))) σ)
theorem t_X4_setOpen {D : DG} {z0 : Nat} {l : Launch} (a : Nat) (a1 : Int32) (a2 : Int32) (σ : SG) : MT D z0 l yX4_setOpen wsX4_setOpen rmX4_setOpen tvU [.ref a, .int a1, .int a2] σ (m_X4_setOpen (some a) a1 a2 σ) :=
  MT.of (own := RX4) (cc := cX4_setOpen) (nL := 3) (ret := none) (ct := false) (by decide) rfl rfl (fun h => by cases h) (Nat.le_of_ble_eq_true rfl) (by intro v hv; simp only [List.mem_cons, List.not_mem_nil, or_false] at hv; first | (rcases hv with rfl | rfl | rfl <;> first | rfl | exact va_rf_cat _) | exact absurd hv (fun h => h)) (v_X4_setOpen (some a) a1 a2 σ)
theorem in_X3_hearWord_X3 : ∀ w ∈ u_ws RX3 TX3 8, w ∈ wsX3_hearWord := by decide +kernel
theorem wd_X3_hearWord_1 : Cond.fieldLink RX3 42 "MainsWords$Net" "time" "I" ∈ wsX3_hearWord := by decide +kernel
theorem fd_X3_hearWord_42_X3 : FD RX3 42 wsX3_hearWord 3 6 := ⟨RX3, "MainsWords$Net", TX3, 8, rfl, in_X3_hearWord_X3, by decide, wd_X3_hearWord_1, Or.inl rfl⟩
theorem wd_X3_hearWord_3 : Cond.fieldLink RX3 39 "MainsWords$Net" "totals" "[I" ∈ wsX3_hearWord := by decide +kernel
theorem fd_X3_hearWord_39_X3 : FD RX3 39 wsX3_hearWord 3 5 := ⟨RX3, "MainsWords$Net", TX3, 8, rfl, in_X3_hearWord_X3, by decide, wd_X3_hearWord_3, Or.inl rfl⟩
theorem wd_X3_hearWord_5 : Cond.fieldLink RX3 25 "MainsWords$Net" "lamps" "[LMainsWords$Lamp;" ∈ wsX3_hearWord := by decide +kernel
theorem fd_X3_hearWord_25_X3 : FD RX3 25 wsX3_hearWord 3 2 := ⟨RX3, "MainsWords$Net", TX3, 8, rfl, in_X3_hearWord_X3, by decide, wd_X3_hearWord_5, Or.inl rfl⟩
set_option maxRecDepth 100000 in
set_option maxHeartbeats 4000000 in
theorem v_X3_hearWord_b118 {D : DG} {z0 : Nat} {l : Launch} : ∀ (s0 : Option Nat) (s1 : Int32) (s2 : Int32) (σ : SG), V D z0 l RX3 cX3_hearWord 10 wsX3_hearWord (some .int) rmX3_hearWord false tvI 118 [none, none, none, none, none, none, none, none, none, none] [.int s2, .int s1, va_rf s0] σ 0 0 (m_X3_hearWord_b118 s0 s1 s2 σ) := by
  intro s0 s1 s2 σ
  unfold m_X3_hearWord_b118
  refine V_callV0 (As := [.int s1, .int s2]) (st0 := []) (stI := [.int s2, .int s1, va_rf s0]) (fun _ h => by cases h; exact t_X4_setOpen _ s1 s2 σ) (q := (RX4, TX4, 7)) rfl rfl rfl (Nat.le_of_ble_eq_true rfl) rfl (fun s args hts => cwV 2 hts gX3_hearWord_X4_setOpen rfl rfl rfl (by decide +kernel) ⟨Nat.le_of_ble_eq_true rfl, Nat.le_of_ble_eq_true rfl⟩) rfl rfl dX3_hearWord_118 (fun _ σ1 _ => ?_)
  refine V_iconst (v := (1 : Int32)) dX3_hearWord_121 rfl ?_
  exact V_iret (fun _ => rfl) rfl (Nat.zero_le _) (Nat.zero_le _) dX3_hearWord_122
set_option maxRecDepth 100000 in
set_option maxHeartbeats 4000000 in
theorem v_X3_hearWord_b98 {D : DG} {z0 : Nat} {l : Launch} {rec60 : Int32 → Option Nat → Int32 → Int32 → Option Nat → Int32 → Int32 → SG → Option (Int32 × SG)} (hrec60 : ∀ (v1 : Int32) (v2 : Option Nat) (v4 : Int32) (v5 : Int32) (v6 : Option Nat) (v7 : Int32) (v8 : Int32) (σ : SG), V D z0 l RX3 cX3_hearWord 10 wsX3_hearWord (some .int) rmX3_hearWord false tvI 60 [none, some (.int v1), some (va_rf v2), none, some (.int v4), some (.int v5), some (va_rf v6), some (.int v7), some (.int v8), none] [] σ 0 0 (rec60 v1 v2 v4 v5 v6 v7 v8 σ)) : ∀ (v1 : Int32) (v2 : Option Nat) (v4 : Int32) (v5 : Int32) (v6 : Option Nat) (v7 : Int32) (v8 : Int32) (σ : SG), V D z0 l RX3 cX3_hearWord 10 wsX3_hearWord (some .int) rmX3_hearWord false tvI 98 [none, some (.int v1), some (va_rf v2), none, some (.int v4), some (.int v5), some (va_rf v6), some (.int v7), some (.int v8), none] [] σ 0 0 (m_X3_hearWord_b98 rec60 v1 v2 v4 v5 v6 v7 v8 σ) := by
  intro v1 v2 v4 v5 v6 v7 v8 σ
  unfold m_X3_hearWord_b98
  refine V_iinc (x := v8) (v := (v8 + 1)) (ls' := [none, some (.int v1), some (va_rf v2), none, some (.int v4), some (.int v5), some (va_rf v6), some (.int v7), some (.int (v8 + 1)), none]) dX3_hearWord_98 rfl rfl (by decide) rfl ?_
  refine V_goto (tgt := 60) dX3_hearWord_101 (by decide) ?_
  exact hrec60 v1 v2 v4 v5 v6 v7 ((v8 + 1)) σ
set_option maxRecDepth 100000 in
set_option maxHeartbeats 4000000 in
theorem v_X3_hearWord_B60 {D : DG} {z0 : Nat} {l : Launch} {rec60 : Int32 → Option Nat → Int32 → Int32 → Option Nat → Int32 → Int32 → SG → Option (Int32 × SG)} (hrec60 : ∀ (v1 : Int32) (v2 : Option Nat) (v4 : Int32) (v5 : Int32) (v6 : Option Nat) (v7 : Int32) (v8 : Int32) (σ : SG), V D z0 l RX3 cX3_hearWord 10 wsX3_hearWord (some .int) rmX3_hearWord false tvI 60 [none, some (.int v1), some (va_rf v2), none, some (.int v4), some (.int v5), some (va_rf v6), some (.int v7), some (.int v8), none] [] σ 0 0 (rec60 v1 v2 v4 v5 v6 v7 v8 σ)) : ∀ (v1 : Int32) (v2 : Option Nat) (v4 : Int32) (v5 : Int32) (v6 : Option Nat) (v7 : Int32) (v8 : Int32) (σ : SG), V D z0 l RX3 cX3_hearWord 10 wsX3_hearWord (some .int) rmX3_hearWord false tvI 60 [none, some (.int v1), some (va_rf v2), none, some (.int v4), some (.int v5), some (va_rf v6), some (.int v7), some (.int v8), none] [] σ 0 0 (m_X3_hearWord_B60 rec60 v1 v2 v4 v5 v6 v7 v8 σ) := by
  intro v1 v2 v4 v5 v6 v7 v8 σ
  unfold m_X3_hearWord_B60
  refine V_iload (x := v8) dX3_hearWord_60 rfl ?_
  refine V_iload (x := v7) dX3_hearWord_62 rfl ?_
  refine V_icmp_ge (tgt := 104) (x := v8) (y := v7) dX3_hearWord_64 (by decide) (fun hc2 => ?_) (fun hc2 => ?_)
  · refine V_aload_n (x := v2) dX3_hearWord_104 rfl ?_
    refine V_iload (x := v4) dX3_hearWord_105 rfl ?_
    refine V_iload (x := v5) dX3_hearWord_107 rfl ?_
    refine V_iconst (v := (4 : Int32)) dX3_hearWord_109 rfl ?_
    refine V_icmp_ge (tgt := 117) (x := v5) (y := (4 : Int32)) dX3_hearWord_110 (by decide) (fun hc3 => ?_) (fun hc3 => ?_)
    · refine V_iconst (v := (0 : Int32)) dX3_hearWord_117 rfl ?_
      exact V_sub (LE.s (LE.n (LE.n (LE.s (LE.n (LE.n (LE.n (LE.n (LE.n (LE.s LE.e)))))))))) (v_X3_hearWord_b118  v2 v4 ((0 : Int32)) σ)
    · refine V_iconst (v := (1 : Int32)) dX3_hearWord_113 rfl ?_
      refine V_goto (tgt := 118) dX3_hearWord_114 (by decide) ?_
      exact V_sub (LE.s (LE.n (LE.n (LE.s (LE.n (LE.n (LE.n (LE.n (LE.n (LE.s LE.e)))))))))) (v_X3_hearWord_b118  v2 v4 ((1 : Int32)) σ)
  · refine V_aload (x := v6) dX3_hearWord_67 rfl ?_
    refine V_iload (x := v8) dX3_hearWord_69 rfl ?_
    refine V_aaload dX3_hearWord_71 (fun x4 => ?_)
    refine V_astore (x := x4) (ls' := [none, some (.int v1), some (va_rf v2), none, some (.int v4), some (.int v5), some (va_rf v6), some (.int v7), some (.int v8), some (va_rf x4)]) dX3_hearWord_72 (by decide) rfl ?_
    refine V_aload (x := x4) dX3_hearWord_74 rfl ?_
    refine V_iload_n (x := v1) dX3_hearWord_76 rfl ?_
    refine V_iload (x := v4) dX3_hearWord_77 rfl ?_
    refine V_callV0 (As := [.int v1, .int v4]) (st0 := []) (stI := [.int v4, .int v1, va_rf x4]) (fun _ h => by cases h; exact t_X1_isCalledBy _ v1 v4 σ) (q := (RX1, TX1, 7)) rfl rfl rfl (Nat.le_of_ble_eq_true rfl) rfl (fun s args hts => cwV 2 hts gX3_hearWord_X1_isCalledBy rfl rfl rfl (by decide +kernel) ⟨Nat.le_of_ble_eq_true rfl, Nat.le_of_ble_eq_true rfl⟩) rfl rfl dX3_hearWord_79 (fun r5 σ6 _ => ?_)
    refine V_if_eq (tgt := 98) (x := r5) dX3_hearWord_82 (by decide) (fun hc7 => ?_) (fun hc7 => ?_)
    · exact V_sub (LE.s (LE.s (LE.s (LE.s (LE.s (LE.s (LE.s (LE.s (LE.s (LE.n LE.e)))))))))) (v_X3_hearWord_b98 hrec60 v1 v2 v4 v5 v6 v7 v8 σ6)
    · refine V_aload (x := x4) dX3_hearWord_85 rfl ?_
      refine V_iload (x := v5) dX3_hearWord_87 rfl ?_
      refine V_aload_n (x := v2) dX3_hearWord_89 rfl ?_
      refine V_iload (x := v4) dX3_hearWord_90 rfl ?_
      refine V_callV0 (As := [.int v4]) (st0 := [.int v5, va_rf x4]) (stI := [.int v4, va_rf v2, .int v5, va_rf x4]) (fun _ h => by cases h; exact t_X4_isOpen _ v4 σ6) (q := (RX4, TX4, 7)) rfl rfl rfl (by simp only [List.map_cons, List.map_nil, List.sum_cons, List.sum_nil, va_rf_cat, catI, catF]; decide) rfl (fun s args hts => cwV 1 hts gX3_hearWord_X4_isOpen rfl rfl rfl (by decide +kernel) ⟨Nat.le_of_ble_eq_true rfl, Nat.le_of_ble_eq_true rfl⟩) rfl rfl dX3_hearWord_92 (fun r8 σ9 _ => ?_)
      refine V_callV0 (As := [.int v5, .int r8]) (st0 := []) (stI := [.int r8, .int v5, va_rf x4]) (fun _ h => by cases h; exact t_X1_obey _ v5 r8 σ9) (q := (RX1, TX1, 7)) rfl rfl rfl (Nat.le_of_ble_eq_true rfl) rfl (fun s args hts => cwV 2 hts gX3_hearWord_X1_obey rfl rfl rfl (by decide +kernel) ⟨Nat.le_of_ble_eq_true rfl, Nat.le_of_ble_eq_true rfl⟩) rfl rfl dX3_hearWord_95 (fun _ σ10 _ => ?_)
      exact V_sub (LE.s (LE.s (LE.s (LE.s (LE.s (LE.s (LE.s (LE.s (LE.s (LE.n LE.e)))))))))) (v_X3_hearWord_b98 hrec60 v1 v2 v4 v5 v6 v7 v8 σ10)
theorem v_X3_hearWord_L60 {D : DG} {z0 : Nat} {l : Launch} : ∀ (n : Nat) (v1 : Int32) (v2 : Option Nat) (v4 : Int32) (v5 : Int32) (v6 : Option Nat) (v7 : Int32) (v8 : Int32) (σ : SG), V D z0 l RX3 cX3_hearWord 10 wsX3_hearWord (some .int) rmX3_hearWord false tvI 60 [none, some (.int v1), some (va_rf v2), none, some (.int v4), some (.int v5), some (va_rf v6), some (.int v7), some (.int v8), none] [] σ 0 0 (m_X3_hearWord_L60 n v1 v2 v4 v5 v6 v7 v8 σ) := by
  intro n
  induction n with
  | zero => intros; exact V_none
  | succ n ih => exact v_X3_hearWord_B60  ih
set_option maxRecDepth 100000 in
set_option maxHeartbeats 4000000 in
theorem v_X3_hearWord {D : DG} {z0 : Nat} {l : Launch} : ∀ (a0 : Option Nat) (a1 : Int32) (a2 : Option Nat) (a3 : Int32) (σ : SG), V D z0 l RX3 cX3_hearWord 10 wsX3_hearWord (some .int) rmX3_hearWord false tvI 0 [some (va_rf a0), some (.int a1), some (va_rf a2), some (.int a3), none, none, none, none, none, none] [] σ 0 0 (m_X3_hearWord a0 a1 a2 a3 σ) := by
  intro a0 a1 a2 a3 σ
  unfold m_X3_hearWord
  refine V_aload_n (x := a2) dX3_hearWord_0 rfl ?_
  refine V_iload_n (x := a3) dX3_hearWord_1 rfl ?_
  refine V_aload_n (x := a0) dX3_hearWord_2 rfl ?_
  refine V_getI fd_X3_hearWord_42_X3 dX3_hearWord_3 (fun x11 => ?_)
  refine V_callV0 (As := [.int a3, .int x11]) (st0 := []) (stI := [.int x11, .int a3, va_rf a2]) (fun _ h => by cases h; exact t_X4_tell _ a3 x11 σ) (q := (RX4, TX4, 7)) rfl rfl rfl (Nat.le_of_ble_eq_true rfl) rfl (fun s args hts => cwV 2 hts gX3_hearWord_X4_tell rfl rfl rfl (by decide +kernel) ⟨Nat.le_of_ble_eq_true rfl, Nat.le_of_ble_eq_true rfl⟩) rfl rfl dX3_hearWord_6 (fun r12 σ13 _ => ?_)
  refine V_if_ne (tgt := 24) (x := r12) dX3_hearWord_9 (by decide) (fun hc14 => ?_) (fun hc14 => ?_)
  · refine V_aload_n (x := a0) dX3_hearWord_12 rfl ?_
    refine V_getR fd_X3_hearWord_39_X3 dX3_hearWord_13 (fun x15 => ?_)
    refine V_iconst (v := (3 : Int32)) dX3_hearWord_16 rfl ?_
    refine V_dup2 dX3_hearWord_17 rfl (va_rf_cat _) ?_
    refine V_iaload dX3_hearWord_18 (fun x16 => ?_)
    refine V_iconst (v := (1 : Int32)) dX3_hearWord_19 rfl ?_
    refine V_iadd (x := x16) (y := (1 : Int32)) dX3_hearWord_20 ?_
    refine V_iastore dX3_hearWord_21 (fun σ17 hσ17 => ?_)
    refine V_iconst (v := (0 : Int32)) dX3_hearWord_22 rfl ?_
    exact V_iret (fun _ => rfl) rfl (Nat.zero_le _) (Nat.zero_le _) dX3_hearWord_23
  · refine V_aload_n (x := a0) dX3_hearWord_24 rfl ?_
    refine V_getR fd_X3_hearWord_39_X3 dX3_hearWord_25 (fun x18 => ?_)
    refine V_iconst (v := (2 : Int32)) dX3_hearWord_28 rfl ?_
    refine V_dup2 dX3_hearWord_29 rfl (va_rf_cat _) ?_
    refine V_iaload dX3_hearWord_30 (fun x19 => ?_)
    refine V_iconst (v := (1 : Int32)) dX3_hearWord_31 rfl ?_
    refine V_iadd (x := x19) (y := (1 : Int32)) dX3_hearWord_32 ?_
    refine V_iastore dX3_hearWord_33 (fun σ20 hσ20 => ?_)
    refine V_iload_n (x := a3) dX3_hearWord_34 rfl ?_
    refine V_bipush (v := (8 : Int32)) dX3_hearWord_35 rfl ?_
    refine V_idiv (x := a3) (y := (8 : Int32)) dX3_hearWord_37 ?_
    refine V_istore (x := (a3 / (8 : Int32))) (ls' := [some (va_rf a0), some (.int a1), some (va_rf a2), some (.int a3), some (.int (a3 / (8 : Int32))), none, none, none, none, none]) dX3_hearWord_38 (by decide) rfl ?_
    refine V_iload_n (x := a3) dX3_hearWord_40 rfl ?_
    refine V_bipush (v := (8 : Int32)) dX3_hearWord_41 rfl ?_
    refine V_irem (x := a3) (y := (8 : Int32)) dX3_hearWord_43 ?_
    refine V_istore (x := (a3 - a3 / (8 : Int32) * (8 : Int32))) (ls' := [some (va_rf a0), some (.int a1), some (va_rf a2), some (.int a3), some (.int (a3 / (8 : Int32))), some (.int (a3 - a3 / (8 : Int32) * (8 : Int32))), none, none, none, none]) dX3_hearWord_44 (by decide) rfl ?_
    refine V_aload_n (x := a0) dX3_hearWord_46 rfl ?_
    refine V_getR fd_X3_hearWord_25_X3 dX3_hearWord_47 (fun x21 => ?_)
    refine V_astore (x := x21) (ls' := [some (va_rf a0), some (.int a1), some (va_rf a2), some (.int a3), some (.int (a3 / (8 : Int32))), some (.int (a3 - a3 / (8 : Int32) * (8 : Int32))), some (va_rf x21), none, none, none]) dX3_hearWord_50 (by decide) rfl ?_
    refine V_aload (x := x21) dX3_hearWord_52 rfl ?_
    refine V_alen dX3_hearWord_54 (fun x22 => ?_)
    refine V_istore (x := x22) (ls' := [some (va_rf a0), some (.int a1), some (va_rf a2), some (.int a3), some (.int (a3 / (8 : Int32))), some (.int (a3 - a3 / (8 : Int32) * (8 : Int32))), some (va_rf x21), some (.int x22), none, none]) dX3_hearWord_55 (by decide) rfl ?_
    refine V_iconst (v := (0 : Int32)) dX3_hearWord_57 rfl ?_
    refine V_istore (x := (0 : Int32)) (ls' := [some (va_rf a0), some (.int a1), some (va_rf a2), some (.int a3), some (.int (a3 / (8 : Int32))), some (.int (a3 - a3 / (8 : Int32) * (8 : Int32))), some (va_rf x21), some (.int x22), some (.int (0 : Int32)), none]) dX3_hearWord_58 (by decide) rfl ?_
    exact V_sub (LE.n (LE.s (LE.s (LE.n (LE.s (LE.s (LE.s (LE.s (LE.s (LE.s LE.e)))))))))) (v_X3_hearWord_L60  1000 a1 a2 ((a3 / (8 : Int32))) ((a3 - a3 / (8 : Int32) * (8 : Int32))) x21 x22 ((0 : Int32)) σ20)
theorem t_X3_hearWord {D : DG} {z0 : Nat} {l : Launch} (a : Nat) (a1 : Int32) (a2 : Option Nat) (a3 : Int32) (σ : SG) : MT D z0 l yX3_hearWord wsX3_hearWord rmX3_hearWord tvI [.ref a, .int a1, va_rf a2, .int a3] σ (m_X3_hearWord (some a) a1 a2 a3 σ) :=
  MT.of (own := RX3) (cc := cX3_hearWord) (nL := 10) (ret := (some .int)) (ct := false) (by decide) rfl rfl (fun h => by cases h) (Nat.le_of_ble_eq_true rfl) (by intro v hv; simp only [List.mem_cons, List.not_mem_nil, or_false] at hv; first | (rcases hv with rfl | rfl | rfl | rfl <;> first | rfl | exact va_rf_cat _) | exact absurd hv (fun h => h)) (v_X3_hearWord (some a) a1 a2 a3 σ)
