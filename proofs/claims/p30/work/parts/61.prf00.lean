/-! PRINTED BY wip/p30/gen.py -/
theorem catI (x : Int32) : (Value.int x).category = 1 := rfl
theorem catF (x : UInt32) : (Value.float x).category = 1 := rfl

theorem dfl_X0 : ∀ j, j < 2 → defaultValue (tyX0 j) = vp_V [.null, .int 0] j := by decide +kernel
theorem dfl_X1 : ∀ j, j < 7 → defaultValue (tyX1 j) = vp_V [.int 0, .int 0, .int 0, .int 0, .int 0, .int 0, .int 0] j := by decide +kernel
theorem dfl_X2 : ∀ j, j < 6 → defaultValue (tyX2 j) = vp_V [.int 0, .int 0, .int 0, .int 0, .int 0, .int 0] j := by decide +kernel
theorem dfl_X3 : ∀ j, j < 8 → defaultValue (tyX3 j) = vp_V [.null, .null, .null, .null, .null, .null, .int 0, .null] j := by decide +kernel
theorem dfl_X4 : ∀ j, j < 7 → defaultValue (tyX4 j) = vp_V [.int 0, .int 0, .int 0, .int 0, .int 0, .int 0, .int 0] j := by decide +kernel
theorem dfl_X5 : ∀ j, j < 2 → defaultValue (tyX5 j) = vp_V [.null, .int 0] j := by decide +kernel
theorem dfl_X6 : ∀ j, j < 10 → defaultValue (tyX6 j) = vp_V [.int 0, .int 0, .int 0, .null, .int 0, .int 0, .int 0, .int 0, .int 0, .int 0] j := by decide +kernel
theorem dfl_X8 : ∀ j, j < 6 → defaultValue (tyX8 j) = vp_V [.null, .null, .null, .int 0, .null, .null] j := by decide +kernel
theorem wd_X7_init_0 : Cond.methodLink RX7 1 objectInit ∈ wsX7_init := by decide +kernel
theorem wd_X7_init_1 : Cond.instanceMethod objectInit ∈ wsX7_init := by decide +kernel
theorem wd_X7_init_2 : Cond.code objectInit ⟨#[0xb1]⟩ 1 none ∈ wsX7_init := by decide +kernel
theorem in_X7_init_X1 : ∀ w ∈ u_ws RX1 TX1 7, w ∈ wsX7_init := by decide +kernel
theorem wd_X7_init_4 : Cond.fieldLink RX7 7 "MainsWords$Thing" "isPresent" "Z" ∈ wsX7_init := by decide +kernel
theorem fd_X7_init_7_X1 : FD RX7 7 wsX7_init 1 1 := ⟨RX1, "MainsWords$Thing", TX1, 7, rfl, in_X7_init_X1, by decide, wd_X7_init_4, Or.inl rfl⟩
theorem fw_X7_init_X1_1 : FW RX7 wsX7_init 1 1 .boolean false := ⟨RX1, TX1, 7, tyX1, rfl, in_X7_init_X1, tyX1_ok, nmX1, rfl, (fun h => by cases h), rfl⟩
theorem in_X7_init_X2 : ∀ w ∈ u_ws RX2 TX2 6, w ∈ wsX7_init := by decide +kernel
theorem fd_X7_init_7_X2 : FD RX7 7 wsX7_init 2 1 := ⟨RX2, "MainsWords$Thing", TX2, 6, rfl, in_X7_init_X2, by decide, wd_X7_init_4, Or.inl rfl⟩
theorem fw_X7_init_X2_1 : FW RX7 wsX7_init 2 1 .boolean false := ⟨RX2, TX2, 6, tyX2, rfl, in_X7_init_X2, tyX2_ok, nmX2, rfl, (fun h => by cases h), rfl⟩
theorem in_X7_init_X6 : ∀ w ∈ u_ws RX6 TX6 10, w ∈ wsX7_init := by decide +kernel
theorem fd_X7_init_7_X6 : FD RX7 7 wsX7_init 6 1 := ⟨RX6, "MainsWords$Thing", TX6, 10, rfl, in_X7_init_X6, by decide, wd_X7_init_4, Or.inl rfl⟩
theorem fw_X7_init_X6_1 : FW RX7 wsX7_init 6 1 .boolean false := ⟨RX6, TX6, 10, tyX6, rfl, in_X7_init_X6, tyX6_ok, nmX6, rfl, (fun h => by cases h), rfl⟩
theorem wd_X7_init_13 : Cond.fieldLink RX7 13 "MainsWords$Thing" "wire" "I" ∈ wsX7_init := by decide +kernel
theorem fd_X7_init_13_X1 : FD RX7 13 wsX7_init 1 2 := ⟨RX1, "MainsWords$Thing", TX1, 7, rfl, in_X7_init_X1, by decide, wd_X7_init_13, Or.inl rfl⟩
theorem fw_X7_init_X1_2 : FW RX7 wsX7_init 1 2 .int false := ⟨RX1, TX1, 7, tyX1, rfl, in_X7_init_X1, tyX1_ok, nmX1, rfl, (fun h => by cases h), rfl⟩
theorem fd_X7_init_13_X2 : FD RX7 13 wsX7_init 2 2 := ⟨RX2, "MainsWords$Thing", TX2, 6, rfl, in_X7_init_X2, by decide, wd_X7_init_13, Or.inl rfl⟩
theorem fw_X7_init_X2_2 : FW RX7 wsX7_init 2 2 .int false := ⟨RX2, TX2, 6, tyX2, rfl, in_X7_init_X2, tyX2_ok, nmX2, rfl, (fun h => by cases h), rfl⟩
theorem fd_X7_init_13_X6 : FD RX7 13 wsX7_init 6 2 := ⟨RX6, "MainsWords$Thing", TX6, 10, rfl, in_X7_init_X6, by decide, wd_X7_init_13, Or.inl rfl⟩
theorem fw_X7_init_X6_2 : FW RX7 wsX7_init 6 2 .int false := ⟨RX6, TX6, 10, tyX6, rfl, in_X7_init_X6, tyX6_ok, nmX6, rfl, (fun h => by cases h), rfl⟩
theorem wd_X7_init_20 : Cond.fieldLink RX7 17 "MainsWords$Thing" "number" "I" ∈ wsX7_init := by decide +kernel
theorem fd_X7_init_17_X1 : FD RX7 17 wsX7_init 1 0 := ⟨RX1, "MainsWords$Thing", TX1, 7, rfl, in_X7_init_X1, by decide, wd_X7_init_20, Or.inl rfl⟩
theorem fw_X7_init_X1_0 : FW RX7 wsX7_init 1 0 .int true := ⟨RX1, TX1, 7, tyX1, rfl, in_X7_init_X1, tyX1_ok, nmX1, rfl, (fun _ => rfl), rfl⟩
theorem fd_X7_init_17_X2 : FD RX7 17 wsX7_init 2 0 := ⟨RX2, "MainsWords$Thing", TX2, 6, rfl, in_X7_init_X2, by decide, wd_X7_init_20, Or.inl rfl⟩
theorem fw_X7_init_X2_0 : FW RX7 wsX7_init 2 0 .int true := ⟨RX2, TX2, 6, tyX2, rfl, in_X7_init_X2, tyX2_ok, nmX2, rfl, (fun _ => rfl), rfl⟩
theorem fd_X7_init_17_X6 : FD RX7 17 wsX7_init 6 0 := ⟨RX6, "MainsWords$Thing", TX6, 10, rfl, in_X7_init_X6, by decide, wd_X7_init_20, Or.inl rfl⟩
theorem fw_X7_init_X6_0 : FW RX7 wsX7_init 6 0 .int true := ⟨RX6, TX6, 10, tyX6, rfl, in_X7_init_X6, tyX6_ok, nmX6, rfl, (fun _ => rfl), rfl⟩
set_option maxRecDepth 100000 in
set_option maxHeartbeats 4000000 in
theorem v_X7_init {D : DG} {z0 : Nat} {l : Launch} : ∀ (a0 : Option Nat) (a1 : Int32) (σ : SG), V D z0 l RX7 cX7_init 2 wsX7_init none rmX7_init true tvU 0 [some (va_rf a0), some (.int a1)] [] σ 0 0 (m_X7_init a0 a1 σ) := by
  intro a0 a1 σ
  unfold m_X7_init
  refine V_aload_n (x := a0) dX7_init_0 rfl ?_
  refine V_objinitN wd_X7_init_0 wd_X7_init_1 wd_X7_init_2 (by decide) (by decide) dX7_init_1 ?_
  refine V_aload_n (x := a0) dX7_init_4 rfl ?_
  refine V_iconst (v := (0 : Int32)) dX7_init_5 rfl ?_
  refine V_putZT (LE3 (⟨fd_X7_init_7_X1, fw_X7_init_X1_1⟩) (⟨fd_X7_init_7_X2, fw_X7_init_X2_1⟩) (⟨fd_X7_init_7_X6, fw_X7_init_X6_1⟩)) dX7_init_6 (fun σ1 hσ1 => ?_)
  refine V_aload_n (x := a0) dX7_init_9 rfl ?_
  refine V_iconst (v := (0 : Int32)) dX7_init_10 rfl ?_
  refine V_putIT2 (LE3 (⟨fd_X7_init_13_X1, fw_X7_init_X1_2⟩) (⟨fd_X7_init_13_X2, fw_X7_init_X2_2⟩) (⟨fd_X7_init_13_X6, fw_X7_init_X6_2⟩)) (fun h => by cases h) dX7_init_11 (fun σ2 hσ2 => ?_)
  refine V_aload_n (x := a0) dX7_init_14 rfl ?_
  refine V_iload_n (x := a1) dX7_init_15 rfl ?_
  refine V_putIT2 (LE3 (⟨fd_X7_init_17_X1, fw_X7_init_X1_0⟩) (⟨fd_X7_init_17_X2, fw_X7_init_X2_0⟩) (⟨fd_X7_init_17_X6, fw_X7_init_X6_0⟩)) (fun _ => rfl) dX7_init_16 (fun σ3 hσ3 => ?_)
  exact V_vret (fun _ => rfl) rfl (Nat.zero_le _) (Nat.zero_le _) dX7_init_19
theorem t_X7_init {D : DG} {z0 : Nat} {l : Launch} (a : Nat) (a1 : Int32) (σ : SG) : MT D z0 l yX7_init wsX7_init rmX7_init tvU [.ref a, .int a1] σ (m_X7_init (some a) a1 σ) :=
  MT.of (own := RX7) (cc := cX7_init) (nL := 2) (ret := none) (ct := true) (by decide) rfl rfl (fun _ => rfl) (Nat.le_of_ble_eq_true rfl) (by intro v hv; simp only [List.mem_cons, List.not_mem_nil, or_false] at hv; first | (rcases hv with rfl | rfl <;> first | rfl | exact va_rf_cat _) | exact absurd hv (fun h => h)) (v_X7_init (some a) a1 σ)
theorem wd_X6_init_0 : Cond.initialized RX7 ∈ wsX6_init := by decide +kernel
theorem wd_X6_init_1 : Cond.methodLink RX6 3 yX7_init ∈ wsX6_init := by decide +kernel
theorem wd_X6_init_2 : Cond.instanceMethod yX7_init ∈ wsX6_init := by decide +kernel
theorem wd_X6_init_3 : Cond.arrayClass .int ∈ wsX6_init := by decide +kernel
theorem in_X6_init_X6 : ∀ w ∈ u_ws RX6 TX6 10, w ∈ wsX6_init := by decide +kernel
theorem wd_X6_init_5 : Cond.fieldLink RX6 9 "MainsWords$Sender" "queue" "[I" ∈ wsX6_init := by decide +kernel
theorem fd_X6_init_9_X6 : FD RX6 9 wsX6_init 6 3 := ⟨RX6, "MainsWords$Sender", TX6, 10, rfl, in_X6_init_X6, by decide, wd_X6_init_5, Or.inl rfl⟩
theorem fw_X6_init_X6_3 : FW RX6 wsX6_init 6 3 (.array .int) true := ⟨RX6, TX6, 10, tyX6, rfl, in_X6_init_X6, tyX6_ok, nmX6, rfl, (fun _ => rfl), rfl⟩
theorem wd_X6_init_8 : Cond.fieldLink RX6 15 "MainsWords$Sender" "queueLength" "I" ∈ wsX6_init := by decide +kernel
theorem fd_X6_init_15_X6 : FD RX6 15 wsX6_init 6 4 := ⟨RX6, "MainsWords$Sender", TX6, 10, rfl, in_X6_init_X6, by decide, wd_X6_init_8, Or.inl rfl⟩
theorem fw_X6_init_X6_4 : FW RX6 wsX6_init 6 4 .int false := ⟨RX6, TX6, 10, tyX6, rfl, in_X6_init_X6, tyX6_ok, nmX6, rfl, (fun h => by cases h), rfl⟩
theorem wd_X6_init_11 : Cond.fieldLink RX6 19 "MainsWords$Sender" "strength" "I" ∈ wsX6_init := by decide +kernel
theorem fd_X6_init_19_X6 : FD RX6 19 wsX6_init 6 5 := ⟨RX6, "MainsWords$Sender", TX6, 10, rfl, in_X6_init_X6, by decide, wd_X6_init_11, Or.inl rfl⟩
theorem fw_X6_init_X6_5 : FW RX6 wsX6_init 6 5 .int false := ⟨RX6, TX6, 10, tyX6, rfl, in_X6_init_X6, tyX6_ok, nmX6, rfl, (fun h => by cases h), rfl⟩
theorem wd_X6_init_14 : Cond.fieldLink RX6 22 "MainsWords$Sender" "speaks" "Z" ∈ wsX6_init := by decide +kernel
theorem fd_X6_init_22_X6 : FD RX6 22 wsX6_init 6 6 := ⟨RX6, "MainsWords$Sender", TX6, 10, rfl, in_X6_init_X6, by decide, wd_X6_init_14, Or.inl rfl⟩
theorem fw_X6_init_X6_6 : FW RX6 wsX6_init 6 6 .boolean false := ⟨RX6, TX6, 10, tyX6, rfl, in_X6_init_X6, tyX6_ok, nmX6, rfl, (fun h => by cases h), rfl⟩
theorem wd_X6_init_17 : Cond.fieldLink RX6 26 "MainsWords$Sender" "copy" "I" ∈ wsX6_init := by decide +kernel
theorem fd_X6_init_26_X6 : FD RX6 26 wsX6_init 6 7 := ⟨RX6, "MainsWords$Sender", TX6, 10, rfl, in_X6_init_X6, by decide, wd_X6_init_17, Or.inl rfl⟩
theorem fw_X6_init_X6_7 : FW RX6 wsX6_init 6 7 .int false := ⟨RX6, TX6, 10, tyX6, rfl, in_X6_init_X6, tyX6_ok, nmX6, rfl, (fun h => by cases h), rfl⟩
theorem wd_X6_init_20 : Cond.fieldLink RX6 29 "MainsWords$Sender" "place" "I" ∈ wsX6_init := by decide +kernel
theorem fd_X6_init_29_X6 : FD RX6 29 wsX6_init 6 8 := ⟨RX6, "MainsWords$Sender", TX6, 10, rfl, in_X6_init_X6, by decide, wd_X6_init_20, Or.inl rfl⟩
theorem fw_X6_init_X6_8 : FW RX6 wsX6_init 6 8 .int false := ⟨RX6, TX6, 10, tyX6, rfl, in_X6_init_X6, tyX6_ok, nmX6, rfl, (fun h => by cases h), rfl⟩
theorem wd_X6_init_23 : Cond.fieldLink RX6 32 "MainsWords$Sender" "pause" "I" ∈ wsX6_init := by decide +kernel
theorem fd_X6_init_32_X6 : FD RX6 32 wsX6_init 6 9 := ⟨RX6, "MainsWords$Sender", TX6, 10, rfl, in_X6_init_X6, by decide, wd_X6_init_23, Or.inl rfl⟩
theorem fw_X6_init_X6_9 : FW RX6 wsX6_init 6 9 .int false := ⟨RX6, TX6, 10, tyX6, rfl, in_X6_init_X6, tyX6_ok, nmX6, rfl, (fun h => by cases h), rfl⟩
set_option maxRecDepth 100000 in
set_option maxHeartbeats 4000000 in
theorem v_X6_init_e {D : DG} {z0 : Nat} {l : Launch} {szE lim : Nat} (hlim : lim = szE + rmX6_init.cells) : ∀ (a0 : Option Nat) (a1 : Int32) (σ : SG) (cells slots : Nat), CB rmX6_init szE σ cells slots → V D z0 l RX6 cX6_init 2 wsX6_init none rmX6_init true tvU 0 [some (va_rf a0), some (.int a1)] [] σ cells slots (m_X6_init_e lim a0 a1 σ) := by
  intro a0 a1 σ cells slots hB
  unfold m_X6_init_e
  refine V_aload_n (x := a0) dX6_init_0 rfl ?_
  refine V_iload_n (x := a1) dX6_init_1 rfl ?_
  refine V.room hB hlim (fun hr1 hr2 => ?_)
  refine V_callI (ci := 6) (As := [.int a1]) (st0 := []) (stI := [.int a1, va_rf a0]) (fun _ h => by cases h; exact t_X7_init _ a1 σ) rfl (Nat.le_of_ble_eq_true rfl) rfl (fun s args hts => cwI 1 hts gX6_init_X7_init rfl rfl rfl (hts _ wd_X6_init_0) (hts _ wd_X6_init_1) (hts _ wd_X6_init_2) rfl (by decide +kernel) ⟨Nat.le_of_ble_eq_true rfl, Nat.le_of_ble_eq_true rfl⟩) ⟨hr1, hr2⟩ dX6_init_2 (fun _ σ1 _ => ?_)
  refine V.same (fun hs2 => ?_)
  refine V_aload_n (x := a0) dX6_init_5 rfl ?_
  refine V_bipush (v := (6 : Int32)) dX6_init_6 rfl ?_
  refine V_newA (at0 := .int) (ty := .int) (CB.call hB rfl rfl hs2) hlim rfl rfl (by decide) rfl (fun _ _ => rfl) wd_X6_init_3 dX6_init_8 (fun x3 σ4 _ _ hB5 => ?_)
  refine V_putA fd_X6_init_9_X6 fw_X6_init_X6_3 (fun _ => rfl) dX6_init_10 (fun σ6 hσ6 => ?_)
  refine V_aload_n (x := a0) dX6_init_13 rfl ?_
  refine V_iconst (v := (0 : Int32)) dX6_init_14 rfl ?_
  refine V_putI fd_X6_init_15_X6 fw_X6_init_X6_4 (fun h => by cases h) dX6_init_15 (fun σ7 hσ7 => ?_)
  refine V_aload_n (x := a0) dX6_init_18 rfl ?_
  refine V_iconst (v := (0 : Int32)) dX6_init_19 rfl ?_
  refine V_putI fd_X6_init_19_X6 fw_X6_init_X6_5 (fun h => by cases h) dX6_init_20 (fun σ8 hσ8 => ?_)
  refine V_aload_n (x := a0) dX6_init_23 rfl ?_
  refine V_iconst (v := (0 : Int32)) dX6_init_24 rfl ?_
  refine V_putZ fd_X6_init_22_X6 fw_X6_init_X6_6 (fun h => by cases h) dX6_init_25 (fun σ9 hσ9 => ?_)
  refine V_aload_n (x := a0) dX6_init_28 rfl ?_
  refine V_iconst (v := (0 : Int32)) dX6_init_29 rfl ?_
  refine V_putI fd_X6_init_26_X6 fw_X6_init_X6_7 (fun h => by cases h) dX6_init_30 (fun σ10 hσ10 => ?_)
  refine V_aload_n (x := a0) dX6_init_33 rfl ?_
  refine V_iconst (v := (0 : Int32)) dX6_init_34 rfl ?_
  refine V_putI fd_X6_init_29_X6 fw_X6_init_X6_8 (fun h => by cases h) dX6_init_35 (fun σ11 hσ11 => ?_)
  refine V_aload_n (x := a0) dX6_init_38 rfl ?_
  refine V_iconst (v := (0 : Int32)) dX6_init_39 rfl ?_
  refine V_putI fd_X6_init_32_X6 fw_X6_init_X6_9 (fun h => by cases h) dX6_init_40 (fun σ12 hσ12 => ?_)
  exact V_vretA (CB.go (CB.go (CB.go (CB.go (CB.go (CB.go (CB.go hB5 hσ6) hσ7) hσ8) hσ9) hσ10) hσ11) hσ12) hlim (fun _ => rfl) rfl dX6_init_43
theorem t_X6_init {D : DG} {z0 : Nat} {l : Launch} (a : Nat) (a1 : Int32) (σ : SG) : MT D z0 l yX6_init wsX6_init rmX6_init tvU [.ref a, .int a1] σ (m_X6_init (some a) a1 σ) :=
  MT.of (own := RX6) (cc := cX6_init) (nL := 2) (ret := none) (ct := true) (by decide) rfl rfl (fun _ => rfl) (Nat.le_of_ble_eq_true rfl) (by intro v hv; simp only [List.mem_cons, List.not_mem_nil, or_false] at hv; first | (rcases hv with rfl | rfl <;> first | rfl | exact va_rf_cat _) | exact absurd hv (fun h => h)) (v_X6_init_e rfl (some a) a1 σ 0 0 (CB.start rfl))
theorem wd_X2_init_0 : Cond.initialized RX7 ∈ wsX2_init := by decide +kernel
theorem wd_X2_init_1 : Cond.methodLink RX2 3 yX7_init ∈ wsX2_init := by decide +kernel
theorem wd_X2_init_2 : Cond.instanceMethod yX7_init ∈ wsX2_init := by decide +kernel
theorem in_X2_init_X2 : ∀ w ∈ u_ws RX2 TX2 6, w ∈ wsX2_init := by decide +kernel
theorem wd_X2_init_4 : Cond.fieldLink RX2 9 "MainsWords$Machine" "strength" "I" ∈ wsX2_init := by decide +kernel
theorem fd_X2_init_9_X2 : FD RX2 9 wsX2_init 2 3 := ⟨RX2, "MainsWords$Machine", TX2, 6, rfl, in_X2_init_X2, by decide, wd_X2_init_4, Or.inl rfl⟩
theorem fw_X2_init_X2_3 : FW RX2 wsX2_init 2 3 .int false := ⟨RX2, TX2, 6, tyX2, rfl, in_X2_init_X2, tyX2_ok, nmX2, rfl, (fun h => by cases h), rfl⟩
theorem wd_X2_init_7 : Cond.fieldLink RX2 15 "MainsWords$Machine" "period" "I" ∈ wsX2_init := by decide +kernel
theorem fd_X2_init_15_X2 : FD RX2 15 wsX2_init 2 4 := ⟨RX2, "MainsWords$Machine", TX2, 6, rfl, in_X2_init_X2, by decide, wd_X2_init_7, Or.inl rfl⟩
theorem fw_X2_init_X2_4 : FW RX2 wsX2_init 2 4 .int false := ⟨RX2, TX2, 6, tyX2, rfl, in_X2_init_X2, tyX2_ok, nmX2, rfl, (fun h => by cases h), rfl⟩
theorem wd_X2_init_10 : Cond.fieldLink RX2 18 "MainsWords$Machine" "isOn" "Z" ∈ wsX2_init := by decide +kernel
theorem fd_X2_init_18_X2 : FD RX2 18 wsX2_init 2 5 := ⟨RX2, "MainsWords$Machine", TX2, 6, rfl, in_X2_init_X2, by decide, wd_X2_init_10, Or.inl rfl⟩
theorem fw_X2_init_X2_5 : FW RX2 wsX2_init 2 5 .boolean false := ⟨RX2, TX2, 6, tyX2, rfl, in_X2_init_X2, tyX2_ok, nmX2, rfl, (fun h => by cases h), rfl⟩
set_option maxRecDepth 100000 in
set_option maxHeartbeats 4000000 in
theorem v_X2_init {D : DG} {z0 : Nat} {l : Launch} : ∀ (a0 : Option Nat) (a1 : Int32) (σ : SG), V D z0 l RX2 cX2_init 2 wsX2_init none rmX2_init true tvU 0 [some (va_rf a0), some (.int a1)] [] σ 0 0 (m_X2_init a0 a1 σ) := by
  intro a0 a1 σ
  unfold m_X2_init
  refine V_aload_n (x := a0) dX2_init_0 rfl ?_
  refine V_iload_n (x := a1) dX2_init_1 rfl ?_
  refine V_callI0 (ci := 2) (As := [.int a1]) (st0 := []) (stI := [.int a1, va_rf a0]) (fun _ h => by cases h; exact t_X7_init _ a1 σ) rfl (Nat.le_of_ble_eq_true rfl) rfl (fun s args hts => cwI 1 hts gX2_init_X7_init rfl rfl rfl (hts _ wd_X2_init_0) (hts _ wd_X2_init_1) (hts _ wd_X2_init_2) rfl (by decide +kernel) ⟨Nat.le_of_ble_eq_true rfl, Nat.le_of_ble_eq_true rfl⟩) rfl rfl dX2_init_2 (fun _ σ1 _ => ?_)
  refine V_aload_n (x := a0) dX2_init_5 rfl ?_
  refine V_iconst (v := (0 : Int32)) dX2_init_6 rfl ?_
  refine V_putI fd_X2_init_9_X2 fw_X2_init_X2_3 (fun h => by cases h) dX2_init_7 (fun σ2 hσ2 => ?_)
  refine V_aload_n (x := a0) dX2_init_10 rfl ?_
  refine V_iconst (v := (2 : Int32)) dX2_init_11 rfl ?_
  refine V_putI fd_X2_init_15_X2 fw_X2_init_X2_4 (fun h => by cases h) dX2_init_12 (fun σ3 hσ3 => ?_)
  refine V_aload_n (x := a0) dX2_init_15 rfl ?_
  refine V_iconst (v := (0 : Int32)) dX2_init_16 rfl ?_
  refine V_putZ fd_X2_init_18_X2 fw_X2_init_X2_5 (fun h => by cases h) dX2_init_17 (fun σ4 hσ4 => ?_)
  exact V_vret (fun _ => rfl) rfl (Nat.zero_le _) (Nat.zero_le _) dX2_init_20
theorem t_X2_init {D : DG} {z0 : Nat} {l : Launch} (a : Nat) (a1 : Int32) (σ : SG) : MT D z0 l yX2_init wsX2_init rmX2_init tvU [.ref a, .int a1] σ (m_X2_init (some a) a1 σ) :=
  MT.of (own := RX2) (cc := cX2_init) (nL := 2) (ret := none) (ct := true) (by decide) rfl rfl (fun _ => rfl) (Nat.le_of_ble_eq_true rfl) (by intro v hv; simp only [List.mem_cons, List.not_mem_nil, or_false] at hv; first | (rcases hv with rfl | rfl <;> first | rfl | exact va_rf_cat _) | exact absurd hv (fun h => h)) (v_X2_init (some a) a1 σ)
theorem wd_X1_init_0 : Cond.initialized RX7 ∈ wsX1_init := by decide +kernel
theorem wd_X1_init_1 : Cond.methodLink RX1 3 yX7_init ∈ wsX1_init := by decide +kernel
theorem wd_X1_init_2 : Cond.instanceMethod yX7_init ∈ wsX1_init := by decide +kernel
theorem in_X1_init_X1 : ∀ w ∈ u_ws RX1 TX1 7, w ∈ wsX1_init := by decide +kernel
theorem wd_X1_init_4 : Cond.fieldLink RX1 9 "MainsWords$Lamp" "letter" "I" ∈ wsX1_init := by decide +kernel
theorem fd_X1_init_9_X1 : FD RX1 9 wsX1_init 1 3 := ⟨RX1, "MainsWords$Lamp", TX1, 7, rfl, in_X1_init_X1, by decide, wd_X1_init_4, Or.inl rfl⟩
theorem fw_X1_init_X1_3 : FW RX1 wsX1_init 1 3 .int false := ⟨RX1, TX1, 7, tyX1, rfl, in_X1_init_X1, tyX1_ok, nmX1, rfl, (fun h => by cases h), rfl⟩
theorem wd_X1_init_7 : Cond.fieldLink RX1 15 "MainsWords$Lamp" "unit" "I" ∈ wsX1_init := by decide +kernel
theorem fd_X1_init_15_X1 : FD RX1 15 wsX1_init 1 4 := ⟨RX1, "MainsWords$Lamp", TX1, 7, rfl, in_X1_init_X1, by decide, wd_X1_init_7, Or.inl rfl⟩
theorem fw_X1_init_X1_4 : FW RX1 wsX1_init 1 4 .int false := ⟨RX1, TX1, 7, tyX1, rfl, in_X1_init_X1, tyX1_ok, nmX1, rfl, (fun h => by cases h), rfl⟩
theorem wd_X1_init_10 : Cond.fieldLink RX1 18 "MainsWords$Lamp" "level" "I" ∈ wsX1_init := by decide +kernel
theorem fd_X1_init_18_X1 : FD RX1 18 wsX1_init 1 5 := ⟨RX1, "MainsWords$Lamp", TX1, 7, rfl, in_X1_init_X1, by decide, wd_X1_init_10, Or.inl rfl⟩
theorem fw_X1_init_X1_5 : FW RX1 wsX1_init 1 5 .int false := ⟨RX1, TX1, 7, tyX1, rfl, in_X1_init_X1, tyX1_ok, nmX1, rfl, (fun h => by cases h), rfl⟩
theorem wd_X1_init_13 : Cond.fieldLink RX1 21 "MainsWords$Lamp" "isSelected" "Z" ∈ wsX1_init := by decide +kernel
theorem fd_X1_init_21_X1 : FD RX1 21 wsX1_init 1 6 := ⟨RX1, "MainsWords$Lamp", TX1, 7, rfl, in_X1_init_X1, by decide, wd_X1_init_13, Or.inl rfl⟩
theorem fw_X1_init_X1_6 : FW RX1 wsX1_init 1 6 .boolean false := ⟨RX1, TX1, 7, tyX1, rfl, in_X1_init_X1, tyX1_ok, nmX1, rfl, (fun h => by cases h), rfl⟩
set_option maxRecDepth 100000 in
set_option maxHeartbeats 4000000 in
theorem v_X1_init {D : DG} {z0 : Nat} {l : Launch} : ∀ (a0 : Option Nat) (a1 : Int32) (σ : SG), V D z0 l RX1 cX1_init 2 wsX1_init none rmX1_init true tvU 0 [some (va_rf a0), some (.int a1)] [] σ 0 0 (m_X1_init a0 a1 σ) := by
  intro a0 a1 σ
  unfold m_X1_init
  refine V_aload_n (x := a0) dX1_init_0 rfl ?_
  refine V_iload_n (x := a1) dX1_init_1 rfl ?_
  refine V_callI0 (ci := 1) (As := [.int a1]) (st0 := []) (stI := [.int a1, va_rf a0]) (fun _ h => by cases h; exact t_X7_init _ a1 σ) rfl (Nat.le_of_ble_eq_true rfl) rfl (fun s args hts => cwI 1 hts gX1_init_X7_init rfl rfl rfl (hts _ wd_X1_init_0) (hts _ wd_X1_init_1) (hts _ wd_X1_init_2) rfl (by decide +kernel) ⟨Nat.le_of_ble_eq_true rfl, Nat.le_of_ble_eq_true rfl⟩) rfl rfl dX1_init_2 (fun _ σ1 _ => ?_)
  refine V_aload_n (x := a0) dX1_init_5 rfl ?_
  refine V_iconst (v := (0 : Int32)) dX1_init_6 rfl ?_
  refine V_putI fd_X1_init_9_X1 fw_X1_init_X1_3 (fun h => by cases h) dX1_init_7 (fun σ2 hσ2 => ?_)
  refine V_aload_n (x := a0) dX1_init_10 rfl ?_
  refine V_iconst (v := (0 : Int32)) dX1_init_11 rfl ?_
  refine V_putI fd_X1_init_15_X1 fw_X1_init_X1_4 (fun h => by cases h) dX1_init_12 (fun σ3 hσ3 => ?_)
  refine V_aload_n (x := a0) dX1_init_15 rfl ?_
  refine V_iconst (v := (0 : Int32)) dX1_init_16 rfl ?_
  refine V_putI fd_X1_init_18_X1 fw_X1_init_X1_5 (fun h => by cases h) dX1_init_17 (fun σ4 hσ4 => ?_)
  refine V_aload_n (x := a0) dX1_init_20 rfl ?_
  refine V_iconst (v := (0 : Int32)) dX1_init_21 rfl ?_
  refine V_putZ fd_X1_init_21_X1 fw_X1_init_X1_6 (fun h => by cases h) dX1_init_22 (fun σ5 hσ5 => ?_)
  exact V_vret (fun _ => rfl) rfl (Nat.zero_le _) (Nat.zero_le _) dX1_init_25
theorem t_X1_init {D : DG} {z0 : Nat} {l : Launch} (a : Nat) (a1 : Int32) (σ : SG) : MT D z0 l yX1_init wsX1_init rmX1_init tvU [.ref a, .int a1] σ (m_X1_init (some a) a1 σ) :=
  MT.of (own := RX1) (cc := cX1_init) (nL := 2) (ret := none) (ct := true) (by decide) rfl rfl (fun _ => rfl) (Nat.le_of_ble_eq_true rfl) (by intro v hv; simp only [List.mem_cons, List.not_mem_nil, or_false] at hv; first | (rcases hv with rfl | rfl <;> first | rfl | exact va_rf_cat _) | exact absurd hv (fun h => h)) (v_X1_init (some a) a1 σ)
theorem wd_X4_init_0 : Cond.methodLink RX4 3 objectInit ∈ wsX4_init := by decide +kernel
theorem wd_X4_init_1 : Cond.instanceMethod objectInit ∈ wsX4_init := by decide +kernel
theorem wd_X4_init_2 : Cond.code objectInit ⟨#[0xb1]⟩ 1 none ∈ wsX4_init := by decide +kernel
theorem in_X4_init_X4 : ∀ w ∈ u_ws RX4 TX4 7, w ∈ wsX4_init := by decide +kernel
theorem wd_X4_init_4 : Cond.fieldLink RX4 9 "MainsWords$Receiver" "reads" "Z" ∈ wsX4_init := by decide +kernel
theorem fd_X4_init_9_X4 : FD RX4 9 wsX4_init 4 0 := ⟨RX4, "MainsWords$Receiver", TX4, 7, rfl, in_X4_init_X4, by decide, wd_X4_init_4, Or.inl rfl⟩
theorem fw_X4_init_X4_0 : FW RX4 wsX4_init 4 0 .boolean false := ⟨RX4, TX4, 7, tyX4, rfl, in_X4_init_X4, tyX4_ok, nmX4, rfl, (fun h => by cases h), rfl⟩
theorem wd_X4_init_7 : Cond.fieldLink RX4 15 "MainsWords$Receiver" "latestBits" "I" ∈ wsX4_init := by decide +kernel
theorem fd_X4_init_15_X4 : FD RX4 15 wsX4_init 4 1 := ⟨RX4, "MainsWords$Receiver", TX4, 7, rfl, in_X4_init_X4, by decide, wd_X4_init_7, Or.inl rfl⟩
theorem fw_X4_init_X4_1 : FW RX4 wsX4_init 4 1 .int false := ⟨RX4, TX4, 7, tyX4, rfl, in_X4_init_X4, tyX4_ok, nmX4, rfl, (fun h => by cases h), rfl⟩
theorem wd_X4_init_10 : Cond.fieldLink RX4 19 "MainsWords$Receiver" "bitsRead" "I" ∈ wsX4_init := by decide +kernel
theorem fd_X4_init_19_X4 : FD RX4 19 wsX4_init 4 2 := ⟨RX4, "MainsWords$Receiver", TX4, 7, rfl, in_X4_init_X4, by decide, wd_X4_init_10, Or.inl rfl⟩
theorem fw_X4_init_X4_2 : FW RX4 wsX4_init 4 2 .int false := ⟨RX4, TX4, 7, tyX4, rfl, in_X4_init_X4, tyX4_ok, nmX4, rfl, (fun h => by cases h), rfl⟩
theorem wd_X4_init_13 : Cond.fieldLink RX4 22 "MainsWords$Receiver" "wordSoFar" "I" ∈ wsX4_init := by decide +kernel
theorem fd_X4_init_22_X4 : FD RX4 22 wsX4_init 4 3 := ⟨RX4, "MainsWords$Receiver", TX4, 7, rfl, in_X4_init_X4, by decide, wd_X4_init_13, Or.inl rfl⟩
theorem fw_X4_init_X4_3 : FW RX4 wsX4_init 4 3 .int false := ⟨RX4, TX4, 7, tyX4, rfl, in_X4_init_X4, tyX4_ok, nmX4, rfl, (fun h => by cases h), rfl⟩
theorem wd_X4_init_16 : Cond.fieldLink RX4 25 "MainsWords$Receiver" "lastWord" "I" ∈ wsX4_init := by decide +kernel
theorem fd_X4_init_25_X4 : FD RX4 25 wsX4_init 4 4 := ⟨RX4, "MainsWords$Receiver", TX4, 7, rfl, in_X4_init_X4, by decide, wd_X4_init_16, Or.inl rfl⟩
theorem fw_X4_init_X4_4 : FW RX4 wsX4_init 4 4 .int false := ⟨RX4, TX4, 7, tyX4, rfl, in_X4_init_X4, tyX4_ok, nmX4, rfl, (fun h => by cases h), rfl⟩
theorem wd_X4_init_19 : Cond.fieldLink RX4 28 "MainsWords$Receiver" "toldAt" "I" ∈ wsX4_init := by decide +kernel
theorem fd_X4_init_28_X4 : FD RX4 28 wsX4_init 4 5 := ⟨RX4, "MainsWords$Receiver", TX4, 7, rfl, in_X4_init_X4, by decide, wd_X4_init_19, Or.inl rfl⟩
theorem fw_X4_init_X4_5 : FW RX4 wsX4_init 4 5 .int false := ⟨RX4, TX4, 7, tyX4, rfl, in_X4_init_X4, tyX4_ok, nmX4, rfl, (fun h => by cases h), rfl⟩
theorem wd_X4_init_22 : Cond.fieldLink RX4 31 "MainsWords$Receiver" "openLetters" "I" ∈ wsX4_init := by decide +kernel
theorem fd_X4_init_31_X4 : FD RX4 31 wsX4_init 4 6 := ⟨RX4, "MainsWords$Receiver", TX4, 7, rfl, in_X4_init_X4, by decide, wd_X4_init_22, Or.inl rfl⟩
theorem fw_X4_init_X4_6 : FW RX4 wsX4_init 4 6 .int false := ⟨RX4, TX4, 7, tyX4, rfl, in_X4_init_X4, tyX4_ok, nmX4, rfl, (fun h => by cases h), rfl⟩
set_option maxRecDepth 100000 in
set_option maxHeartbeats 4000000 in
theorem v_X4_init {D : DG} {z0 : Nat} {l : Launch} : ∀ (a0 : Option Nat) (σ : SG), V D z0 l RX4 cX4_init 1 wsX4_init none rmX4_init true tvU 0 [some (va_rf a0)] [] σ 0 0 (m_X4_init a0 σ) := by
  intro a0 σ
  unfold m_X4_init
  refine V_aload_n (x := a0) dX4_init_0 rfl ?_
  refine V_objinitN wd_X4_init_0 wd_X4_init_1 wd_X4_init_2 (by decide) (by decide) dX4_init_1 ?_
  refine V_aload_n (x := a0) dX4_init_4 rfl ?_
  refine V_iconst (v := (0 : Int32)) dX4_init_5 rfl ?_
  refine V_putZ fd_X4_init_9_X4 fw_X4_init_X4_0 (fun h => by cases h) dX4_init_6 (fun σ1 hσ1 => ?_)
  refine V_aload_n (x := a0) dX4_init_9 rfl ?_
  refine V_iconst (v := (0 : Int32)) dX4_init_10 rfl ?_
  refine V_putI fd_X4_init_15_X4 fw_X4_init_X4_1 (fun h => by cases h) dX4_init_11 (fun σ2 hσ2 => ?_)
  refine V_aload_n (x := a0) dX4_init_14 rfl ?_
  refine V_iconst (v := (0 : Int32)) dX4_init_15 rfl ?_
  refine V_putI fd_X4_init_19_X4 fw_X4_init_X4_2 (fun h => by cases h) dX4_init_16 (fun σ3 hσ3 => ?_)
  refine V_aload_n (x := a0) dX4_init_19 rfl ?_
  refine V_iconst (v := (0 : Int32)) dX4_init_20 rfl ?_
  refine V_putI fd_X4_init_22_X4 fw_X4_init_X4_3 (fun h => by cases h) dX4_init_21 (fun σ4 hσ4 => ?_)
  refine V_aload_n (x := a0) dX4_init_24 rfl ?_
  refine V_bipush (v := (-5 : Int32)) dX4_init_25 rfl ?_
  refine V_putI fd_X4_init_25_X4 fw_X4_init_X4_4 (fun h => by cases h) dX4_init_27 (fun σ5 hσ5 => ?_)
  refine V_aload_n (x := a0) dX4_init_30 rfl ?_
  refine V_iconst (v := (0 : Int32)) dX4_init_31 rfl ?_
  refine V_putI fd_X4_init_28_X4 fw_X4_init_X4_5 (fun h => by cases h) dX4_init_32 (fun σ6 hσ6 => ?_)
  refine V_aload_n (x := a0) dX4_init_35 rfl ?_
  refine V_bipush (v := (15 : Int32)) dX4_init_36 rfl ?_
  refine V_putI fd_X4_init_31_X4 fw_X4_init_X4_6 (fun h => by cases h) dX4_init_38 (fun σ7 hσ7 => ?_)
  exact V_vret (fun _ => rfl) rfl (Nat.zero_le _) (Nat.zero_le _) dX4_init_41
theorem t_X4_init {D : DG} {z0 : Nat} {l : Launch} (a : Nat)  (σ : SG) : MT D z0 l yX4_init wsX4_init rmX4_init tvU [.ref a] σ (m_X4_init (some a) σ) :=
  MT.of (own := RX4) (cc := cX4_init) (nL := 1) (ret := none) (ct := true) (by decide) rfl rfl (fun _ => rfl) (Nat.le_of_ble_eq_true rfl) (by intro v hv; simp only [List.mem_cons, List.not_mem_nil, or_false] at hv; first | (rcases hv with rfl <;> first | rfl | exact va_rf_cat _) | exact absurd hv (fun h => h)) (v_X4_init (some a) σ)
theorem in_X3_init_X3 : ∀ w ∈ u_ws RX3 TX3 8, w ∈ wsX3_init := by decide +kernel
theorem wd_X3_init_1 : Cond.fieldLink RX3 31 "MainsWords$Net" "receivers" "[LMainsWords$Receiver;" ∈ wsX3_init := by decide +kernel
theorem fd_X3_init_31_X3 : FD RX3 31 wsX3_init 3 3 := ⟨RX3, "MainsWords$Net", TX3, 8, rfl, in_X3_init_X3, by decide, wd_X3_init_1, Or.inl rfl⟩
theorem in_X3_init_X4 : ∀ w ∈ u_ws RX4 TX4 7, w ∈ wsX3_init := by decide +kernel
theorem wd_X3_init_4 : Cond.classLink RX3 29 RX4 ∈ wsX3_init := by decide +kernel
theorem wd_X3_init_5 : Cond.instantiable RX4 7 ∈ wsX3_init := by decide +kernel
theorem wd_X3_init_6 : Cond.initialized RX4 ∈ wsX3_init := by decide +kernel
theorem wd_X3_init_7 : Cond.instanceMethod yX4_init ∈ wsX3_init := by decide +kernel
theorem wd_X3_init_8 : Cond.fieldLink RX3 25 "MainsWords$Net" "lamps" "[LMainsWords$Lamp;" ∈ wsX3_init := by decide +kernel
theorem fd_X3_init_25_X3 : FD RX3 25 wsX3_init 3 2 := ⟨RX3, "MainsWords$Net", TX3, 8, rfl, in_X3_init_X3, by decide, wd_X3_init_8, Or.inl rfl⟩
theorem in_X3_init_X1 : ∀ w ∈ u_ws RX1 TX1 7, w ∈ wsX3_init := by decide +kernel
theorem wd_X3_init_11 : Cond.classLink RX3 23 RX1 ∈ wsX3_init := by decide +kernel
theorem wd_X3_init_12 : Cond.instantiable RX1 7 ∈ wsX3_init := by decide +kernel
theorem wd_X3_init_13 : Cond.initialized RX1 ∈ wsX3_init := by decide +kernel
theorem wd_X3_init_14 : Cond.methodLink RX3 54 yX1_init ∈ wsX3_init := by decide +kernel
theorem wd_X3_init_15 : Cond.instanceMethod yX1_init ∈ wsX3_init := by decide +kernel
theorem wd_X3_init_16 : Cond.fieldLink RX3 19 "MainsWords$Net" "machines" "[LMainsWords$Machine;" ∈ wsX3_init := by decide +kernel
theorem fd_X3_init_19_X3 : FD RX3 19 wsX3_init 3 1 := ⟨RX3, "MainsWords$Net", TX3, 8, rfl, in_X3_init_X3, by decide, wd_X3_init_16, Or.inl rfl⟩
theorem in_X3_init_X2 : ∀ w ∈ u_ws RX2 TX2 6, w ∈ wsX3_init := by decide +kernel
theorem wd_X3_init_19 : Cond.classLink RX3 17 RX2 ∈ wsX3_init := by decide +kernel
theorem wd_X3_init_20 : Cond.instantiable RX2 6 ∈ wsX3_init := by decide +kernel
theorem wd_X3_init_21 : Cond.initialized RX2 ∈ wsX3_init := by decide +kernel
theorem wd_X3_init_22 : Cond.methodLink RX3 53 yX2_init ∈ wsX3_init := by decide +kernel
theorem wd_X3_init_23 : Cond.instanceMethod yX2_init ∈ wsX3_init := by decide +kernel
theorem wd_X3_init_24 : Cond.fieldLink RX3 11 "MainsWords$Net" "senders" "[LMainsWords$Sender;" ∈ wsX3_init := by decide +kernel
theorem fd_X3_init_11_X3 : FD RX3 11 wsX3_init 3 0 := ⟨RX3, "MainsWords$Net", TX3, 8, rfl, in_X3_init_X3, by decide, wd_X3_init_24, Or.inl rfl⟩
theorem in_X3_init_X6 : ∀ w ∈ u_ws RX6 TX6 10, w ∈ wsX3_init := by decide +kernel
theorem wd_X3_init_27 : Cond.classLink RX3 9 RX6 ∈ wsX3_init := by decide +kernel
theorem wd_X3_init_28 : Cond.instantiable RX6 10 ∈ wsX3_init := by decide +kernel
theorem wd_X3_init_29 : Cond.initialized RX6 ∈ wsX3_init := by decide +kernel
theorem wd_X3_init_30 : Cond.methodLink RX3 50 yX6_init ∈ wsX3_init := by decide +kernel
theorem wd_X3_init_31 : Cond.instanceMethod yX6_init ∈ wsX3_init := by decide +kernel
theorem wd_X3_init_32 : Cond.methodLink RX3 3 objectInit ∈ wsX3_init := by decide +kernel
theorem wd_X3_init_33 : Cond.instanceMethod objectInit ∈ wsX3_init := by decide +kernel
theorem wd_X3_init_34 : Cond.code objectInit ⟨#[0xb1]⟩ 1 none ∈ wsX3_init := by decide +kernel
theorem fw_X3_init_X3_0 : FW RX3 wsX3_init 3 0 (.array (.object "MainsWords$Sender")) true := ⟨RX3, TX3, 8, tyX3, rfl, in_X3_init_X3, tyX3_ok, nmX3, rfl, (fun _ => rfl), rfl⟩
theorem fw_X3_init_X3_1 : FW RX3 wsX3_init 3 1 (.array (.object "MainsWords$Machine")) true := ⟨RX3, TX3, 8, tyX3, rfl, in_X3_init_X3, tyX3_ok, nmX3, rfl, (fun _ => rfl), rfl⟩
theorem fw_X3_init_X3_2 : FW RX3 wsX3_init 3 2 (.array (.object "MainsWords$Lamp")) true := ⟨RX3, TX3, 8, tyX3, rfl, in_X3_init_X3, tyX3_ok, nmX3, rfl, (fun _ => rfl), rfl⟩
theorem fw_X3_init_X3_3 : FW RX3 wsX3_init 3 3 (.array (.object "MainsWords$Receiver")) true := ⟨RX3, TX3, 8, tyX3, rfl, in_X3_init_X3, tyX3_ok, nmX3, rfl, (fun _ => rfl), rfl⟩
theorem wd_X3_init_39 : Cond.arrayClass .int ∈ wsX3_init := by decide +kernel
theorem wd_X3_init_40 : Cond.fieldLink RX3 35 "MainsWords$Net" "settings" "[I" ∈ wsX3_init := by decide +kernel
theorem fd_X3_init_35_X3 : FD RX3 35 wsX3_init 3 4 := ⟨RX3, "MainsWords$Net", TX3, 8, rfl, in_X3_init_X3, by decide, wd_X3_init_40, Or.inl rfl⟩
theorem fw_X3_init_X3_4 : FW RX3 wsX3_init 3 4 (.array .int) true := ⟨RX3, TX3, 8, tyX3, rfl, in_X3_init_X3, tyX3_ok, nmX3, rfl, (fun _ => rfl), rfl⟩
theorem wd_X3_init_43 : Cond.fieldLink RX3 39 "MainsWords$Net" "totals" "[I" ∈ wsX3_init := by decide +kernel
theorem fd_X3_init_39_X3 : FD RX3 39 wsX3_init 3 5 := ⟨RX3, "MainsWords$Net", TX3, 8, rfl, in_X3_init_X3, by decide, wd_X3_init_43, Or.inl rfl⟩
theorem fw_X3_init_X3_5 : FW RX3 wsX3_init 3 5 (.array .int) true := ⟨RX3, TX3, 8, tyX3, rfl, in_X3_init_X3, tyX3_ok, nmX3, rfl, (fun _ => rfl), rfl⟩
theorem wd_X3_init_46 : Cond.fieldLink RX3 42 "MainsWords$Net" "time" "I" ∈ wsX3_init := by decide +kernel
theorem fd_X3_init_42_X3 : FD RX3 42 wsX3_init 3 6 := ⟨RX3, "MainsWords$Net", TX3, 8, rfl, in_X3_init_X3, by decide, wd_X3_init_46, Or.inl rfl⟩
theorem fw_X3_init_X3_6 : FW RX3 wsX3_init 3 6 .int false := ⟨RX3, TX3, 8, tyX3, rfl, in_X3_init_X3, tyX3_ok, nmX3, rfl, (fun h => by cases h), rfl⟩
theorem wd_X3_init_49 : Cond.arrayClass .boolean ∈ wsX3_init := by decide +kernel
theorem wd_X3_init_50 : Cond.fieldLink RX3 46 "MainsWords$Net" "heard" "[Z" ∈ wsX3_init := by decide +kernel
theorem fd_X3_init_46_X3 : FD RX3 46 wsX3_init 3 7 := ⟨RX3, "MainsWords$Net", TX3, 8, rfl, in_X3_init_X3, by decide, wd_X3_init_50, Or.inl rfl⟩
theorem fw_X3_init_X3_7 : FW RX3 wsX3_init 3 7 (.array .boolean) true := ⟨RX3, TX3, 8, tyX3, rfl, in_X3_init_X3, tyX3_ok, nmX3, rfl, (fun _ => rfl), rfl⟩
set_option maxRecDepth 100000 in
set_option maxHeartbeats 4000000 in
theorem v_X3_init_B177 {D : DG} {z0 : Nat} {l : Launch} {szE lim : Nat} (hlim : lim = szE + rmX3_init.cells) {rec177 : Option Nat → Int32 → SG → Option (Unit × SG)} (hrec177 : ∀ (v0 : Option Nat) (v1 : Int32) (σ : SG) (cells slots : Nat), CB rmX3_init szE σ cells slots → V D z0 l RX3 cX3_init 2 wsX3_init none rmX3_init true tvU 177 [some (va_rf v0), some (.int v1)] [] σ cells slots (rec177 v0 v1 σ)) : ∀ (v0 : Option Nat) (v1 : Int32) (σ : SG) (cells slots : Nat), CB rmX3_init szE σ cells slots → V D z0 l RX3 cX3_init 2 wsX3_init none rmX3_init true tvU 177 [some (va_rf v0), some (.int v1)] [] σ cells slots (m_X3_init_B177 lim rec177 v0 v1 σ) := by
  intro v0 v1 σ cells slots hB
  unfold m_X3_init_B177
  refine V_iload_n (x := v1) dX3_init_177 rfl ?_
  refine V_aload_n (x := v0) dX3_init_178 rfl ?_
  refine V_getR fd_X3_init_31_X3 dX3_init_179 (fun x1 => ?_)
  refine V_alen dX3_init_182 (fun x2 => ?_)
  refine V_icmp_ge (tgt := 205) (x := v1) (y := x2) dX3_init_183 (by decide) (fun hc3 => ?_) (fun hc3 => ?_)
  · exact V_vretA hB hlim (fun _ => rfl) rfl dX3_init_205
  · refine V_aload_n (x := v0) dX3_init_186 rfl ?_
    refine V_getR fd_X3_init_31_X3 dX3_init_187 (fun x4 => ?_)
    refine V_iload_n (x := v1) dX3_init_190 rfl ?_
    refine V_new hB hlim (ty0 := tyX4) (C := RX4) (T := TX4) (N := 7) rfl in_X3_init_X4 tyX4_ok wd_X3_init_4 wd_X3_init_5 wd_X3_init_6 (fun j hj => ?_) (by decide) dX3_init_191 (fun x5 σ6 _ _ hB7 => ?_)
    · exact dfl_X4 j hj
    refine V_dup dX3_init_194 (va_rf_cat _) ?_
    refine V.room hB7 hlim (fun hr1 hr2 => ?_)
    refine V_callIN (host := "MainsWords") (As := []) (st0 := [va_rf x5, .int v1, va_rf x4]) (stI := [va_rf x5, va_rf x5, .int v1, va_rf x4]) (fun _ h => by cases h; exact t_X4_init _ σ6) rfl (by simp only [List.map_cons, List.map_nil, List.sum_cons, List.sum_nil, va_rf_cat, catI, catF]; decide) rfl (by decide +kernel) (fun s args hts hnw => ⟨va_cnB 0 hts gX3_init_X4_init_n55 rfl rfl rfl hnw (hts _ wd_X3_init_6) (by decide +kernel) ⟨Nat.le_of_ble_eq_true rfl, Nat.le_of_ble_eq_true rfl⟩, rfl, hts _ wd_X3_init_7⟩) ⟨hr1, hr2⟩ dX3_init_195 (fun _ σ8 _ => ?_)
    refine V.same (fun hs9 => ?_)
    refine V_aastore dX3_init_198 (fun σ10 hσ10 => ?_)
    refine V_iinc (x := v1) (v := (v1 + 1)) (ls' := [some (va_rf v0), some (.int (v1 + 1))]) dX3_init_199 rfl rfl (by decide) rfl ?_
    refine V_goto (tgt := 177) dX3_init_202 (by decide) ?_
    exact hrec177 v0 ((v1 + 1)) σ10 _ _ (CB.go (CB.call hB7 rfl rfl hs9) hσ10)
theorem v_X3_init_L177 {D : DG} {z0 : Nat} {l : Launch} {szE lim : Nat} (hlim : lim = szE + rmX3_init.cells) : ∀ (n : Nat) (v0 : Option Nat) (v1 : Int32) (σ : SG) (cells slots : Nat), CB rmX3_init szE σ cells slots → V D z0 l RX3 cX3_init 2 wsX3_init none rmX3_init true tvU 177 [some (va_rf v0), some (.int v1)] [] σ cells slots (m_X3_init_L177 lim n v0 v1 σ) := by
  intro n
  induction n with
  | zero => intros; exact V_none
  | succ n ih => exact v_X3_init_B177 hlim  ih
set_option maxRecDepth 100000 in
set_option maxHeartbeats 4000000 in
theorem v_X3_init_B146 {D : DG} {z0 : Nat} {l : Launch} {szE lim : Nat} (hlim : lim = szE + rmX3_init.cells) {rec146 : Option Nat → Int32 → SG → Option (Unit × SG)} (hrec146 : ∀ (v0 : Option Nat) (v1 : Int32) (σ : SG) (cells slots : Nat), CB rmX3_init szE σ cells slots → V D z0 l RX3 cX3_init 2 wsX3_init none rmX3_init true tvU 146 [some (va_rf v0), some (.int v1)] [] σ cells slots (rec146 v0 v1 σ)) : ∀ (v0 : Option Nat) (v1 : Int32) (σ : SG) (cells slots : Nat), CB rmX3_init szE σ cells slots → V D z0 l RX3 cX3_init 2 wsX3_init none rmX3_init true tvU 146 [some (va_rf v0), some (.int v1)] [] σ cells slots (m_X3_init_B146 lim rec146 v0 v1 σ) := by
  intro v0 v1 σ cells slots hB
  unfold m_X3_init_B146
  refine V_iload_n (x := v1) dX3_init_146 rfl ?_
  refine V_aload_n (x := v0) dX3_init_147 rfl ?_
  refine V_getR fd_X3_init_25_X3 dX3_init_148 (fun x11 => ?_)
  refine V_alen dX3_init_151 (fun x12 => ?_)
  refine V_icmp_ge (tgt := 175) (x := v1) (y := x12) dX3_init_152 (by decide) (fun hc13 => ?_) (fun hc13 => ?_)
  · refine V_iconst (v := (0 : Int32)) dX3_init_175 rfl ?_
    refine V_istore_n (x := (0 : Int32)) (ls' := [some (va_rf v0), some (.int (0 : Int32))]) dX3_init_176 (by decide) rfl ?_
    exact v_X3_init_L177 hlim  1000 v0 ((0 : Int32)) σ _ _ hB
  · refine V_aload_n (x := v0) dX3_init_155 rfl ?_
    refine V_getR fd_X3_init_25_X3 dX3_init_156 (fun x14 => ?_)
    refine V_iload_n (x := v1) dX3_init_159 rfl ?_
    refine V_new hB hlim (ty0 := tyX1) (C := RX1) (T := TX1) (N := 7) rfl in_X3_init_X1 tyX1_ok wd_X3_init_11 wd_X3_init_12 wd_X3_init_13 (fun j hj => ?_) (by decide) dX3_init_160 (fun x15 σ16 _ _ hB17 => ?_)
    · exact dfl_X1 j hj
    refine V_dup dX3_init_163 (va_rf_cat _) ?_
    refine V_iload_n (x := v1) dX3_init_164 rfl ?_
    refine V.room hB17 hlim (fun hr1 hr2 => ?_)
    refine V_callI (ci := 1) (As := [.int v1]) (st0 := [va_rf x15, .int v1, va_rf x14]) (stI := [.int v1, va_rf x15, va_rf x15, .int v1, va_rf x14]) (fun _ h => by cases h; exact t_X1_init _ v1 σ16) rfl (by simp only [List.map_cons, List.map_nil, List.sum_cons, List.sum_nil, va_rf_cat, catI, catF]; decide) rfl (fun s args hts => cwI 1 hts gX3_init_X1_init rfl rfl rfl (hts _ wd_X3_init_13) (hts _ wd_X3_init_14) (hts _ wd_X3_init_15) rfl (by decide +kernel) ⟨Nat.le_of_ble_eq_true rfl, Nat.le_of_ble_eq_true rfl⟩) ⟨hr1, hr2⟩ dX3_init_165 (fun _ σ18 _ => ?_)
    refine V.same (fun hs19 => ?_)
    refine V_aastore dX3_init_168 (fun σ20 hσ20 => ?_)
    refine V_iinc (x := v1) (v := (v1 + 1)) (ls' := [some (va_rf v0), some (.int (v1 + 1))]) dX3_init_169 rfl rfl (by decide) rfl ?_
    refine V_goto (tgt := 146) dX3_init_172 (by decide) ?_
    exact hrec146 v0 ((v1 + 1)) σ20 _ _ (CB.go (CB.call hB17 rfl rfl hs19) hσ20)
theorem v_X3_init_L146 {D : DG} {z0 : Nat} {l : Launch} {szE lim : Nat} (hlim : lim = szE + rmX3_init.cells) : ∀ (n : Nat) (v0 : Option Nat) (v1 : Int32) (σ : SG) (cells slots : Nat), CB rmX3_init szE σ cells slots → V D z0 l RX3 cX3_init 2 wsX3_init none rmX3_init true tvU 146 [some (va_rf v0), some (.int v1)] [] σ cells slots (m_X3_init_L146 lim n v0 v1 σ) := by
  intro n
  induction n with
  | zero => intros; exact V_none
  | succ n ih => exact v_X3_init_B146 hlim  ih
set_option maxRecDepth 100000 in
set_option maxHeartbeats 4000000 in
theorem v_X3_init_B115 {D : DG} {z0 : Nat} {l : Launch} {szE lim : Nat} (hlim : lim = szE + rmX3_init.cells) {rec115 : Option Nat → Int32 → SG → Option (Unit × SG)} (hrec115 : ∀ (v0 : Option Nat) (v1 : Int32) (σ : SG) (cells slots : Nat), CB rmX3_init szE σ cells slots → V D z0 l RX3 cX3_init 2 wsX3_init none rmX3_init true tvU 115 [some (va_rf v0), some (.int v1)] [] σ cells slots (rec115 v0 v1 σ)) : ∀ (v0 : Option Nat) (v1 : Int32) (σ : SG) (cells slots : Nat), CB rmX3_init szE σ cells slots → V D z0 l RX3 cX3_init 2 wsX3_init none rmX3_init true tvU 115 [some (va_rf v0), some (.int v1)] [] σ cells slots (m_X3_init_B115 lim rec115 v0 v1 σ) := by
  intro v0 v1 σ cells slots hB
  unfold m_X3_init_B115
  refine V_iload_n (x := v1) dX3_init_115 rfl ?_
  refine V_aload_n (x := v0) dX3_init_116 rfl ?_
  refine V_getR fd_X3_init_19_X3 dX3_init_117 (fun x21 => ?_)
  refine V_alen dX3_init_120 (fun x22 => ?_)
  refine V_icmp_ge (tgt := 144) (x := v1) (y := x22) dX3_init_121 (by decide) (fun hc23 => ?_) (fun hc23 => ?_)
  · refine V_iconst (v := (0 : Int32)) dX3_init_144 rfl ?_
    refine V_istore_n (x := (0 : Int32)) (ls' := [some (va_rf v0), some (.int (0 : Int32))]) dX3_init_145 (by decide) rfl ?_
    exact v_X3_init_L146 hlim  1000 v0 ((0 : Int32)) σ _ _ hB
  · refine V_aload_n (x := v0) dX3_init_124 rfl ?_
    refine V_getR fd_X3_init_19_X3 dX3_init_125 (fun x24 => ?_)
    refine V_iload_n (x := v1) dX3_init_128 rfl ?_
    refine V_new hB hlim (ty0 := tyX2) (C := RX2) (T := TX2) (N := 6) rfl in_X3_init_X2 tyX2_ok wd_X3_init_19 wd_X3_init_20 wd_X3_init_21 (fun j hj => ?_) (by decide) dX3_init_129 (fun x25 σ26 _ _ hB27 => ?_)
    · exact dfl_X2 j hj
    refine V_dup dX3_init_132 (va_rf_cat _) ?_
    refine V_iload_n (x := v1) dX3_init_133 rfl ?_
    refine V.room hB27 hlim (fun hr1 hr2 => ?_)
    refine V_callI (ci := 2) (As := [.int v1]) (st0 := [va_rf x25, .int v1, va_rf x24]) (stI := [.int v1, va_rf x25, va_rf x25, .int v1, va_rf x24]) (fun _ h => by cases h; exact t_X2_init _ v1 σ26) rfl (by simp only [List.map_cons, List.map_nil, List.sum_cons, List.sum_nil, va_rf_cat, catI, catF]; decide) rfl (fun s args hts => cwI 1 hts gX3_init_X2_init rfl rfl rfl (hts _ wd_X3_init_21) (hts _ wd_X3_init_22) (hts _ wd_X3_init_23) rfl (by decide +kernel) ⟨Nat.le_of_ble_eq_true rfl, Nat.le_of_ble_eq_true rfl⟩) ⟨hr1, hr2⟩ dX3_init_134 (fun _ σ28 _ => ?_)
    refine V.same (fun hs29 => ?_)
    refine V_aastore dX3_init_137 (fun σ30 hσ30 => ?_)
    refine V_iinc (x := v1) (v := (v1 + 1)) (ls' := [some (va_rf v0), some (.int (v1 + 1))]) dX3_init_138 rfl rfl (by decide) rfl ?_
    refine V_goto (tgt := 115) dX3_init_141 (by decide) ?_
    exact hrec115 v0 ((v1 + 1)) σ30 _ _ (CB.go (CB.call hB27 rfl rfl hs29) hσ30)
theorem v_X3_init_L115 {D : DG} {z0 : Nat} {l : Launch} {szE lim : Nat} (hlim : lim = szE + rmX3_init.cells) : ∀ (n : Nat) (v0 : Option Nat) (v1 : Int32) (σ : SG) (cells slots : Nat), CB rmX3_init szE σ cells slots → V D z0 l RX3 cX3_init 2 wsX3_init none rmX3_init true tvU 115 [some (va_rf v0), some (.int v1)] [] σ cells slots (m_X3_init_L115 lim n v0 v1 σ) := by
  intro n
  induction n with
  | zero => intros; exact V_none
  | succ n ih => exact v_X3_init_B115 hlim  ih
set_option maxRecDepth 100000 in
set_option maxHeartbeats 4000000 in
theorem v_X3_init_B84 {D : DG} {z0 : Nat} {l : Launch} {szE lim : Nat} (hlim : lim = szE + rmX3_init.cells) {rec84 : Option Nat → Int32 → SG → Option (Unit × SG)} (hrec84 : ∀ (v0 : Option Nat) (v1 : Int32) (σ : SG) (cells slots : Nat), CB rmX3_init szE σ cells slots → V D z0 l RX3 cX3_init 2 wsX3_init none rmX3_init true tvU 84 [some (va_rf v0), some (.int v1)] [] σ cells slots (rec84 v0 v1 σ)) : ∀ (v0 : Option Nat) (v1 : Int32) (σ : SG) (cells slots : Nat), CB rmX3_init szE σ cells slots → V D z0 l RX3 cX3_init 2 wsX3_init none rmX3_init true tvU 84 [some (va_rf v0), some (.int v1)] [] σ cells slots (m_X3_init_B84 lim rec84 v0 v1 σ) := by
  intro v0 v1 σ cells slots hB
  unfold m_X3_init_B84
  refine V_iload_n (x := v1) dX3_init_84 rfl ?_
  refine V_aload_n (x := v0) dX3_init_85 rfl ?_
  refine V_getR fd_X3_init_11_X3 dX3_init_86 (fun x31 => ?_)
  refine V_alen dX3_init_89 (fun x32 => ?_)
  refine V_icmp_ge (tgt := 113) (x := v1) (y := x32) dX3_init_90 (by decide) (fun hc33 => ?_) (fun hc33 => ?_)
  · refine V_iconst (v := (0 : Int32)) dX3_init_113 rfl ?_
    refine V_istore_n (x := (0 : Int32)) (ls' := [some (va_rf v0), some (.int (0 : Int32))]) dX3_init_114 (by decide) rfl ?_
    exact v_X3_init_L115 hlim  1000 v0 ((0 : Int32)) σ _ _ hB
  · refine V_aload_n (x := v0) dX3_init_93 rfl ?_
    refine V_getR fd_X3_init_11_X3 dX3_init_94 (fun x34 => ?_)
    refine V_iload_n (x := v1) dX3_init_97 rfl ?_
    refine V_new hB hlim (ty0 := tyX6) (C := RX6) (T := TX6) (N := 10) rfl in_X3_init_X6 tyX6_ok wd_X3_init_27 wd_X3_init_28 wd_X3_init_29 (fun j hj => ?_) (by decide) dX3_init_98 (fun x35 σ36 _ _ hB37 => ?_)
    · exact dfl_X6 j hj
    refine V_dup dX3_init_101 (va_rf_cat _) ?_
    refine V_iload_n (x := v1) dX3_init_102 rfl ?_
    refine V.room hB37 hlim (fun hr1 hr2 => ?_)
    refine V_callI (ci := 6) (As := [.int v1]) (st0 := [va_rf x35, .int v1, va_rf x34]) (stI := [.int v1, va_rf x35, va_rf x35, .int v1, va_rf x34]) (fun _ h => by cases h; exact t_X6_init _ v1 σ36) rfl (by simp only [List.map_cons, List.map_nil, List.sum_cons, List.sum_nil, va_rf_cat, catI, catF]; decide) rfl (fun s args hts => cwI 1 hts gX3_init_X6_init rfl rfl rfl (hts _ wd_X3_init_29) (hts _ wd_X3_init_30) (hts _ wd_X3_init_31) rfl (by decide +kernel) ⟨Nat.le_of_ble_eq_true rfl, Nat.le_of_ble_eq_true rfl⟩) ⟨hr1, hr2⟩ dX3_init_103 (fun _ σ38 _ => ?_)
    refine V.same (fun hs39 => ?_)
    refine V_aastore dX3_init_106 (fun σ40 hσ40 => ?_)
    refine V_iinc (x := v1) (v := (v1 + 1)) (ls' := [some (va_rf v0), some (.int (v1 + 1))]) dX3_init_107 rfl rfl (by decide) rfl ?_
    refine V_goto (tgt := 84) dX3_init_110 (by decide) ?_
    exact hrec84 v0 ((v1 + 1)) σ40 _ _ (CB.go (CB.call hB37 rfl rfl hs39) hσ40)
theorem v_X3_init_L84 {D : DG} {z0 : Nat} {l : Launch} {szE lim : Nat} (hlim : lim = szE + rmX3_init.cells) : ∀ (n : Nat) (v0 : Option Nat) (v1 : Int32) (σ : SG) (cells slots : Nat), CB rmX3_init szE σ cells slots → V D z0 l RX3 cX3_init 2 wsX3_init none rmX3_init true tvU 84 [some (va_rf v0), some (.int v1)] [] σ cells slots (m_X3_init_L84 lim n v0 v1 σ) := by
  intro n
  induction n with
  | zero => intros; exact V_none
  | succ n ih => exact v_X3_init_B84 hlim  ih
set_option maxRecDepth 100000 in
set_option maxHeartbeats 4000000 in
theorem v_X3_init_e {D : DG} {z0 : Nat} {l : Launch} {szE lim : Nat} (hlim : lim = szE + rmX3_init.cells) : ∀ (a0 : Option Nat) (σ : SG) (cells slots : Nat), CB rmX3_init szE σ cells slots → V D z0 l RX3 cX3_init 2 wsX3_init none rmX3_init true tvU 0 [some (va_rf a0), none] [] σ cells slots (m_X3_init_e lim a0 σ) := by
  intro a0 σ cells slots hB
  unfold m_X3_init_e
  refine V_aload_n (x := a0) dX3_init_0 rfl ?_
  refine V_objinitN wd_X3_init_32 wd_X3_init_33 wd_X3_init_34 (by decide) (by decide) dX3_init_1 ?_
  refine V_aload_n (x := a0) dX3_init_4 rfl ?_
  refine V_iconst (v := (5 : Int32)) dX3_init_5 rfl ?_
  refine V_newQ (C := "MainsWords$Sender") hB hlim rfl (by decide) wd_X3_init_27 dX3_init_6 (fun x41 σ42 _ _ hB43 => ?_)
  refine V_putA fd_X3_init_11_X3 fw_X3_init_X3_0 (fun _ => rfl) dX3_init_9 (fun σ44 hσ44 => ?_)
  refine V_aload_n (x := a0) dX3_init_12 rfl ?_
  refine V_iconst (v := (4 : Int32)) dX3_init_13 rfl ?_
  refine V_newQ (C := "MainsWords$Machine") (CB.go hB43 hσ44) hlim rfl (by decide) wd_X3_init_19 dX3_init_14 (fun x45 σ46 _ _ hB47 => ?_)
  refine V_putA fd_X3_init_19_X3 fw_X3_init_X3_1 (fun _ => rfl) dX3_init_17 (fun σ48 hσ48 => ?_)
  refine V_aload_n (x := a0) dX3_init_20 rfl ?_
  refine V_bipush (v := (8 : Int32)) dX3_init_21 rfl ?_
  refine V_newQ (C := "MainsWords$Lamp") (CB.go hB47 hσ48) hlim rfl (by decide) wd_X3_init_11 dX3_init_23 (fun x49 σ50 _ _ hB51 => ?_)
  refine V_putA fd_X3_init_25_X3 fw_X3_init_X3_2 (fun _ => rfl) dX3_init_26 (fun σ52 hσ52 => ?_)
  refine V_aload_n (x := a0) dX3_init_29 rfl ?_
  refine V_bipush (v := (6 : Int32)) dX3_init_30 rfl ?_
  refine V_newQ (C := "MainsWords$Receiver") (CB.go hB51 hσ52) hlim rfl (by decide) wd_X3_init_4 dX3_init_32 (fun x53 σ54 _ _ hB55 => ?_)
  refine V_putA fd_X3_init_31_X3 fw_X3_init_X3_3 (fun _ => rfl) dX3_init_35 (fun σ56 hσ56 => ?_)
  refine V_aload_n (x := a0) dX3_init_38 rfl ?_
  refine V_iconst (v := (4 : Int32)) dX3_init_39 rfl ?_
  refine V_newA (at0 := .int) (ty := .int) (CB.go hB55 hσ56) hlim rfl rfl (by decide) rfl (fun _ _ => rfl) wd_X3_init_39 dX3_init_40 (fun x57 σ58 _ _ hB59 => ?_)
  refine V_dup dX3_init_42 (va_rf_cat _) ?_
  refine V_iconst (v := (0 : Int32)) dX3_init_43 rfl ?_
  refine V_bipush (v := (6 : Int32)) dX3_init_44 rfl ?_
  refine V_iastore dX3_init_46 (fun σ60 hσ60 => ?_)
  refine V_dup dX3_init_47 (va_rf_cat _) ?_
  refine V_iconst (v := (1 : Int32)) dX3_init_48 rfl ?_
  refine V_iconst (v := (5 : Int32)) dX3_init_49 rfl ?_
  refine V_iastore dX3_init_50 (fun σ61 hσ61 => ?_)
  refine V_dup dX3_init_51 (va_rf_cat _) ?_
  refine V_iconst (v := (2 : Int32)) dX3_init_52 rfl ?_
  refine V_iconst (v := (4 : Int32)) dX3_init_53 rfl ?_
  refine V_iastore dX3_init_54 (fun σ62 hσ62 => ?_)
  refine V_dup dX3_init_55 (va_rf_cat _) ?_
  refine V_iconst (v := (3 : Int32)) dX3_init_56 rfl ?_
  refine V_iconst (v := (2 : Int32)) dX3_init_57 rfl ?_
  refine V_iastore dX3_init_58 (fun σ63 hσ63 => ?_)
  refine V_putA fd_X3_init_35_X3 fw_X3_init_X3_4 (fun _ => rfl) dX3_init_59 (fun σ64 hσ64 => ?_)
  refine V_aload_n (x := a0) dX3_init_62 rfl ?_
  refine V_iconst (v := (5 : Int32)) dX3_init_63 rfl ?_
  refine V_newA (at0 := .int) (ty := .int) (CB.go (CB.go (CB.go (CB.go (CB.go hB59 hσ60) hσ61) hσ62) hσ63) hσ64) hlim rfl rfl (by decide) rfl (fun _ _ => rfl) wd_X3_init_39 dX3_init_64 (fun x65 σ66 _ _ hB67 => ?_)
  refine V_putA fd_X3_init_39_X3 fw_X3_init_X3_5 (fun _ => rfl) dX3_init_66 (fun σ68 hσ68 => ?_)
  refine V_aload_n (x := a0) dX3_init_69 rfl ?_
  refine V_iconst (v := (0 : Int32)) dX3_init_70 rfl ?_
  refine V_putI fd_X3_init_42_X3 fw_X3_init_X3_6 (fun h => by cases h) dX3_init_71 (fun σ69 hσ69 => ?_)
  refine V_aload_n (x := a0) dX3_init_74 rfl ?_
  refine V_bipush (v := (6 : Int32)) dX3_init_75 rfl ?_
  refine V_newA (at0 := .boolean) (ty := .boolean) (CB.go (CB.go hB67 hσ68) hσ69) hlim rfl rfl (by decide) rfl (fun _ _ => rfl) wd_X3_init_49 dX3_init_77 (fun x70 σ71 _ _ hB72 => ?_)
  refine V_putA fd_X3_init_46_X3 fw_X3_init_X3_7 (fun _ => rfl) dX3_init_79 (fun σ73 hσ73 => ?_)
  refine V_iconst (v := (0 : Int32)) dX3_init_82 rfl ?_
  refine V_istore_n (x := (0 : Int32)) (ls' := [some (va_rf a0), some (.int (0 : Int32))]) dX3_init_83 (by decide) rfl ?_
  exact v_X3_init_L84 hlim  1000 a0 ((0 : Int32)) σ73 _ _ (CB.go hB72 hσ73)
theorem t_X3_init {D : DG} {z0 : Nat} {l : Launch} (a : Nat)  (σ : SG) : MT D z0 l yX3_init wsX3_init rmX3_init tvU [.ref a] σ (m_X3_init (some a) σ) :=
  MT.of (own := RX3) (cc := cX3_init) (nL := 2) (ret := none) (ct := true) (by decide) rfl rfl (fun _ => rfl) (Nat.le_of_ble_eq_true rfl) (by intro v hv; simp only [List.mem_cons, List.not_mem_nil, or_false] at hv; first | (rcases hv with rfl <;> first | rfl | exact va_rf_cat _) | exact absurd hv (fun h => h)) (v_X3_init_e rfl (some a) σ 0 0 (CB.start rfl))
theorem in_X0_init_X0 : ∀ w ∈ u_ws RX0 TX0 2, w ∈ wsX0_init := by decide +kernel
theorem wd_X0_init_1 : Cond.fieldLink RX0 11 "MainsWords$History" "states" "[LMainsWords$Net;" ∈ wsX0_init := by decide +kernel
theorem fd_X0_init_11_X0 : FD RX0 11 wsX0_init 0 0 := ⟨RX0, "MainsWords$History", TX0, 2, rfl, in_X0_init_X0, by decide, wd_X0_init_1, Or.inl rfl⟩
theorem in_X0_init_X3 : ∀ w ∈ u_ws RX3 TX3 8, w ∈ wsX0_init := by decide +kernel
theorem wd_X0_init_4 : Cond.classLink RX0 9 RX3 ∈ wsX0_init := by decide +kernel
theorem wd_X0_init_5 : Cond.instantiable RX3 8 ∈ wsX0_init := by decide +kernel
theorem wd_X0_init_6 : Cond.initialized RX3 ∈ wsX0_init := by decide +kernel
theorem wd_X0_init_7 : Cond.methodLink RX0 21 yX3_init ∈ wsX0_init := by decide +kernel
theorem wd_X0_init_8 : Cond.instanceMethod yX3_init ∈ wsX0_init := by decide +kernel
theorem wd_X0_init_9 : Cond.methodLink RX0 3 objectInit ∈ wsX0_init := by decide +kernel
theorem wd_X0_init_10 : Cond.instanceMethod objectInit ∈ wsX0_init := by decide +kernel
theorem wd_X0_init_11 : Cond.code objectInit ⟨#[0xb1]⟩ 1 none ∈ wsX0_init := by decide +kernel
theorem fw_X0_init_X0_0 : FW RX0 wsX0_init 0 0 (.array (.object "MainsWords$Net")) true := ⟨RX0, TX0, 2, tyX0, rfl, in_X0_init_X0, tyX0_ok, nmX0, rfl, (fun _ => rfl), rfl⟩
theorem wd_X0_init_13 : Cond.fieldLink RX0 17 "MainsWords$History" "kept" "I" ∈ wsX0_init := by decide +kernel
theorem fd_X0_init_17_X0 : FD RX0 17 wsX0_init 0 1 := ⟨RX0, "MainsWords$History", TX0, 2, rfl, in_X0_init_X0, by decide, wd_X0_init_13, Or.inl rfl⟩
theorem fw_X0_init_X0_1 : FW RX0 wsX0_init 0 1 .int false := ⟨RX0, TX0, 2, tyX0, rfl, in_X0_init_X0, tyX0_ok, nmX0, rfl, (fun h => by cases h), rfl⟩
set_option maxRecDepth 100000 in
set_option maxHeartbeats 4000000 in
theorem v_X0_init_B19 {D : DG} {z0 : Nat} {l : Launch} {szE lim : Nat} (hlim : lim = szE + rmX0_init.cells) {rec19 : Option Nat → Int32 → SG → Option (Unit × SG)} (hrec19 : ∀ (v0 : Option Nat) (v1 : Int32) (σ : SG) (cells slots : Nat), CB rmX0_init szE σ cells slots → V D z0 l RX0 cX0_init 2 wsX0_init none rmX0_init true tvU 19 [some (va_rf v0), some (.int v1)] [] σ cells slots (rec19 v0 v1 σ)) : ∀ (v0 : Option Nat) (v1 : Int32) (σ : SG) (cells slots : Nat), CB rmX0_init szE σ cells slots → V D z0 l RX0 cX0_init 2 wsX0_init none rmX0_init true tvU 19 [some (va_rf v0), some (.int v1)] [] σ cells slots (m_X0_init_B19 lim rec19 v0 v1 σ) := by
  intro v0 v1 σ cells slots hB
  unfold m_X0_init_B19
  refine V_iload_n (x := v1) dX0_init_19 rfl ?_
  refine V_aload_n (x := v0) dX0_init_20 rfl ?_
  refine V_getR fd_X0_init_11_X0 dX0_init_21 (fun x1 => ?_)
  refine V_alen dX0_init_24 (fun x2 => ?_)
  refine V_icmp_ge (tgt := 47) (x := v1) (y := x2) dX0_init_25 (by decide) (fun hc3 => ?_) (fun hc3 => ?_)
  · exact V_vretA hB hlim (fun _ => rfl) rfl dX0_init_47
  · refine V_aload_n (x := v0) dX0_init_28 rfl ?_
    refine V_getR fd_X0_init_11_X0 dX0_init_29 (fun x4 => ?_)
    refine V_iload_n (x := v1) dX0_init_32 rfl ?_
    refine V_new hB hlim (ty0 := tyX3) (C := RX3) (T := TX3) (N := 8) rfl in_X0_init_X3 tyX3_ok wd_X0_init_4 wd_X0_init_5 wd_X0_init_6 (fun j hj => ?_) (by decide) dX0_init_33 (fun x5 σ6 _ _ hB7 => ?_)
    · exact dfl_X3 j hj
    refine V_dup dX0_init_36 (va_rf_cat _) ?_
    refine V.room hB7 hlim (fun hr1 hr2 => ?_)
    refine V_callI (ci := 3) (As := []) (st0 := [va_rf x5, .int v1, va_rf x4]) (stI := [va_rf x5, va_rf x5, .int v1, va_rf x4]) (fun _ h => by cases h; exact t_X3_init _ σ6) rfl (by simp only [List.map_cons, List.map_nil, List.sum_cons, List.sum_nil, va_rf_cat, catI, catF]; decide) rfl (fun s args hts => cwI 0 hts gX0_init_X3_init rfl rfl rfl (hts _ wd_X0_init_6) (hts _ wd_X0_init_7) (hts _ wd_X0_init_8) rfl (by decide +kernel) ⟨Nat.le_of_ble_eq_true rfl, Nat.le_of_ble_eq_true rfl⟩) ⟨hr1, hr2⟩ dX0_init_37 (fun _ σ8 _ => ?_)
    refine V.same (fun hs9 => ?_)
    refine V_aastore dX0_init_40 (fun σ10 hσ10 => ?_)
    refine V_iinc (x := v1) (v := (v1 + 1)) (ls' := [some (va_rf v0), some (.int (v1 + 1))]) dX0_init_41 rfl rfl (by decide) rfl ?_
    refine V_goto (tgt := 19) dX0_init_44 (by decide) ?_
    exact hrec19 v0 ((v1 + 1)) σ10 _ _ (CB.go (CB.call hB7 rfl rfl hs9) hσ10)
theorem v_X0_init_L19 {D : DG} {z0 : Nat} {l : Launch} {szE lim : Nat} (hlim : lim = szE + rmX0_init.cells) : ∀ (n : Nat) (v0 : Option Nat) (v1 : Int32) (σ : SG) (cells slots : Nat), CB rmX0_init szE σ cells slots → V D z0 l RX0 cX0_init 2 wsX0_init none rmX0_init true tvU 19 [some (va_rf v0), some (.int v1)] [] σ cells slots (m_X0_init_L19 lim n v0 v1 σ) := by
  intro n
  induction n with
  | zero => intros; exact V_none
  | succ n ih => exact v_X0_init_B19 hlim  ih
set_option maxRecDepth 100000 in
set_option maxHeartbeats 4000000 in
theorem v_X0_init_e {D : DG} {z0 : Nat} {l : Launch} {szE lim : Nat} (hlim : lim = szE + rmX0_init.cells) : ∀ (a0 : Option Nat) (σ : SG) (cells slots : Nat), CB rmX0_init szE σ cells slots → V D z0 l RX0 cX0_init 2 wsX0_init none rmX0_init true tvU 0 [some (va_rf a0), none] [] σ cells slots (m_X0_init_e lim a0 σ) := by
  intro a0 σ cells slots hB
  unfold m_X0_init_e
  refine V_aload_n (x := a0) dX0_init_0 rfl ?_
  refine V_objinitN wd_X0_init_9 wd_X0_init_10 wd_X0_init_11 (by decide) (by decide) dX0_init_1 ?_
  refine V_aload_n (x := a0) dX0_init_4 rfl ?_
  refine V_iconst (v := (4 : Int32)) dX0_init_5 rfl ?_
  refine V_newQ (C := "MainsWords$Net") hB hlim rfl (by decide) wd_X0_init_4 dX0_init_6 (fun x11 σ12 _ _ hB13 => ?_)
  refine V_putA fd_X0_init_11_X0 fw_X0_init_X0_0 (fun _ => rfl) dX0_init_9 (fun σ14 hσ14 => ?_)
  refine V_aload_n (x := a0) dX0_init_12 rfl ?_
  refine V_iconst (v := (0 : Int32)) dX0_init_13 rfl ?_
  refine V_putI fd_X0_init_17_X0 fw_X0_init_X0_1 (fun h => by cases h) dX0_init_14 (fun σ15 hσ15 => ?_)
  refine V_iconst (v := (0 : Int32)) dX0_init_17 rfl ?_
  refine V_istore_n (x := (0 : Int32)) (ls' := [some (va_rf a0), some (.int (0 : Int32))]) dX0_init_18 (by decide) rfl ?_
  exact v_X0_init_L19 hlim  1000 a0 ((0 : Int32)) σ15 _ _ (CB.go (CB.go hB13 hσ14) hσ15)
theorem t_X0_init {D : DG} {z0 : Nat} {l : Launch} (a : Nat)  (σ : SG) : MT D z0 l yX0_init wsX0_init rmX0_init tvU [.ref a] σ (m_X0_init (some a) σ) :=
  MT.of (own := RX0) (cc := cX0_init) (nL := 2) (ret := none) (ct := true) (by decide) rfl rfl (fun _ => rfl) (Nat.le_of_ble_eq_true rfl) (by intro v hv; simp only [List.mem_cons, List.not_mem_nil, or_false] at hv; first | (rcases hv with rfl <;> first | rfl | exact va_rf_cat _) | exact absurd hv (fun h => h)) (v_X0_init_e rfl (some a) σ 0 0 (CB.start rfl))
theorem in_X0_isEmpty_X0 : ∀ w ∈ u_ws RX0 TX0 2, w ∈ wsX0_isEmpty := by decide +kernel
theorem wd_X0_isEmpty_1 : Cond.fieldLink RX0 17 "MainsWords$History" "kept" "I" ∈ wsX0_isEmpty := by decide +kernel
theorem fd_X0_isEmpty_17_X0 : FD RX0 17 wsX0_isEmpty 0 1 := ⟨RX0, "MainsWords$History", TX0, 2, rfl, in_X0_isEmpty_X0, by decide, wd_X0_isEmpty_1, Or.inl rfl⟩
set_option maxRecDepth 100000 in
set_option maxHeartbeats 4000000 in
theorem v_X0_isEmpty {D : DG} {z0 : Nat} {l : Launch} : ∀ (a0 : Option Nat) (σ : SG), V D z0 l RX0 cX0_isEmpty 1 wsX0_isEmpty (some .boolean) rmX0_isEmpty false tvI 0 [some (va_rf a0)] [] σ 0 0 (m_X0_isEmpty a0 σ) := by
  intro a0 σ
  unfold m_X0_isEmpty
  refine V_aload_n (x := a0) dX0_isEmpty_0 rfl ?_
  refine V_getI fd_X0_isEmpty_17_X0 dX0_isEmpty_1 (fun x1 => ?_)
  refine V_if_ne (tgt := 11) (x := x1) dX0_isEmpty_4 (by decide) (fun hc2 => ?_) (fun hc2 => ?_)
  · refine V_iconst (v := (1 : Int32)) dX0_isEmpty_7 rfl ?_
    refine V_goto (tgt := 12) dX0_isEmpty_8 (by decide) ?_
    exact V_zret (fun _ => rfl) rfl (Nat.zero_le _) (Nat.zero_le _) dX0_isEmpty_12
  · refine V_iconst (v := (0 : Int32)) dX0_isEmpty_11 rfl ?_
    exact V_zret (fun _ => rfl) rfl (Nat.zero_le _) (Nat.zero_le _) dX0_isEmpty_12
theorem t_X0_isEmpty {D : DG} {z0 : Nat} {l : Launch} (a : Nat)  (σ : SG) : MT D z0 l yX0_isEmpty wsX0_isEmpty rmX0_isEmpty tvI [.ref a] σ (m_X0_isEmpty (some a) σ) :=
  MT.of (own := RX0) (cc := cX0_isEmpty) (nL := 1) (ret := (some .boolean)) (ct := false) (by decide) rfl rfl (fun h => by cases h) (Nat.le_of_ble_eq_true rfl) (by intro v hv; simp only [List.mem_cons, List.not_mem_nil, or_false] at hv; first | (rcases hv with rfl <;> first | rfl | exact va_rf_cat _) | exact absurd hv (fun h => h)) (v_X0_isEmpty (some a) σ)
theorem in_X0_dropOldest_X0 : ∀ w ∈ u_ws RX0 TX0 2, w ∈ wsX0_dropOldest := by decide +kernel
theorem wd_X0_dropOldest_1 : Cond.fieldLink RX0 11 "MainsWords$History" "states" "[LMainsWords$Net;" ∈ wsX0_dropOldest := by decide +kernel
theorem fd_X0_dropOldest_11_X0 : FD RX0 11 wsX0_dropOldest 0 0 := ⟨RX0, "MainsWords$History", TX0, 2, rfl, in_X0_dropOldest_X0, by decide, wd_X0_dropOldest_1, Or.inl rfl⟩
theorem wd_X0_dropOldest_3 : Cond.fieldLink RX0 17 "MainsWords$History" "kept" "I" ∈ wsX0_dropOldest := by decide +kernel
theorem fd_X0_dropOldest_17_X0 : FD RX0 17 wsX0_dropOldest 0 1 := ⟨RX0, "MainsWords$History", TX0, 2, rfl, in_X0_dropOldest_X0, by decide, wd_X0_dropOldest_3, Or.inl rfl⟩
theorem fw_X0_dropOldest_X0_1 : FW RX0 wsX0_dropOldest 0 1 .int false := ⟨RX0, TX0, 2, tyX0, rfl, in_X0_dropOldest_X0, tyX0_ok, nmX0, rfl, (fun h => by cases h), rfl⟩
set_option maxRecDepth 100000 in
set_option maxHeartbeats 4000000 in
theorem v_X0_dropOldest_B9 {D : DG} {z0 : Nat} {l : Launch} {rec9 : Option Nat → Option Nat → Int32 → SG → Option (Unit × SG)} (hrec9 : ∀ (v0 : Option Nat) (v1 : Option Nat) (v2 : Int32) (σ : SG), V D z0 l RX0 cX0_dropOldest 3 wsX0_dropOldest none rmX0_dropOldest false tvU 9 [some (va_rf v0), some (va_rf v1), some (.int v2)] [] σ 0 0 (rec9 v0 v1 v2 σ)) : ∀ (v0 : Option Nat) (v1 : Option Nat) (v2 : Int32) (σ : SG), V D z0 l RX0 cX0_dropOldest 3 wsX0_dropOldest none rmX0_dropOldest false tvU 9 [some (va_rf v0), some (va_rf v1), some (.int v2)] [] σ 0 0 (m_X0_dropOldest_B9 rec9 v0 v1 v2 σ) := by
  intro v0 v1 v2 σ
  unfold m_X0_dropOldest_B9
  refine V_iload_n (x := v2) dX0_dropOldest_9 rfl ?_
  refine V_aload_n (x := v0) dX0_dropOldest_10 rfl ?_
  refine V_getR fd_X0_dropOldest_11_X0 dX0_dropOldest_11 (fun x1 => ?_)
  refine V_alen dX0_dropOldest_14 (fun x2 => ?_)
  refine V_icmp_ge (tgt := 38) (x := v2) (y := x2) dX0_dropOldest_15 (by decide) (fun hc3 => ?_) (fun hc3 => ?_)
  · refine V_aload_n (x := v0) dX0_dropOldest_38 rfl ?_
    refine V_getR fd_X0_dropOldest_11_X0 dX0_dropOldest_39 (fun x4 => ?_)
    refine V_aload_n (x := v0) dX0_dropOldest_42 rfl ?_
    refine V_getR fd_X0_dropOldest_11_X0 dX0_dropOldest_43 (fun x5 => ?_)
    refine V_alen dX0_dropOldest_46 (fun x6 => ?_)
    refine V_iconst (v := (1 : Int32)) dX0_dropOldest_47 rfl ?_
    refine V_isub (x := x6) (y := (1 : Int32)) dX0_dropOldest_48 ?_
    refine V_aload_n (x := v1) dX0_dropOldest_49 rfl ?_
    refine V_aastore dX0_dropOldest_50 (fun σ7 hσ7 => ?_)
    refine V_aload_n (x := v0) dX0_dropOldest_51 rfl ?_
    refine V_dup dX0_dropOldest_52 (va_rf_cat _) ?_
    refine V_getI fd_X0_dropOldest_17_X0 dX0_dropOldest_53 (fun x8 => ?_)
    refine V_iconst (v := (1 : Int32)) dX0_dropOldest_56 rfl ?_
    refine V_isub (x := x8) (y := (1 : Int32)) dX0_dropOldest_57 ?_
    refine V_putI fd_X0_dropOldest_17_X0 fw_X0_dropOldest_X0_1 (fun h => by cases h) dX0_dropOldest_58 (fun σ9 hσ9 => ?_)
    exact V_vret (fun _ => rfl) rfl (Nat.zero_le _) (Nat.zero_le _) dX0_dropOldest_61
  · refine V_aload_n (x := v0) dX0_dropOldest_18 rfl ?_
    refine V_getR fd_X0_dropOldest_11_X0 dX0_dropOldest_19 (fun x10 => ?_)
    refine V_iload_n (x := v2) dX0_dropOldest_22 rfl ?_
    refine V_iconst (v := (1 : Int32)) dX0_dropOldest_23 rfl ?_
    refine V_isub (x := v2) (y := (1 : Int32)) dX0_dropOldest_24 ?_
    refine V_aload_n (x := v0) dX0_dropOldest_25 rfl ?_
    refine V_getR fd_X0_dropOldest_11_X0 dX0_dropOldest_26 (fun x11 => ?_)
    refine V_iload_n (x := v2) dX0_dropOldest_29 rfl ?_
    refine V_aaload dX0_dropOldest_30 (fun x12 => ?_)
    refine V_aastore dX0_dropOldest_31 (fun σ13 hσ13 => ?_)
    refine V_iinc (x := v2) (v := (v2 + 1)) (ls' := [some (va_rf v0), some (va_rf v1), some (.int (v2 + 1))]) dX0_dropOldest_32 rfl rfl (by decide) rfl ?_
    refine V_goto (tgt := 9) dX0_dropOldest_35 (by decide) ?_
    exact hrec9 v0 v1 ((v2 + 1)) σ13
theorem v_X0_dropOldest_L9 {D : DG} {z0 : Nat} {l : Launch} : ∀ (n : Nat) (v0 : Option Nat) (v1 : Option Nat) (v2 : Int32) (σ : SG), V D z0 l RX0 cX0_dropOldest 3 wsX0_dropOldest none rmX0_dropOldest false tvU 9 [some (va_rf v0), some (va_rf v1), some (.int v2)] [] σ 0 0 (m_X0_dropOldest_L9 n v0 v1 v2 σ) := by
  intro n
  induction n with
  | zero => intros; exact V_none
  | succ n ih => exact v_X0_dropOldest_B9  ih
set_option maxRecDepth 100000 in
set_option maxHeartbeats 4000000 in
theorem v_X0_dropOldest {D : DG} {z0 : Nat} {l : Launch} : ∀ (a0 : Option Nat) (σ : SG), V D z0 l RX0 cX0_dropOldest 3 wsX0_dropOldest none rmX0_dropOldest false tvU 0 [some (va_rf a0), none, none] [] σ 0 0 (m_X0_dropOldest a0 σ) := by
  intro a0 σ
  unfold m_X0_dropOldest
  refine V_aload_n (x := a0) dX0_dropOldest_0 rfl ?_
  refine V_getR fd_X0_dropOldest_11_X0 dX0_dropOldest_1 (fun x14 => ?_)
  refine V_iconst (v := (0 : Int32)) dX0_dropOldest_4 rfl ?_
  refine V_aaload dX0_dropOldest_5 (fun x15 => ?_)
  refine V_astore_n (x := x15) (ls' := [some (va_rf a0), some (va_rf x15), none]) dX0_dropOldest_6 (by decide) rfl ?_
  refine V_iconst (v := (1 : Int32)) dX0_dropOldest_7 rfl ?_
  refine V_istore_n (x := (1 : Int32)) (ls' := [some (va_rf a0), some (va_rf x15), some (.int (1 : Int32))]) dX0_dropOldest_8 (by decide) rfl ?_
  exact v_X0_dropOldest_L9  1000 a0 x15 ((1 : Int32)) σ
theorem t_X0_dropOldest {D : DG} {z0 : Nat} {l : Launch} (a : Nat)  (σ : SG) : MT D z0 l yX0_dropOldest wsX0_dropOldest rmX0_dropOldest tvU [.ref a] σ (m_X0_dropOldest (some a) σ) :=
  MT.of (own := RX0) (cc := cX0_dropOldest) (nL := 3) (ret := none) (ct := false) (by decide) rfl rfl (fun h => by cases h) (Nat.le_of_ble_eq_true rfl) (by intro v hv; simp only [List.mem_cons, List.not_mem_nil, or_false] at hv; first | (rcases hv with rfl <;> first | rfl | exact va_rf_cat _) | exact absurd hv (fun h => h)) (v_X0_dropOldest (some a) σ)
theorem in_X7_copyThing_X1 : ∀ w ∈ u_ws RX1 TX1 7, w ∈ wsX7_copyThing := by decide +kernel
theorem wd_X7_copyThing_1 : Cond.fieldLink RX7 7 "MainsWords$Thing" "isPresent" "Z" ∈ wsX7_copyThing := by decide +kernel
theorem fd_X7_copyThing_7_X1 : FD RX7 7 wsX7_copyThing 1 1 := ⟨RX1, "MainsWords$Thing", TX1, 7, rfl, in_X7_copyThing_X1, by decide, wd_X7_copyThing_1, Or.inl rfl⟩
theorem in_X7_copyThing_X2 : ∀ w ∈ u_ws RX2 TX2 6, w ∈ wsX7_copyThing := by decide +kernel
theorem fd_X7_copyThing_7_X2 : FD RX7 7 wsX7_copyThing 2 1 := ⟨RX2, "MainsWords$Thing", TX2, 6, rfl, in_X7_copyThing_X2, by decide, wd_X7_copyThing_1, Or.inl rfl⟩
theorem in_X7_copyThing_X6 : ∀ w ∈ u_ws RX6 TX6 10, w ∈ wsX7_copyThing := by decide +kernel
theorem fd_X7_copyThing_7_X6 : FD RX7 7 wsX7_copyThing 6 1 := ⟨RX6, "MainsWords$Thing", TX6, 10, rfl, in_X7_copyThing_X6, by decide, wd_X7_copyThing_1, Or.inl rfl⟩
theorem fw_X7_copyThing_X1_1 : FW RX7 wsX7_copyThing 1 1 .boolean false := ⟨RX1, TX1, 7, tyX1, rfl, in_X7_copyThing_X1, tyX1_ok, nmX1, rfl, (fun h => by cases h), rfl⟩
theorem fw_X7_copyThing_X2_1 : FW RX7 wsX7_copyThing 2 1 .boolean false := ⟨RX2, TX2, 6, tyX2, rfl, in_X7_copyThing_X2, tyX2_ok, nmX2, rfl, (fun h => by cases h), rfl⟩
theorem fw_X7_copyThing_X6_1 : FW RX7 wsX7_copyThing 6 1 .boolean false := ⟨RX6, TX6, 10, tyX6, rfl, in_X7_copyThing_X6, tyX6_ok, nmX6, rfl, (fun h => by cases h), rfl⟩
theorem wd_X7_copyThing_10 : Cond.fieldLink RX7 13 "MainsWords$Thing" "wire" "I" ∈ wsX7_copyThing := by decide +kernel
theorem fd_X7_copyThing_13_X1 : FD RX7 13 wsX7_copyThing 1 2 := ⟨RX1, "MainsWords$Thing", TX1, 7, rfl, in_X7_copyThing_X1, by decide, wd_X7_copyThing_10, Or.inl rfl⟩
theorem fd_X7_copyThing_13_X2 : FD RX7 13 wsX7_copyThing 2 2 := ⟨RX2, "MainsWords$Thing", TX2, 6, rfl, in_X7_copyThing_X2, by decide, wd_X7_copyThing_10, Or.inl rfl⟩
theorem fd_X7_copyThing_13_X6 : FD RX7 13 wsX7_copyThing 6 2 := ⟨RX6, "MainsWords$Thing", TX6, 10, rfl, in_X7_copyThing_X6, by decide, wd_X7_copyThing_10, Or.inl rfl⟩
theorem fw_X7_copyThing_X1_2 : FW RX7 wsX7_copyThing 1 2 .int false := ⟨RX1, TX1, 7, tyX1, rfl, in_X7_copyThing_X1, tyX1_ok, nmX1, rfl, (fun h => by cases h), rfl⟩
theorem fw_X7_copyThing_X2_2 : FW RX7 wsX7_copyThing 2 2 .int false := ⟨RX2, TX2, 6, tyX2, rfl, in_X7_copyThing_X2, tyX2_ok, nmX2, rfl, (fun h => by cases h), rfl⟩
theorem fw_X7_copyThing_X6_2 : FW RX7 wsX7_copyThing 6 2 .int false := ⟨RX6, TX6, 10, tyX6, rfl, in_X7_copyThing_X6, tyX6_ok, nmX6, rfl, (fun h => by cases h), rfl⟩
set_option maxRecDepth 100000 in
set_option maxHeartbeats 4000000 in
theorem v_X7_copyThing {D : DG} {z0 : Nat} {l : Launch} : ∀ (a0 : Option Nat) (a1 : Option Nat) (σ : SG), V D z0 l RX7 cX7_copyThing 2 wsX7_copyThing none rmX7_copyThing false tvU 0 [some (va_rf a0), some (va_rf a1)] [] σ 0 0 (m_X7_copyThing a0 a1 σ) := by
  intro a0 a1 σ
  unfold m_X7_copyThing
  refine V_aload_n (x := a0) dX7_copyThing_0 rfl ?_
  refine V_aload_n (x := a1) dX7_copyThing_1 rfl ?_
  refine V_getIT (LE3 fd_X7_copyThing_7_X1 fd_X7_copyThing_7_X2 fd_X7_copyThing_7_X6) dX7_copyThing_2 (fun x1 => ?_)
  refine V_putZT (LE3 (⟨fd_X7_copyThing_7_X1, fw_X7_copyThing_X1_1⟩) (⟨fd_X7_copyThing_7_X2, fw_X7_copyThing_X2_1⟩) (⟨fd_X7_copyThing_7_X6, fw_X7_copyThing_X6_1⟩)) dX7_copyThing_5 (fun σ2 hσ2 => ?_)
  refine V_aload_n (x := a0) dX7_copyThing_8 rfl ?_
  refine V_aload_n (x := a1) dX7_copyThing_9 rfl ?_
  refine V_getIT (LE3 fd_X7_copyThing_13_X1 fd_X7_copyThing_13_X2 fd_X7_copyThing_13_X6) dX7_copyThing_10 (fun x3 => ?_)
  refine V_putIT2 (LE3 (⟨fd_X7_copyThing_13_X1, fw_X7_copyThing_X1_2⟩) (⟨fd_X7_copyThing_13_X2, fw_X7_copyThing_X2_2⟩) (⟨fd_X7_copyThing_13_X6, fw_X7_copyThing_X6_2⟩)) (fun h => by cases h) dX7_copyThing_13 (fun σ4 hσ4 => ?_)
  exact V_vret (fun _ => rfl) rfl (Nat.zero_le _) (Nat.zero_le _) dX7_copyThing_16
theorem t_X7_copyThing {D : DG} {z0 : Nat} {l : Launch} (a : Nat) (a1 : Option Nat) (σ : SG) : MT D z0 l yX7_copyThing wsX7_copyThing rmX7_copyThing tvU [.ref a, va_rf a1] σ (m_X7_copyThing (some a) a1 σ) :=
  MT.of (own := RX7) (cc := cX7_copyThing) (nL := 2) (ret := none) (ct := false) (by decide) rfl rfl (fun h => by cases h) (Nat.le_of_ble_eq_true rfl) (by intro v hv; simp only [List.mem_cons, List.not_mem_nil, or_false] at hv; first | (rcases hv with rfl | rfl <;> first | rfl | exact va_rf_cat _) | exact absurd hv (fun h => h)) (v_X7_copyThing (some a) a1 σ)
set_option maxRecDepth 100000 in
set_option maxHeartbeats 4000000 in
theorem v_X8_copyRow_B2 {D : DG} {z0 : Nat} {l : Launch} {rec2 : Option Nat → Option Nat → Int32 → SG → Option (Unit × SG)} (hrec2 : ∀ (v0 : Option Nat) (v1 : Option Nat) (v2 : Int32) (σ : SG), V D z0 l RX8 cX8_copyRow 3 wsX8_copyRow none rmX8_copyRow false tvU 2 [some (va_rf v0), some (va_rf v1), some (.int v2)] [] σ 0 0 (rec2 v0 v1 v2 σ)) : ∀ (v0 : Option Nat) (v1 : Option Nat) (v2 : Int32) (σ : SG), V D z0 l RX8 cX8_copyRow 3 wsX8_copyRow none rmX8_copyRow false tvU 2 [some (va_rf v0), some (va_rf v1), some (.int v2)] [] σ 0 0 (m_X8_copyRow_B2 rec2 v0 v1 v2 σ) := by
  intro v0 v1 v2 σ
  unfold m_X8_copyRow_B2
  refine V_iload_n (x := v2) dX8_copyRow_2 rfl ?_
  refine V_aload_n (x := v0) dX8_copyRow_3 rfl ?_
  refine V_alen dX8_copyRow_4 (fun x1 => ?_)
  refine V_icmp_ge (tgt := 26) (x := v2) (y := x1) dX8_copyRow_5 (by decide) (fun hc2 => ?_) (fun hc2 => ?_)
  · exact V_vret (fun _ => rfl) rfl (Nat.zero_le _) (Nat.zero_le _) dX8_copyRow_26
  · refine V_iload_n (x := v2) dX8_copyRow_8 rfl ?_
    refine V_aload_n (x := v1) dX8_copyRow_9 rfl ?_
    refine V_alen dX8_copyRow_10 (fun x3 => ?_)
    refine V_icmp_ge (tgt := 26) (x := v2) (y := x3) dX8_copyRow_11 (by decide) (fun hc4 => ?_) (fun hc4 => ?_)
    · exact V_vret (fun _ => rfl) rfl (Nat.zero_le _) (Nat.zero_le _) dX8_copyRow_26
    · refine V_aload_n (x := v1) dX8_copyRow_14 rfl ?_
      refine V_iload_n (x := v2) dX8_copyRow_15 rfl ?_
      refine V_aload_n (x := v0) dX8_copyRow_16 rfl ?_
      refine V_iload_n (x := v2) dX8_copyRow_17 rfl ?_
      refine V_iaload dX8_copyRow_18 (fun x5 => ?_)
      refine V_iastore dX8_copyRow_19 (fun σ6 hσ6 => ?_)
      refine V_iinc (x := v2) (v := (v2 + 1)) (ls' := [some (va_rf v0), some (va_rf v1), some (.int (v2 + 1))]) dX8_copyRow_20 rfl rfl (by decide) rfl ?_
      refine V_goto (tgt := 2) dX8_copyRow_23 (by decide) ?_
      exact hrec2 v0 v1 ((v2 + 1)) σ6
theorem v_X8_copyRow_L2 {D : DG} {z0 : Nat} {l : Launch} : ∀ (n : Nat) (v0 : Option Nat) (v1 : Option Nat) (v2 : Int32) (σ : SG), V D z0 l RX8 cX8_copyRow 3 wsX8_copyRow none rmX8_copyRow false tvU 2 [some (va_rf v0), some (va_rf v1), some (.int v2)] [] σ 0 0 (m_X8_copyRow_L2 n v0 v1 v2 σ) := by
  intro n
  induction n with
  | zero => intros; exact V_none
  | succ n ih => exact v_X8_copyRow_B2  ih
set_option maxRecDepth 100000 in
set_option maxHeartbeats 4000000 in
theorem v_X8_copyRow {D : DG} {z0 : Nat} {l : Launch} : ∀ (a0 : Option Nat) (a1 : Option Nat) (σ : SG), V D z0 l RX8 cX8_copyRow 3 wsX8_copyRow none rmX8_copyRow false tvU 0 [some (va_rf a0), some (va_rf a1), none] [] σ 0 0 (m_X8_copyRow a0 a1 σ) := by
  intro a0 a1 σ
  unfold m_X8_copyRow
  refine V_iconst (v := (0 : Int32)) dX8_copyRow_0 rfl ?_
  refine V_istore_n (x := (0 : Int32)) (ls' := [some (va_rf a0), some (va_rf a1), some (.int (0 : Int32))]) dX8_copyRow_1 (by decide) rfl ?_
  exact v_X8_copyRow_L2  1000 a0 a1 ((0 : Int32)) σ
theorem t_X8_copyRow {D : DG} {z0 : Nat} {l : Launch} (a0 : Option Nat) (a1 : Option Nat) (σ : SG) : MT D z0 l yX8_copyRow wsX8_copyRow rmX8_copyRow tvU [va_rf a0, va_rf a1] σ (m_X8_copyRow a0 a1 σ) :=
  MT.of (own := RX8) (cc := cX8_copyRow) (nL := 3) (ret := none) (ct := false) (by decide) rfl rfl (fun h => by cases h) (Nat.le_of_ble_eq_true rfl) (by intro v hv; simp only [List.mem_cons, List.not_mem_nil, or_false] at hv; first | (rcases hv with rfl | rfl <;> first | rfl | exact va_rf_cat _) | exact absurd hv (fun h => h)) (v_X8_copyRow a0 a1 σ)
theorem in_X6_copyFrom_X6 : ∀ w ∈ u_ws RX6 TX6 10, w ∈ wsX6_copyFrom := by decide +kernel
theorem wd_X6_copyFrom_1 : Cond.fieldLink RX6 9 "MainsWords$Sender" "queue" "[I" ∈ wsX6_copyFrom := by decide +kernel
theorem fd_X6_copyFrom_9_X6 : FD RX6 9 wsX6_copyFrom 6 3 := ⟨RX6, "MainsWords$Sender", TX6, 10, rfl, in_X6_copyFrom_X6, by decide, wd_X6_copyFrom_1, Or.inl rfl⟩
theorem wd_X6_copyFrom_3 : Cond.initialized RX8 ∈ wsX6_copyFrom := by decide +kernel
theorem wd_X6_copyFrom_4 : Cond.static yX8_copyRow ∈ wsX6_copyFrom := by decide +kernel
theorem wd_X6_copyFrom_5 : Cond.fieldLink RX6 15 "MainsWords$Sender" "queueLength" "I" ∈ wsX6_copyFrom := by decide +kernel
theorem fd_X6_copyFrom_15_X6 : FD RX6 15 wsX6_copyFrom 6 4 := ⟨RX6, "MainsWords$Sender", TX6, 10, rfl, in_X6_copyFrom_X6, by decide, wd_X6_copyFrom_5, Or.inl rfl⟩
theorem fw_X6_copyFrom_X6_4 : FW RX6 wsX6_copyFrom 6 4 .int false := ⟨RX6, TX6, 10, tyX6, rfl, in_X6_copyFrom_X6, tyX6_ok, nmX6, rfl, (fun h => by cases h), rfl⟩
theorem wd_X6_copyFrom_8 : Cond.fieldLink RX6 19 "MainsWords$Sender" "strength" "I" ∈ wsX6_copyFrom := by decide +kernel
theorem fd_X6_copyFrom_19_X6 : FD RX6 19 wsX6_copyFrom 6 5 := ⟨RX6, "MainsWords$Sender", TX6, 10, rfl, in_X6_copyFrom_X6, by decide, wd_X6_copyFrom_8, Or.inl rfl⟩
theorem fw_X6_copyFrom_X6_5 : FW RX6 wsX6_copyFrom 6 5 .int false := ⟨RX6, TX6, 10, tyX6, rfl, in_X6_copyFrom_X6, tyX6_ok, nmX6, rfl, (fun h => by cases h), rfl⟩
theorem wd_X6_copyFrom_11 : Cond.fieldLink RX6 22 "MainsWords$Sender" "speaks" "Z" ∈ wsX6_copyFrom := by decide +kernel
theorem fd_X6_copyFrom_22_X6 : FD RX6 22 wsX6_copyFrom 6 6 := ⟨RX6, "MainsWords$Sender", TX6, 10, rfl, in_X6_copyFrom_X6, by decide, wd_X6_copyFrom_11, Or.inl rfl⟩
theorem fw_X6_copyFrom_X6_6 : FW RX6 wsX6_copyFrom 6 6 .boolean false := ⟨RX6, TX6, 10, tyX6, rfl, in_X6_copyFrom_X6, tyX6_ok, nmX6, rfl, (fun h => by cases h), rfl⟩
theorem wd_X6_copyFrom_14 : Cond.fieldLink RX6 26 "MainsWords$Sender" "copy" "I" ∈ wsX6_copyFrom := by decide +kernel
theorem fd_X6_copyFrom_26_X6 : FD RX6 26 wsX6_copyFrom 6 7 := ⟨RX6, "MainsWords$Sender", TX6, 10, rfl, in_X6_copyFrom_X6, by decide, wd_X6_copyFrom_14, Or.inl rfl⟩
theorem fw_X6_copyFrom_X6_7 : FW RX6 wsX6_copyFrom 6 7 .int false := ⟨RX6, TX6, 10, tyX6, rfl, in_X6_copyFrom_X6, tyX6_ok, nmX6, rfl, (fun h => by cases h), rfl⟩
theorem wd_X6_copyFrom_17 : Cond.fieldLink RX6 29 "MainsWords$Sender" "place" "I" ∈ wsX6_copyFrom := by decide +kernel
theorem fd_X6_copyFrom_29_X6 : FD RX6 29 wsX6_copyFrom 6 8 := ⟨RX6, "MainsWords$Sender", TX6, 10, rfl, in_X6_copyFrom_X6, by decide, wd_X6_copyFrom_17, Or.inl rfl⟩
theorem fw_X6_copyFrom_X6_8 : FW RX6 wsX6_copyFrom 6 8 .int false := ⟨RX6, TX6, 10, tyX6, rfl, in_X6_copyFrom_X6, tyX6_ok, nmX6, rfl, (fun h => by cases h), rfl⟩
theorem wd_X6_copyFrom_20 : Cond.fieldLink RX6 32 "MainsWords$Sender" "pause" "I" ∈ wsX6_copyFrom := by decide +kernel
theorem fd_X6_copyFrom_32_X6 : FD RX6 32 wsX6_copyFrom 6 9 := ⟨RX6, "MainsWords$Sender", TX6, 10, rfl, in_X6_copyFrom_X6, by decide, wd_X6_copyFrom_20, Or.inl rfl⟩
theorem fw_X6_copyFrom_X6_9 : FW RX6 wsX6_copyFrom 6 9 .int false := ⟨RX6, TX6, 10, tyX6, rfl, in_X6_copyFrom_X6, tyX6_ok, nmX6, rfl, (fun h => by cases h), rfl⟩
set_option maxRecDepth 100000 in
set_option maxHeartbeats 4000000 in
theorem v_X6_copyFrom {D : DG} {z0 : Nat} {l : Launch} : ∀ (a0 : Option Nat) (a1 : Option Nat) (σ : SG), V D z0 l RX6 cX6_copyFrom 2 wsX6_copyFrom none rmX6_copyFrom false tvU 0 [some (va_rf a0), some (va_rf a1)] [] σ 0 0 (m_X6_copyFrom a0 a1 σ) := by
  intro a0 a1 σ
  unfold m_X6_copyFrom
  refine V_aload_n (x := a0) dX6_copyFrom_0 rfl ?_
  refine V_aload_n (x := a1) dX6_copyFrom_1 rfl ?_
  refine V_callU0 (As := [va_rf a1]) (st0 := []) (stI := [va_rf a1, va_rf a0]) (fun _ h => by cases h; exact t_X7_copyThing _ a1 σ) (q := (RX6, TX6, 10)) rfl rfl rfl (Nat.le_of_ble_eq_true rfl) rfl (fun s args hts => va_cwU 1 hts gX6_copyFrom_X7_copyThing_u41X6 rfl rfl rfl rfl (by decide +kernel) ⟨Nat.le_of_ble_eq_true rfl, Nat.le_of_ble_eq_true rfl⟩) rfl rfl dX6_copyFrom_2 (fun _ σ1 _ => ?_)
  refine V_aload_n (x := a1) dX6_copyFrom_5 rfl ?_
  refine V_getR fd_X6_copyFrom_9_X6 dX6_copyFrom_6 (fun x2 => ?_)
  refine V_aload_n (x := a0) dX6_copyFrom_9 rfl ?_
  refine V_getR fd_X6_copyFrom_9_X6 dX6_copyFrom_10 (fun x3 => ?_)
  refine V_callSN0 (host := "MainsWords") (As := [va_rf x2, va_rf x3]) (st0 := []) (stI := [va_rf x3, va_rf x2]) (t_X8_copyRow x2 x3 σ1) rfl (Nat.le_of_ble_eq_true rfl) rfl (by decide +kernel) (fun s args hts hnw => ⟨va_cnB 2 hts gX6_copyFrom_X8_copyRow_n45 rfl rfl rfl hnw (hts _ wd_X6_copyFrom_3) (by decide +kernel) ⟨Nat.le_of_ble_eq_true rfl, Nat.le_of_ble_eq_true rfl⟩, hts _ wd_X6_copyFrom_4, trivial⟩) rfl rfl dX6_copyFrom_13 (fun _ σ4 _ => ?_)
  refine V_aload_n (x := a0) dX6_copyFrom_16 rfl ?_
  refine V_aload_n (x := a1) dX6_copyFrom_17 rfl ?_
  refine V_getI fd_X6_copyFrom_15_X6 dX6_copyFrom_18 (fun x5 => ?_)
  refine V_putI fd_X6_copyFrom_15_X6 fw_X6_copyFrom_X6_4 (fun h => by cases h) dX6_copyFrom_21 (fun σ6 hσ6 => ?_)
  refine V_aload_n (x := a0) dX6_copyFrom_24 rfl ?_
  refine V_aload_n (x := a1) dX6_copyFrom_25 rfl ?_
  refine V_getI fd_X6_copyFrom_19_X6 dX6_copyFrom_26 (fun x7 => ?_)
  refine V_putI fd_X6_copyFrom_19_X6 fw_X6_copyFrom_X6_5 (fun h => by cases h) dX6_copyFrom_29 (fun σ8 hσ8 => ?_)
  refine V_aload_n (x := a0) dX6_copyFrom_32 rfl ?_
  refine V_aload_n (x := a1) dX6_copyFrom_33 rfl ?_
  refine V_getI fd_X6_copyFrom_22_X6 dX6_copyFrom_34 (fun x9 => ?_)
  refine V_putZ fd_X6_copyFrom_22_X6 fw_X6_copyFrom_X6_6 (fun h => by cases h) dX6_copyFrom_37 (fun σ10 hσ10 => ?_)
  refine V_aload_n (x := a0) dX6_copyFrom_40 rfl ?_
  refine V_aload_n (x := a1) dX6_copyFrom_41 rfl ?_
  refine V_getI fd_X6_copyFrom_26_X6 dX6_copyFrom_42 (fun x11 => ?_)
  refine V_putI fd_X6_copyFrom_26_X6 fw_X6_copyFrom_X6_7 (fun h => by cases h) dX6_copyFrom_45 (fun σ12 hσ12 => ?_)
  refine V_aload_n (x := a0) dX6_copyFrom_48 rfl ?_
  refine V_aload_n (x := a1) dX6_copyFrom_49 rfl ?_
  refine V_getI fd_X6_copyFrom_29_X6 dX6_copyFrom_50 (fun x13 => ?_)
  refine V_putI fd_X6_copyFrom_29_X6 fw_X6_copyFrom_X6_8 (fun h => by cases h) dX6_copyFrom_53 (fun σ14 hσ14 => ?_)
  refine V_aload_n (x := a0) dX6_copyFrom_56 rfl ?_
  refine V_aload_n (x := a1) dX6_copyFrom_57 rfl ?_
  refine V_getI fd_X6_copyFrom_32_X6 dX6_copyFrom_58 (fun x15 => ?_)
  refine V_putI fd_X6_copyFrom_32_X6 fw_X6_copyFrom_X6_9 (fun h => by cases h) dX6_copyFrom_61 (fun σ16 hσ16 => ?_)
  exact V_vret (fun _ => rfl) rfl (Nat.zero_le _) (Nat.zero_le _) dX6_copyFrom_64
theorem t_X6_copyFrom {D : DG} {z0 : Nat} {l : Launch} (a : Nat) (a1 : Option Nat) (σ : SG) : MT D z0 l yX6_copyFrom wsX6_copyFrom rmX6_copyFrom tvU [.ref a, va_rf a1] σ (m_X6_copyFrom (some a) a1 σ) :=
  MT.of (own := RX6) (cc := cX6_copyFrom) (nL := 2) (ret := none) (ct := false) (by decide) rfl rfl (fun h => by cases h) (Nat.le_of_ble_eq_true rfl) (by intro v hv; simp only [List.mem_cons, List.not_mem_nil, or_false] at hv; first | (rcases hv with rfl | rfl <;> first | rfl | exact va_rf_cat _) | exact absurd hv (fun h => h)) (v_X6_copyFrom (some a) a1 σ)
theorem in_X2_copyFrom_X2 : ∀ w ∈ u_ws RX2 TX2 6, w ∈ wsX2_copyFrom := by decide +kernel
theorem wd_X2_copyFrom_1 : Cond.fieldLink RX2 9 "MainsWords$Machine" "strength" "I" ∈ wsX2_copyFrom := by decide +kernel
theorem fd_X2_copyFrom_9_X2 : FD RX2 9 wsX2_copyFrom 2 3 := ⟨RX2, "MainsWords$Machine", TX2, 6, rfl, in_X2_copyFrom_X2, by decide, wd_X2_copyFrom_1, Or.inl rfl⟩
theorem fw_X2_copyFrom_X2_3 : FW RX2 wsX2_copyFrom 2 3 .int false := ⟨RX2, TX2, 6, tyX2, rfl, in_X2_copyFrom_X2, tyX2_ok, nmX2, rfl, (fun h => by cases h), rfl⟩
theorem wd_X2_copyFrom_4 : Cond.fieldLink RX2 15 "MainsWords$Machine" "period" "I" ∈ wsX2_copyFrom := by decide +kernel
theorem fd_X2_copyFrom_15_X2 : FD RX2 15 wsX2_copyFrom 2 4 := ⟨RX2, "MainsWords$Machine", TX2, 6, rfl, in_X2_copyFrom_X2, by decide, wd_X2_copyFrom_4, Or.inl rfl⟩
theorem fw_X2_copyFrom_X2_4 : FW RX2 wsX2_copyFrom 2 4 .int false := ⟨RX2, TX2, 6, tyX2, rfl, in_X2_copyFrom_X2, tyX2_ok, nmX2, rfl, (fun h => by cases h), rfl⟩
theorem wd_X2_copyFrom_7 : Cond.fieldLink RX2 18 "MainsWords$Machine" "isOn" "Z" ∈ wsX2_copyFrom := by decide +kernel
theorem fd_X2_copyFrom_18_X2 : FD RX2 18 wsX2_copyFrom 2 5 := ⟨RX2, "MainsWords$Machine", TX2, 6, rfl, in_X2_copyFrom_X2, by decide, wd_X2_copyFrom_7, Or.inl rfl⟩
theorem fw_X2_copyFrom_X2_5 : FW RX2 wsX2_copyFrom 2 5 .boolean false := ⟨RX2, TX2, 6, tyX2, rfl, in_X2_copyFrom_X2, tyX2_ok, nmX2, rfl, (fun h => by cases h), rfl⟩
set_option maxRecDepth 100000 in
set_option maxHeartbeats 4000000 in
theorem v_X2_copyFrom {D : DG} {z0 : Nat} {l : Launch} : ∀ (a0 : Option Nat) (a1 : Option Nat) (σ : SG), V D z0 l RX2 cX2_copyFrom 2 wsX2_copyFrom none rmX2_copyFrom false tvU 0 [some (va_rf a0), some (va_rf a1)] [] σ 0 0 (m_X2_copyFrom a0 a1 σ) := by
  intro a0 a1 σ
  unfold m_X2_copyFrom
  refine V_aload_n (x := a0) dX2_copyFrom_0 rfl ?_
  refine V_aload_n (x := a1) dX2_copyFrom_1 rfl ?_
  refine V_callU0 (As := [va_rf a1]) (st0 := []) (stI := [va_rf a1, va_rf a0]) (fun _ h => by cases h; exact t_X7_copyThing _ a1 σ) (q := (RX2, TX2, 6)) rfl rfl rfl (Nat.le_of_ble_eq_true rfl) rfl (fun s args hts => va_cwU 1 hts gX2_copyFrom_X7_copyThing_u28X2 rfl rfl rfl rfl (by decide +kernel) ⟨Nat.le_of_ble_eq_true rfl, Nat.le_of_ble_eq_true rfl⟩) rfl rfl dX2_copyFrom_2 (fun _ σ1 _ => ?_)
  refine V_aload_n (x := a0) dX2_copyFrom_5 rfl ?_
  refine V_aload_n (x := a1) dX2_copyFrom_6 rfl ?_
  refine V_getI fd_X2_copyFrom_9_X2 dX2_copyFrom_7 (fun x2 => ?_)
  refine V_putI fd_X2_copyFrom_9_X2 fw_X2_copyFrom_X2_3 (fun h => by cases h) dX2_copyFrom_10 (fun σ3 hσ3 => ?_)
  refine V_aload_n (x := a0) dX2_copyFrom_13 rfl ?_
  refine V_aload_n (x := a1) dX2_copyFrom_14 rfl ?_
  refine V_getI fd_X2_copyFrom_15_X2 dX2_copyFrom_15 (fun x4 => ?_)
  refine V_putI fd_X2_copyFrom_15_X2 fw_X2_copyFrom_X2_4 (fun h => by cases h) dX2_copyFrom_18 (fun σ5 hσ5 => ?_)
  refine V_aload_n (x := a0) dX2_copyFrom_21 rfl ?_
  refine V_aload_n (x := a1) dX2_copyFrom_22 rfl ?_
  refine V_getI fd_X2_copyFrom_18_X2 dX2_copyFrom_23 (fun x6 => ?_)
  refine V_putZ fd_X2_copyFrom_18_X2 fw_X2_copyFrom_X2_5 (fun h => by cases h) dX2_copyFrom_26 (fun σ7 hσ7 => ?_)
  exact V_vret (fun _ => rfl) rfl (Nat.zero_le _) (Nat.zero_le _) dX2_copyFrom_29
theorem t_X2_copyFrom {D : DG} {z0 : Nat} {l : Launch} (a : Nat) (a1 : Option Nat) (σ : SG) : MT D z0 l yX2_copyFrom wsX2_copyFrom rmX2_copyFrom tvU [.ref a, va_rf a1] σ (m_X2_copyFrom (some a) a1 σ) :=
  MT.of (own := RX2) (cc := cX2_copyFrom) (nL := 2) (ret := none) (ct := false) (by decide) rfl rfl (fun h => by cases h) (Nat.le_of_ble_eq_true rfl) (by intro v hv; simp only [List.mem_cons, List.not_mem_nil, or_false] at hv; first | (rcases hv with rfl | rfl <;> first | rfl | exact va_rf_cat _) | exact absurd hv (fun h => h)) (v_X2_copyFrom (some a) a1 σ)
theorem in_X1_copyFrom_X1 : ∀ w ∈ u_ws RX1 TX1 7, w ∈ wsX1_copyFrom := by decide +kernel
theorem wd_X1_copyFrom_1 : Cond.fieldLink RX1 9 "MainsWords$Lamp" "letter" "I" ∈ wsX1_copyFrom := by decide +kernel
theorem fd_X1_copyFrom_9_X1 : FD RX1 9 wsX1_copyFrom 1 3 := ⟨RX1, "MainsWords$Lamp", TX1, 7, rfl, in_X1_copyFrom_X1, by decide, wd_X1_copyFrom_1, Or.inl rfl⟩
theorem fw_X1_copyFrom_X1_3 : FW RX1 wsX1_copyFrom 1 3 .int false := ⟨RX1, TX1, 7, tyX1, rfl, in_X1_copyFrom_X1, tyX1_ok, nmX1, rfl, (fun h => by cases h), rfl⟩
theorem wd_X1_copyFrom_4 : Cond.fieldLink RX1 15 "MainsWords$Lamp" "unit" "I" ∈ wsX1_copyFrom := by decide +kernel
theorem fd_X1_copyFrom_15_X1 : FD RX1 15 wsX1_copyFrom 1 4 := ⟨RX1, "MainsWords$Lamp", TX1, 7, rfl, in_X1_copyFrom_X1, by decide, wd_X1_copyFrom_4, Or.inl rfl⟩
theorem fw_X1_copyFrom_X1_4 : FW RX1 wsX1_copyFrom 1 4 .int false := ⟨RX1, TX1, 7, tyX1, rfl, in_X1_copyFrom_X1, tyX1_ok, nmX1, rfl, (fun h => by cases h), rfl⟩
theorem wd_X1_copyFrom_7 : Cond.fieldLink RX1 18 "MainsWords$Lamp" "level" "I" ∈ wsX1_copyFrom := by decide +kernel
theorem fd_X1_copyFrom_18_X1 : FD RX1 18 wsX1_copyFrom 1 5 := ⟨RX1, "MainsWords$Lamp", TX1, 7, rfl, in_X1_copyFrom_X1, by decide, wd_X1_copyFrom_7, Or.inl rfl⟩
theorem fw_X1_copyFrom_X1_5 : FW RX1 wsX1_copyFrom 1 5 .int false := ⟨RX1, TX1, 7, tyX1, rfl, in_X1_copyFrom_X1, tyX1_ok, nmX1, rfl, (fun h => by cases h), rfl⟩
theorem wd_X1_copyFrom_10 : Cond.fieldLink RX1 21 "MainsWords$Lamp" "isSelected" "Z" ∈ wsX1_copyFrom := by decide +kernel
theorem fd_X1_copyFrom_21_X1 : FD RX1 21 wsX1_copyFrom 1 6 := ⟨RX1, "MainsWords$Lamp", TX1, 7, rfl, in_X1_copyFrom_X1, by decide, wd_X1_copyFrom_10, Or.inl rfl⟩
theorem fw_X1_copyFrom_X1_6 : FW RX1 wsX1_copyFrom 1 6 .boolean false := ⟨RX1, TX1, 7, tyX1, rfl, in_X1_copyFrom_X1, tyX1_ok, nmX1, rfl, (fun h => by cases h), rfl⟩
set_option maxRecDepth 100000 in
set_option maxHeartbeats 4000000 in
theorem v_X1_copyFrom {D : DG} {z0 : Nat} {l : Launch} : ∀ (a0 : Option Nat) (a1 : Option Nat) (σ : SG), V D z0 l RX1 cX1_copyFrom 2 wsX1_copyFrom none rmX1_copyFrom false tvU 0 [some (va_rf a0), some (va_rf a1)] [] σ 0 0 (m_X1_copyFrom a0 a1 σ) := by
  intro a0 a1 σ
  unfold m_X1_copyFrom
  refine V_aload_n (x := a0) dX1_copyFrom_0 rfl ?_
  refine V_aload_n (x := a1) dX1_copyFrom_1 rfl ?_
  refine V_callU0 (As := [va_rf a1]) (st0 := []) (stI := [va_rf a1, va_rf a0]) (fun _ h => by cases h; exact t_X7_copyThing _ a1 σ) (q := (RX1, TX1, 7)) rfl rfl rfl (Nat.le_of_ble_eq_true rfl) rfl (fun s args hts => va_cwU 1 hts gX1_copyFrom_X7_copyThing_u31X1 rfl rfl rfl rfl (by decide +kernel) ⟨Nat.le_of_ble_eq_true rfl, Nat.le_of_ble_eq_true rfl⟩) rfl rfl dX1_copyFrom_2 (fun _ σ1 _ => ?_)
  refine V_aload_n (x := a0) dX1_copyFrom_5 rfl ?_
  refine V_aload_n (x := a1) dX1_copyFrom_6 rfl ?_
  refine V_getI fd_X1_copyFrom_9_X1 dX1_copyFrom_7 (fun x2 => ?_)
  refine V_putI fd_X1_copyFrom_9_X1 fw_X1_copyFrom_X1_3 (fun h => by cases h) dX1_copyFrom_10 (fun σ3 hσ3 => ?_)
  refine V_aload_n (x := a0) dX1_copyFrom_13 rfl ?_
  refine V_aload_n (x := a1) dX1_copyFrom_14 rfl ?_
  refine V_getI fd_X1_copyFrom_15_X1 dX1_copyFrom_15 (fun x4 => ?_)
  refine V_putI fd_X1_copyFrom_15_X1 fw_X1_copyFrom_X1_4 (fun h => by cases h) dX1_copyFrom_18 (fun σ5 hσ5 => ?_)
  refine V_aload_n (x := a0) dX1_copyFrom_21 rfl ?_
  refine V_aload_n (x := a1) dX1_copyFrom_22 rfl ?_
  refine V_getI fd_X1_copyFrom_18_X1 dX1_copyFrom_23 (fun x6 => ?_)
  refine V_putI fd_X1_copyFrom_18_X1 fw_X1_copyFrom_X1_5 (fun h => by cases h) dX1_copyFrom_26 (fun σ7 hσ7 => ?_)
  refine V_aload_n (x := a0) dX1_copyFrom_29 rfl ?_
  refine V_aload_n (x := a1) dX1_copyFrom_30 rfl ?_
  refine V_getI fd_X1_copyFrom_21_X1 dX1_copyFrom_31 (fun x8 => ?_)
  refine V_putZ fd_X1_copyFrom_21_X1 fw_X1_copyFrom_X1_6 (fun h => by cases h) dX1_copyFrom_34 (fun σ9 hσ9 => ?_)
  exact V_vret (fun _ => rfl) rfl (Nat.zero_le _) (Nat.zero_le _) dX1_copyFrom_37
theorem t_X1_copyFrom {D : DG} {z0 : Nat} {l : Launch} (a : Nat) (a1 : Option Nat) (σ : SG) : MT D z0 l yX1_copyFrom wsX1_copyFrom rmX1_copyFrom tvU [.ref a, va_rf a1] σ (m_X1_copyFrom (some a) a1 σ) :=
  MT.of (own := RX1) (cc := cX1_copyFrom) (nL := 2) (ret := none) (ct := false) (by decide) rfl rfl (fun h => by cases h) (Nat.le_of_ble_eq_true rfl) (by intro v hv; simp only [List.mem_cons, List.not_mem_nil, or_false] at hv; first | (rcases hv with rfl | rfl <;> first | rfl | exact va_rf_cat _) | exact absurd hv (fun h => h)) (v_X1_copyFrom (some a) a1 σ)
theorem in_X4_copyFrom_X4 : ∀ w ∈ u_ws RX4 TX4 7, w ∈ wsX4_copyFrom := by decide +kernel
theorem wd_X4_copyFrom_1 : Cond.fieldLink RX4 9 "MainsWords$Receiver" "reads" "Z" ∈ wsX4_copyFrom := by decide +kernel
theorem fd_X4_copyFrom_9_X4 : FD RX4 9 wsX4_copyFrom 4 0 := ⟨RX4, "MainsWords$Receiver", TX4, 7, rfl, in_X4_copyFrom_X4, by decide, wd_X4_copyFrom_1, Or.inl rfl⟩
theorem fw_X4_copyFrom_X4_0 : FW RX4 wsX4_copyFrom 4 0 .boolean false := ⟨RX4, TX4, 7, tyX4, rfl, in_X4_copyFrom_X4, tyX4_ok, nmX4, rfl, (fun h => by cases h), rfl⟩
theorem wd_X4_copyFrom_4 : Cond.fieldLink RX4 15 "MainsWords$Receiver" "latestBits" "I" ∈ wsX4_copyFrom := by decide +kernel
theorem fd_X4_copyFrom_15_X4 : FD RX4 15 wsX4_copyFrom 4 1 := ⟨RX4, "MainsWords$Receiver", TX4, 7, rfl, in_X4_copyFrom_X4, by decide, wd_X4_copyFrom_4, Or.inl rfl⟩
theorem fw_X4_copyFrom_X4_1 : FW RX4 wsX4_copyFrom 4 1 .int false := ⟨RX4, TX4, 7, tyX4, rfl, in_X4_copyFrom_X4, tyX4_ok, nmX4, rfl, (fun h => by cases h), rfl⟩
theorem wd_X4_copyFrom_7 : Cond.fieldLink RX4 19 "MainsWords$Receiver" "bitsRead" "I" ∈ wsX4_copyFrom := by decide +kernel
theorem fd_X4_copyFrom_19_X4 : FD RX4 19 wsX4_copyFrom 4 2 := ⟨RX4, "MainsWords$Receiver", TX4, 7, rfl, in_X4_copyFrom_X4, by decide, wd_X4_copyFrom_7, Or.inl rfl⟩
theorem fw_X4_copyFrom_X4_2 : FW RX4 wsX4_copyFrom 4 2 .int false := ⟨RX4, TX4, 7, tyX4, rfl, in_X4_copyFrom_X4, tyX4_ok, nmX4, rfl, (fun h => by cases h), rfl⟩
theorem wd_X4_copyFrom_10 : Cond.fieldLink RX4 22 "MainsWords$Receiver" "wordSoFar" "I" ∈ wsX4_copyFrom := by decide +kernel
theorem fd_X4_copyFrom_22_X4 : FD RX4 22 wsX4_copyFrom 4 3 := ⟨RX4, "MainsWords$Receiver", TX4, 7, rfl, in_X4_copyFrom_X4, by decide, wd_X4_copyFrom_10, Or.inl rfl⟩
theorem fw_X4_copyFrom_X4_3 : FW RX4 wsX4_copyFrom 4 3 .int false := ⟨RX4, TX4, 7, tyX4, rfl, in_X4_copyFrom_X4, tyX4_ok, nmX4, rfl, (fun h => by cases h), rfl⟩
theorem wd_X4_copyFrom_13 : Cond.fieldLink RX4 25 "MainsWords$Receiver" "lastWord" "I" ∈ wsX4_copyFrom := by decide +kernel
theorem fd_X4_copyFrom_25_X4 : FD RX4 25 wsX4_copyFrom 4 4 := ⟨RX4, "MainsWords$Receiver", TX4, 7, rfl, in_X4_copyFrom_X4, by decide, wd_X4_copyFrom_13, Or.inl rfl⟩
theorem fw_X4_copyFrom_X4_4 : FW RX4 wsX4_copyFrom 4 4 .int false := ⟨RX4, TX4, 7, tyX4, rfl, in_X4_copyFrom_X4, tyX4_ok, nmX4, rfl, (fun h => by cases h), rfl⟩
theorem wd_X4_copyFrom_16 : Cond.fieldLink RX4 28 "MainsWords$Receiver" "toldAt" "I" ∈ wsX4_copyFrom := by decide +kernel
theorem fd_X4_copyFrom_28_X4 : FD RX4 28 wsX4_copyFrom 4 5 := ⟨RX4, "MainsWords$Receiver", TX4, 7, rfl, in_X4_copyFrom_X4, by decide, wd_X4_copyFrom_16, Or.inl rfl⟩
theorem fw_X4_copyFrom_X4_5 : FW RX4 wsX4_copyFrom 4 5 .int false := ⟨RX4, TX4, 7, tyX4, rfl, in_X4_copyFrom_X4, tyX4_ok, nmX4, rfl, (fun h => by cases h), rfl⟩
theorem wd_X4_copyFrom_19 : Cond.fieldLink RX4 31 "MainsWords$Receiver" "openLetters" "I" ∈ wsX4_copyFrom := by decide +kernel
theorem fd_X4_copyFrom_31_X4 : FD RX4 31 wsX4_copyFrom 4 6 := ⟨RX4, "MainsWords$Receiver", TX4, 7, rfl, in_X4_copyFrom_X4, by decide, wd_X4_copyFrom_19, Or.inl rfl⟩
theorem fw_X4_copyFrom_X4_6 : FW RX4 wsX4_copyFrom 4 6 .int false := ⟨RX4, TX4, 7, tyX4, rfl, in_X4_copyFrom_X4, tyX4_ok, nmX4, rfl, (fun h => by cases h), rfl⟩
set_option maxRecDepth 100000 in
set_option maxHeartbeats 4000000 in
theorem v_X4_copyFrom {D : DG} {z0 : Nat} {l : Launch} : ∀ (a0 : Option Nat) (a1 : Option Nat) (σ : SG), V D z0 l RX4 cX4_copyFrom 2 wsX4_copyFrom none rmX4_copyFrom false tvU 0 [some (va_rf a0), some (va_rf a1)] [] σ 0 0 (m_X4_copyFrom a0 a1 σ) := by
  intro a0 a1 σ
  unfold m_X4_copyFrom
  refine V_aload_n (x := a0) dX4_copyFrom_0 rfl ?_
  refine V_aload_n (x := a1) dX4_copyFrom_1 rfl ?_
  refine V_getI fd_X4_copyFrom_9_X4 dX4_copyFrom_2 (fun x1 => ?_)
  refine V_putZ fd_X4_copyFrom_9_X4 fw_X4_copyFrom_X4_0 (fun h => by cases h) dX4_copyFrom_5 (fun σ2 hσ2 => ?_)
  refine V_aload_n (x := a0) dX4_copyFrom_8 rfl ?_
  refine V_aload_n (x := a1) dX4_copyFrom_9 rfl ?_
  refine V_getI fd_X4_copyFrom_15_X4 dX4_copyFrom_10 (fun x3 => ?_)
  refine V_putI fd_X4_copyFrom_15_X4 fw_X4_copyFrom_X4_1 (fun h => by cases h) dX4_copyFrom_13 (fun σ4 hσ4 => ?_)
  refine V_aload_n (x := a0) dX4_copyFrom_16 rfl ?_
  refine V_aload_n (x := a1) dX4_copyFrom_17 rfl ?_
  refine V_getI fd_X4_copyFrom_19_X4 dX4_copyFrom_18 (fun x5 => ?_)
  refine V_putI fd_X4_copyFrom_19_X4 fw_X4_copyFrom_X4_2 (fun h => by cases h) dX4_copyFrom_21 (fun σ6 hσ6 => ?_)
  refine V_aload_n (x := a0) dX4_copyFrom_24 rfl ?_
  refine V_aload_n (x := a1) dX4_copyFrom_25 rfl ?_
  refine V_getI fd_X4_copyFrom_22_X4 dX4_copyFrom_26 (fun x7 => ?_)
  refine V_putI fd_X4_copyFrom_22_X4 fw_X4_copyFrom_X4_3 (fun h => by cases h) dX4_copyFrom_29 (fun σ8 hσ8 => ?_)
  refine V_aload_n (x := a0) dX4_copyFrom_32 rfl ?_
  refine V_aload_n (x := a1) dX4_copyFrom_33 rfl ?_
  refine V_getI fd_X4_copyFrom_25_X4 dX4_copyFrom_34 (fun x9 => ?_)
  refine V_putI fd_X4_copyFrom_25_X4 fw_X4_copyFrom_X4_4 (fun h => by cases h) dX4_copyFrom_37 (fun σ10 hσ10 => ?_)
  refine V_aload_n (x := a0) dX4_copyFrom_40 rfl ?_
  refine V_aload_n (x := a1) dX4_copyFrom_41 rfl ?_
  refine V_getI fd_X4_copyFrom_28_X4 dX4_copyFrom_42 (fun x11 => ?_)
  refine V_putI fd_X4_copyFrom_28_X4 fw_X4_copyFrom_X4_5 (fun h => by cases h) dX4_copyFrom_45 (fun σ12 hσ12 => ?_)
  refine V_aload_n (x := a0) dX4_copyFrom_48 rfl ?_
  refine V_aload_n (x := a1) dX4_copyFrom_49 rfl ?_
  refine V_getI fd_X4_copyFrom_31_X4 dX4_copyFrom_50 (fun x13 => ?_)
  refine V_putI fd_X4_copyFrom_31_X4 fw_X4_copyFrom_X4_6 (fun h => by cases h) dX4_copyFrom_53 (fun σ14 hσ14 => ?_)
  exact V_vret (fun _ => rfl) rfl (Nat.zero_le _) (Nat.zero_le _) dX4_copyFrom_56
theorem t_X4_copyFrom {D : DG} {z0 : Nat} {l : Launch} (a : Nat) (a1 : Option Nat) (σ : SG) : MT D z0 l yX4_copyFrom wsX4_copyFrom rmX4_copyFrom tvU [.ref a, va_rf a1] σ (m_X4_copyFrom (some a) a1 σ) :=
  MT.of (own := RX4) (cc := cX4_copyFrom) (nL := 2) (ret := none) (ct := false) (by decide) rfl rfl (fun h => by cases h) (Nat.le_of_ble_eq_true rfl) (by intro v hv; simp only [List.mem_cons, List.not_mem_nil, or_false] at hv; first | (rcases hv with rfl | rfl <;> first | rfl | exact va_rf_cat _) | exact absurd hv (fun h => h)) (v_X4_copyFrom (some a) a1 σ)
theorem in_X3_copyFrom_X3 : ∀ w ∈ u_ws RX3 TX3 8, w ∈ wsX3_copyFrom := by decide +kernel
theorem wd_X3_copyFrom_1 : Cond.fieldLink RX3 35 "MainsWords$Net" "settings" "[I" ∈ wsX3_copyFrom := by decide +kernel
theorem fd_X3_copyFrom_35_X3 : FD RX3 35 wsX3_copyFrom 3 4 := ⟨RX3, "MainsWords$Net", TX3, 8, rfl, in_X3_copyFrom_X3, by decide, wd_X3_copyFrom_1, Or.inl rfl⟩
theorem wd_X3_copyFrom_3 : Cond.initialized RX8 ∈ wsX3_copyFrom := by decide +kernel
theorem wd_X3_copyFrom_4 : Cond.static yX8_copyRow ∈ wsX3_copyFrom := by decide +kernel
theorem wd_X3_copyFrom_5 : Cond.fieldLink RX3 39 "MainsWords$Net" "totals" "[I" ∈ wsX3_copyFrom := by decide +kernel
theorem fd_X3_copyFrom_39_X3 : FD RX3 39 wsX3_copyFrom 3 5 := ⟨RX3, "MainsWords$Net", TX3, 8, rfl, in_X3_copyFrom_X3, by decide, wd_X3_copyFrom_5, Or.inl rfl⟩
theorem wd_X3_copyFrom_7 : Cond.fieldLink RX3 42 "MainsWords$Net" "time" "I" ∈ wsX3_copyFrom := by decide +kernel
theorem fd_X3_copyFrom_42_X3 : FD RX3 42 wsX3_copyFrom 3 6 := ⟨RX3, "MainsWords$Net", TX3, 8, rfl, in_X3_copyFrom_X3, by decide, wd_X3_copyFrom_7, Or.inl rfl⟩
theorem fw_X3_copyFrom_X3_6 : FW RX3 wsX3_copyFrom 3 6 .int false := ⟨RX3, TX3, 8, tyX3, rfl, in_X3_copyFrom_X3, tyX3_ok, nmX3, rfl, (fun h => by cases h), rfl⟩
theorem wd_X3_copyFrom_10 : Cond.fieldLink RX3 31 "MainsWords$Net" "receivers" "[LMainsWords$Receiver;" ∈ wsX3_copyFrom := by decide +kernel
theorem fd_X3_copyFrom_31_X3 : FD RX3 31 wsX3_copyFrom 3 3 := ⟨RX3, "MainsWords$Net", TX3, 8, rfl, in_X3_copyFrom_X3, by decide, wd_X3_copyFrom_10, Or.inl rfl⟩
theorem wd_X3_copyFrom_12 : Cond.fieldLink RX3 25 "MainsWords$Net" "lamps" "[LMainsWords$Lamp;" ∈ wsX3_copyFrom := by decide +kernel
theorem fd_X3_copyFrom_25_X3 : FD RX3 25 wsX3_copyFrom 3 2 := ⟨RX3, "MainsWords$Net", TX3, 8, rfl, in_X3_copyFrom_X3, by decide, wd_X3_copyFrom_12, Or.inl rfl⟩
theorem wd_X3_copyFrom_14 : Cond.fieldLink RX3 19 "MainsWords$Net" "machines" "[LMainsWords$Machine;" ∈ wsX3_copyFrom := by decide +kernel
theorem fd_X3_copyFrom_19_X3 : FD RX3 19 wsX3_copyFrom 3 1 := ⟨RX3, "MainsWords$Net", TX3, 8, rfl, in_X3_copyFrom_X3, by decide, wd_X3_copyFrom_14, Or.inl rfl⟩
theorem wd_X3_copyFrom_16 : Cond.fieldLink RX3 11 "MainsWords$Net" "senders" "[LMainsWords$Sender;" ∈ wsX3_copyFrom := by decide +kernel
theorem fd_X3_copyFrom_11_X3 : FD RX3 11 wsX3_copyFrom 3 0 := ⟨RX3, "MainsWords$Net", TX3, 8, rfl, in_X3_copyFrom_X3, by decide, wd_X3_copyFrom_16, Or.inl rfl⟩
set_option maxRecDepth 100000 in
set_option maxHeartbeats 4000000 in
theorem v_X3_copyFrom_b164 {D : DG} {z0 : Nat} {l : Launch} : ∀ (v0 : Option Nat) (v1 : Option Nat) (σ : SG), V D z0 l RX3 cX3_copyFrom 3 wsX3_copyFrom none rmX3_copyFrom false tvU 164 [some (va_rf v0), some (va_rf v1), none] [] σ 0 0 (m_X3_copyFrom_b164 v0 v1 σ) := by
  intro v0 v1 σ
  unfold m_X3_copyFrom_b164
  refine V_aload_n (x := v1) dX3_copyFrom_164 rfl ?_
  refine V_getR fd_X3_copyFrom_35_X3 dX3_copyFrom_165 (fun x1 => ?_)
  refine V_aload_n (x := v0) dX3_copyFrom_168 rfl ?_
  refine V_getR fd_X3_copyFrom_35_X3 dX3_copyFrom_169 (fun x2 => ?_)
  refine V_callSN0 (host := "MainsWords") (As := [va_rf x1, va_rf x2]) (st0 := []) (stI := [va_rf x2, va_rf x1]) (t_X8_copyRow x1 x2 σ) rfl (Nat.le_of_ble_eq_true rfl) rfl (by decide +kernel) (fun s args hts hnw => ⟨va_cnB 2 hts gX3_copyFrom_X8_copyRow_n69 rfl rfl rfl hnw (hts _ wd_X3_copyFrom_3) (by decide +kernel) ⟨Nat.le_of_ble_eq_true rfl, Nat.le_of_ble_eq_true rfl⟩, hts _ wd_X3_copyFrom_4, trivial⟩) rfl rfl dX3_copyFrom_172 (fun _ σ3 _ => ?_)
  refine V_aload_n (x := v1) dX3_copyFrom_175 rfl ?_
  refine V_getR fd_X3_copyFrom_39_X3 dX3_copyFrom_176 (fun x4 => ?_)
  refine V_aload_n (x := v0) dX3_copyFrom_179 rfl ?_
  refine V_getR fd_X3_copyFrom_39_X3 dX3_copyFrom_180 (fun x5 => ?_)
  refine V_callSN0 (host := "MainsWords") (As := [va_rf x4, va_rf x5]) (st0 := []) (stI := [va_rf x5, va_rf x4]) (t_X8_copyRow x4 x5 σ3) rfl (Nat.le_of_ble_eq_true rfl) rfl (by decide +kernel) (fun s args hts hnw => ⟨va_cnB 2 hts gX3_copyFrom_X8_copyRow_n69 rfl rfl rfl hnw (hts _ wd_X3_copyFrom_3) (by decide +kernel) ⟨Nat.le_of_ble_eq_true rfl, Nat.le_of_ble_eq_true rfl⟩, hts _ wd_X3_copyFrom_4, trivial⟩) rfl rfl dX3_copyFrom_183 (fun _ σ6 _ => ?_)
  refine V_aload_n (x := v0) dX3_copyFrom_186 rfl ?_
  refine V_aload_n (x := v1) dX3_copyFrom_187 rfl ?_
  refine V_getI fd_X3_copyFrom_42_X3 dX3_copyFrom_188 (fun x7 => ?_)
  refine V_putI fd_X3_copyFrom_42_X3 fw_X3_copyFrom_X3_6 (fun h => by cases h) dX3_copyFrom_191 (fun σ8 hσ8 => ?_)
  exact V_vret (fun _ => rfl) rfl (Nat.zero_le _) (Nat.zero_le _) dX3_copyFrom_194
set_option maxRecDepth 100000 in
set_option maxHeartbeats 4000000 in
theorem v_X3_copyFrom_B125 {D : DG} {z0 : Nat} {l : Launch} {rec125 : Option Nat → Option Nat → Int32 → SG → Option (Unit × SG)} (hrec125 : ∀ (v0 : Option Nat) (v1 : Option Nat) (v2 : Int32) (σ : SG), V D z0 l RX3 cX3_copyFrom 3 wsX3_copyFrom none rmX3_copyFrom false tvU 125 [some (va_rf v0), some (va_rf v1), some (.int v2)] [] σ 0 0 (rec125 v0 v1 v2 σ)) : ∀ (v0 : Option Nat) (v1 : Option Nat) (v2 : Int32) (σ : SG), V D z0 l RX3 cX3_copyFrom 3 wsX3_copyFrom none rmX3_copyFrom false tvU 125 [some (va_rf v0), some (va_rf v1), some (.int v2)] [] σ 0 0 (m_X3_copyFrom_B125 rec125 v0 v1 v2 σ) := by
  intro v0 v1 v2 σ
  unfold m_X3_copyFrom_B125
  refine V_iload_n (x := v2) dX3_copyFrom_125 rfl ?_
  refine V_aload_n (x := v0) dX3_copyFrom_126 rfl ?_
  refine V_getR fd_X3_copyFrom_31_X3 dX3_copyFrom_127 (fun x9 => ?_)
  refine V_alen dX3_copyFrom_130 (fun x10 => ?_)
  refine V_icmp_ge (tgt := 164) (x := v2) (y := x10) dX3_copyFrom_131 (by decide) (fun hc11 => ?_) (fun hc11 => ?_)
  · exact V_sub (LE.s (LE.s (LE.n LE.e))) (v_X3_copyFrom_b164  v0 v1 σ)
  · refine V_iload_n (x := v2) dX3_copyFrom_134 rfl ?_
    refine V_aload_n (x := v1) dX3_copyFrom_135 rfl ?_
    refine V_getR fd_X3_copyFrom_31_X3 dX3_copyFrom_136 (fun x12 => ?_)
    refine V_alen dX3_copyFrom_139 (fun x13 => ?_)
    refine V_icmp_ge (tgt := 164) (x := v2) (y := x13) dX3_copyFrom_140 (by decide) (fun hc14 => ?_) (fun hc14 => ?_)
    · exact V_sub (LE.s (LE.s (LE.n LE.e))) (v_X3_copyFrom_b164  v0 v1 σ)
    · refine V_aload_n (x := v0) dX3_copyFrom_143 rfl ?_
      refine V_getR fd_X3_copyFrom_31_X3 dX3_copyFrom_144 (fun x15 => ?_)
      refine V_iload_n (x := v2) dX3_copyFrom_147 rfl ?_
      refine V_aaload dX3_copyFrom_148 (fun x16 => ?_)
      refine V_aload_n (x := v1) dX3_copyFrom_149 rfl ?_
      refine V_getR fd_X3_copyFrom_31_X3 dX3_copyFrom_150 (fun x17 => ?_)
      refine V_iload_n (x := v2) dX3_copyFrom_153 rfl ?_
      refine V_aaload dX3_copyFrom_154 (fun x18 => ?_)
      refine V_callV0 (As := [va_rf x18]) (st0 := []) (stI := [va_rf x18, va_rf x16]) (fun _ h => by cases h; exact t_X4_copyFrom _ x18 σ) (q := (RX4, TX4, 7)) rfl rfl rfl (Nat.le_of_ble_eq_true rfl) rfl (fun s args hts => cwV 1 hts gX3_copyFrom_X4_copyFrom rfl rfl rfl (by decide +kernel) ⟨Nat.le_of_ble_eq_true rfl, Nat.le_of_ble_eq_true rfl⟩) rfl rfl dX3_copyFrom_155 (fun _ σ19 _ => ?_)
      refine V_iinc (x := v2) (v := (v2 + 1)) (ls' := [some (va_rf v0), some (va_rf v1), some (.int (v2 + 1))]) dX3_copyFrom_158 rfl rfl (by decide) rfl ?_
      refine V_goto (tgt := 125) dX3_copyFrom_161 (by decide) ?_
      exact hrec125 v0 v1 ((v2 + 1)) σ19
theorem v_X3_copyFrom_L125 {D : DG} {z0 : Nat} {l : Launch} : ∀ (n : Nat) (v0 : Option Nat) (v1 : Option Nat) (v2 : Int32) (σ : SG), V D z0 l RX3 cX3_copyFrom 3 wsX3_copyFrom none rmX3_copyFrom false tvU 125 [some (va_rf v0), some (va_rf v1), some (.int v2)] [] σ 0 0 (m_X3_copyFrom_L125 n v0 v1 v2 σ) := by
  intro n
  induction n with
  | zero => intros; exact V_none
  | succ n ih => exact v_X3_copyFrom_B125  ih
set_option maxRecDepth 100000 in
set_option maxHeartbeats 4000000 in
theorem v_X3_copyFrom_b123 {D : DG} {z0 : Nat} {l : Launch} : ∀ (v0 : Option Nat) (v1 : Option Nat) (σ : SG), V D z0 l RX3 cX3_copyFrom 3 wsX3_copyFrom none rmX3_copyFrom false tvU 123 [some (va_rf v0), some (va_rf v1), none] [] σ 0 0 (m_X3_copyFrom_b123 v0 v1 σ) := by
  intro v0 v1 σ
  unfold m_X3_copyFrom_b123
  refine V_iconst (v := (0 : Int32)) dX3_copyFrom_123 rfl ?_
  refine V_istore_n (x := (0 : Int32)) (ls' := [some (va_rf v0), some (va_rf v1), some (.int (0 : Int32))]) dX3_copyFrom_124 (by decide) rfl ?_
  exact v_X3_copyFrom_L125  1000 v0 v1 ((0 : Int32)) σ
set_option maxRecDepth 100000 in
set_option maxHeartbeats 4000000 in
theorem v_X3_copyFrom_B84 {D : DG} {z0 : Nat} {l : Launch} {rec84 : Option Nat → Option Nat → Int32 → SG → Option (Unit × SG)} (hrec84 : ∀ (v0 : Option Nat) (v1 : Option Nat) (v2 : Int32) (σ : SG), V D z0 l RX3 cX3_copyFrom 3 wsX3_copyFrom none rmX3_copyFrom false tvU 84 [some (va_rf v0), some (va_rf v1), some (.int v2)] [] σ 0 0 (rec84 v0 v1 v2 σ)) : ∀ (v0 : Option Nat) (v1 : Option Nat) (v2 : Int32) (σ : SG), V D z0 l RX3 cX3_copyFrom 3 wsX3_copyFrom none rmX3_copyFrom false tvU 84 [some (va_rf v0), some (va_rf v1), some (.int v2)] [] σ 0 0 (m_X3_copyFrom_B84 rec84 v0 v1 v2 σ) := by
  intro v0 v1 v2 σ
  unfold m_X3_copyFrom_B84
  refine V_iload_n (x := v2) dX3_copyFrom_84 rfl ?_
  refine V_aload_n (x := v0) dX3_copyFrom_85 rfl ?_
  refine V_getR fd_X3_copyFrom_25_X3 dX3_copyFrom_86 (fun x20 => ?_)
  refine V_alen dX3_copyFrom_89 (fun x21 => ?_)
  refine V_icmp_ge (tgt := 123) (x := v2) (y := x21) dX3_copyFrom_90 (by decide) (fun hc22 => ?_) (fun hc22 => ?_)
  · exact V_sub (LE.s (LE.s (LE.n LE.e))) (v_X3_copyFrom_b123  v0 v1 σ)
  · refine V_iload_n (x := v2) dX3_copyFrom_93 rfl ?_
    refine V_aload_n (x := v1) dX3_copyFrom_94 rfl ?_
    refine V_getR fd_X3_copyFrom_25_X3 dX3_copyFrom_95 (fun x23 => ?_)
    refine V_alen dX3_copyFrom_98 (fun x24 => ?_)
    refine V_icmp_ge (tgt := 123) (x := v2) (y := x24) dX3_copyFrom_99 (by decide) (fun hc25 => ?_) (fun hc25 => ?_)
    · exact V_sub (LE.s (LE.s (LE.n LE.e))) (v_X3_copyFrom_b123  v0 v1 σ)
    · refine V_aload_n (x := v0) dX3_copyFrom_102 rfl ?_
      refine V_getR fd_X3_copyFrom_25_X3 dX3_copyFrom_103 (fun x26 => ?_)
      refine V_iload_n (x := v2) dX3_copyFrom_106 rfl ?_
      refine V_aaload dX3_copyFrom_107 (fun x27 => ?_)
      refine V_aload_n (x := v1) dX3_copyFrom_108 rfl ?_
      refine V_getR fd_X3_copyFrom_25_X3 dX3_copyFrom_109 (fun x28 => ?_)
      refine V_iload_n (x := v2) dX3_copyFrom_112 rfl ?_
      refine V_aaload dX3_copyFrom_113 (fun x29 => ?_)
      refine V_callV0 (As := [va_rf x29]) (st0 := []) (stI := [va_rf x29, va_rf x27]) (fun _ h => by cases h; exact t_X1_copyFrom _ x29 σ) (q := (RX1, TX1, 7)) rfl rfl rfl (Nat.le_of_ble_eq_true rfl) rfl (fun s args hts => cwV 1 hts gX3_copyFrom_X1_copyFrom rfl rfl rfl (by decide +kernel) ⟨Nat.le_of_ble_eq_true rfl, Nat.le_of_ble_eq_true rfl⟩) rfl rfl dX3_copyFrom_114 (fun _ σ30 _ => ?_)
      refine V_iinc (x := v2) (v := (v2 + 1)) (ls' := [some (va_rf v0), some (va_rf v1), some (.int (v2 + 1))]) dX3_copyFrom_117 rfl rfl (by decide) rfl ?_
      refine V_goto (tgt := 84) dX3_copyFrom_120 (by decide) ?_
      exact hrec84 v0 v1 ((v2 + 1)) σ30
theorem v_X3_copyFrom_L84 {D : DG} {z0 : Nat} {l : Launch} : ∀ (n : Nat) (v0 : Option Nat) (v1 : Option Nat) (v2 : Int32) (σ : SG), V D z0 l RX3 cX3_copyFrom 3 wsX3_copyFrom none rmX3_copyFrom false tvU 84 [some (va_rf v0), some (va_rf v1), some (.int v2)] [] σ 0 0 (m_X3_copyFrom_L84 n v0 v1 v2 σ) := by
  intro n
  induction n with
  | zero => intros; exact V_none
  | succ n ih => exact v_X3_copyFrom_B84  ih
set_option maxRecDepth 100000 in
set_option maxHeartbeats 4000000 in
theorem v_X3_copyFrom_b82 {D : DG} {z0 : Nat} {l : Launch} : ∀ (v0 : Option Nat) (v1 : Option Nat) (σ : SG), V D z0 l RX3 cX3_copyFrom 3 wsX3_copyFrom none rmX3_copyFrom false tvU 82 [some (va_rf v0), some (va_rf v1), none] [] σ 0 0 (m_X3_copyFrom_b82 v0 v1 σ) := by
  intro v0 v1 σ
  unfold m_X3_copyFrom_b82
  refine V_iconst (v := (0 : Int32)) dX3_copyFrom_82 rfl ?_
  refine V_istore_n (x := (0 : Int32)) (ls' := [some (va_rf v0), some (va_rf v1), some (.int (0 : Int32))]) dX3_copyFrom_83 (by decide) rfl ?_
  exact v_X3_copyFrom_L84  1000 v0 v1 ((0 : Int32)) σ
set_option maxRecDepth 100000 in
set_option maxHeartbeats 4000000 in
theorem v_X3_copyFrom_B43 {D : DG} {z0 : Nat} {l : Launch} {rec43 : Option Nat → Option Nat → Int32 → SG → Option (Unit × SG)} (hrec43 : ∀ (v0 : Option Nat) (v1 : Option Nat) (v2 : Int32) (σ : SG), V D z0 l RX3 cX3_copyFrom 3 wsX3_copyFrom none rmX3_copyFrom false tvU 43 [some (va_rf v0), some (va_rf v1), some (.int v2)] [] σ 0 0 (rec43 v0 v1 v2 σ)) : ∀ (v0 : Option Nat) (v1 : Option Nat) (v2 : Int32) (σ : SG), V D z0 l RX3 cX3_copyFrom 3 wsX3_copyFrom none rmX3_copyFrom false tvU 43 [some (va_rf v0), some (va_rf v1), some (.int v2)] [] σ 0 0 (m_X3_copyFrom_B43 rec43 v0 v1 v2 σ) := by
  intro v0 v1 v2 σ
  unfold m_X3_copyFrom_B43
  refine V_iload_n (x := v2) dX3_copyFrom_43 rfl ?_
  refine V_aload_n (x := v0) dX3_copyFrom_44 rfl ?_
  refine V_getR fd_X3_copyFrom_19_X3 dX3_copyFrom_45 (fun x31 => ?_)
  refine V_alen dX3_copyFrom_48 (fun x32 => ?_)
  refine V_icmp_ge (tgt := 82) (x := v2) (y := x32) dX3_copyFrom_49 (by decide) (fun hc33 => ?_) (fun hc33 => ?_)
  · exact V_sub (LE.s (LE.s (LE.n LE.e))) (v_X3_copyFrom_b82  v0 v1 σ)
  · refine V_iload_n (x := v2) dX3_copyFrom_52 rfl ?_
    refine V_aload_n (x := v1) dX3_copyFrom_53 rfl ?_
    refine V_getR fd_X3_copyFrom_19_X3 dX3_copyFrom_54 (fun x34 => ?_)
    refine V_alen dX3_copyFrom_57 (fun x35 => ?_)
    refine V_icmp_ge (tgt := 82) (x := v2) (y := x35) dX3_copyFrom_58 (by decide) (fun hc36 => ?_) (fun hc36 => ?_)
    · exact V_sub (LE.s (LE.s (LE.n LE.e))) (v_X3_copyFrom_b82  v0 v1 σ)
    · refine V_aload_n (x := v0) dX3_copyFrom_61 rfl ?_
      refine V_getR fd_X3_copyFrom_19_X3 dX3_copyFrom_62 (fun x37 => ?_)
      refine V_iload_n (x := v2) dX3_copyFrom_65 rfl ?_
      refine V_aaload dX3_copyFrom_66 (fun x38 => ?_)
      refine V_aload_n (x := v1) dX3_copyFrom_67 rfl ?_
      refine V_getR fd_X3_copyFrom_19_X3 dX3_copyFrom_68 (fun x39 => ?_)
      refine V_iload_n (x := v2) dX3_copyFrom_71 rfl ?_
      refine V_aaload dX3_copyFrom_72 (fun x40 => ?_)
      refine V_callV0 (As := [va_rf x40]) (st0 := []) (stI := [va_rf x40, va_rf x38]) (fun _ h => by cases h; exact t_X2_copyFrom _ x40 σ) (q := (RX2, TX2, 6)) rfl rfl rfl (Nat.le_of_ble_eq_true rfl) rfl (fun s args hts => cwV 1 hts gX3_copyFrom_X2_copyFrom rfl rfl rfl (by decide +kernel) ⟨Nat.le_of_ble_eq_true rfl, Nat.le_of_ble_eq_true rfl⟩) rfl rfl dX3_copyFrom_73 (fun _ σ41 _ => ?_)
      refine V_iinc (x := v2) (v := (v2 + 1)) (ls' := [some (va_rf v0), some (va_rf v1), some (.int (v2 + 1))]) dX3_copyFrom_76 rfl rfl (by decide) rfl ?_
      refine V_goto (tgt := 43) dX3_copyFrom_79 (by decide) ?_
      exact hrec43 v0 v1 ((v2 + 1)) σ41
theorem v_X3_copyFrom_L43 {D : DG} {z0 : Nat} {l : Launch} : ∀ (n : Nat) (v0 : Option Nat) (v1 : Option Nat) (v2 : Int32) (σ : SG), V D z0 l RX3 cX3_copyFrom 3 wsX3_copyFrom none rmX3_copyFrom false tvU 43 [some (va_rf v0), some (va_rf v1), some (.int v2)] [] σ 0 0 (m_X3_copyFrom_L43 n v0 v1 v2 σ) := by
  intro n
  induction n with
  | zero => intros; exact V_none
  | succ n ih => exact v_X3_copyFrom_B43  ih
set_option maxRecDepth 100000 in
set_option maxHeartbeats 4000000 in
theorem v_X3_copyFrom_b41 {D : DG} {z0 : Nat} {l : Launch} : ∀ (v0 : Option Nat) (v1 : Option Nat) (σ : SG), V D z0 l RX3 cX3_copyFrom 3 wsX3_copyFrom none rmX3_copyFrom false tvU 41 [some (va_rf v0), some (va_rf v1), none] [] σ 0 0 (m_X3_copyFrom_b41 v0 v1 σ) := by
  intro v0 v1 σ
  unfold m_X3_copyFrom_b41
  refine V_iconst (v := (0 : Int32)) dX3_copyFrom_41 rfl ?_
  refine V_istore_n (x := (0 : Int32)) (ls' := [some (va_rf v0), some (va_rf v1), some (.int (0 : Int32))]) dX3_copyFrom_42 (by decide) rfl ?_
  exact v_X3_copyFrom_L43  1000 v0 v1 ((0 : Int32)) σ
set_option maxRecDepth 100000 in
set_option maxHeartbeats 4000000 in
theorem v_X3_copyFrom_B2 {D : DG} {z0 : Nat} {l : Launch} {rec2 : Option Nat → Option Nat → Int32 → SG → Option (Unit × SG)} (hrec2 : ∀ (v0 : Option Nat) (v1 : Option Nat) (v2 : Int32) (σ : SG), V D z0 l RX3 cX3_copyFrom 3 wsX3_copyFrom none rmX3_copyFrom false tvU 2 [some (va_rf v0), some (va_rf v1), some (.int v2)] [] σ 0 0 (rec2 v0 v1 v2 σ)) : ∀ (v0 : Option Nat) (v1 : Option Nat) (v2 : Int32) (σ : SG), V D z0 l RX3 cX3_copyFrom 3 wsX3_copyFrom none rmX3_copyFrom false tvU 2 [some (va_rf v0), some (va_rf v1), some (.int v2)] [] σ 0 0 (m_X3_copyFrom_B2 rec2 v0 v1 v2 σ) := by
  intro v0 v1 v2 σ
  unfold m_X3_copyFrom_B2
  refine V_iload_n (x := v2) dX3_copyFrom_2 rfl ?_
  refine V_aload_n (x := v0) dX3_copyFrom_3 rfl ?_
  refine V_getR fd_X3_copyFrom_11_X3 dX3_copyFrom_4 (fun x42 => ?_)
  refine V_alen dX3_copyFrom_7 (fun x43 => ?_)
  refine V_icmp_ge (tgt := 41) (x := v2) (y := x43) dX3_copyFrom_8 (by decide) (fun hc44 => ?_) (fun hc44 => ?_)
  · exact V_sub (LE.s (LE.s (LE.n LE.e))) (v_X3_copyFrom_b41  v0 v1 σ)
  · refine V_iload_n (x := v2) dX3_copyFrom_11 rfl ?_
    refine V_aload_n (x := v1) dX3_copyFrom_12 rfl ?_
    refine V_getR fd_X3_copyFrom_11_X3 dX3_copyFrom_13 (fun x45 => ?_)
    refine V_alen dX3_copyFrom_16 (fun x46 => ?_)
    refine V_icmp_ge (tgt := 41) (x := v2) (y := x46) dX3_copyFrom_17 (by decide) (fun hc47 => ?_) (fun hc47 => ?_)
    · exact V_sub (LE.s (LE.s (LE.n LE.e))) (v_X3_copyFrom_b41  v0 v1 σ)
    · refine V_aload_n (x := v0) dX3_copyFrom_20 rfl ?_
      refine V_getR fd_X3_copyFrom_11_X3 dX3_copyFrom_21 (fun x48 => ?_)
      refine V_iload_n (x := v2) dX3_copyFrom_24 rfl ?_
      refine V_aaload dX3_copyFrom_25 (fun x49 => ?_)
      refine V_aload_n (x := v1) dX3_copyFrom_26 rfl ?_
      refine V_getR fd_X3_copyFrom_11_X3 dX3_copyFrom_27 (fun x50 => ?_)
      refine V_iload_n (x := v2) dX3_copyFrom_30 rfl ?_
      refine V_aaload dX3_copyFrom_31 (fun x51 => ?_)
      refine V_callV0 (As := [va_rf x51]) (st0 := []) (stI := [va_rf x51, va_rf x49]) (fun _ h => by cases h; exact t_X6_copyFrom _ x51 σ) (q := (RX6, TX6, 10)) rfl rfl rfl (Nat.le_of_ble_eq_true rfl) rfl (fun s args hts => cwV 1 hts gX3_copyFrom_X6_copyFrom rfl rfl rfl (by decide +kernel) ⟨Nat.le_of_ble_eq_true rfl, Nat.le_of_ble_eq_true rfl⟩) rfl rfl dX3_copyFrom_32 (fun _ σ52 _ => ?_)
      refine V_iinc (x := v2) (v := (v2 + 1)) (ls' := [some (va_rf v0), some (va_rf v1), some (.int (v2 + 1))]) dX3_copyFrom_35 rfl rfl (by decide) rfl ?_
      refine V_goto (tgt := 2) dX3_copyFrom_38 (by decide) ?_
      exact hrec2 v0 v1 ((v2 + 1)) σ52
theorem v_X3_copyFrom_L2 {D : DG} {z0 : Nat} {l : Launch} : ∀ (n : Nat) (v0 : Option Nat) (v1 : Option Nat) (v2 : Int32) (σ : SG), V D z0 l RX3 cX3_copyFrom 3 wsX3_copyFrom none rmX3_copyFrom false tvU 2 [some (va_rf v0), some (va_rf v1), some (.int v2)] [] σ 0 0 (m_X3_copyFrom_L2 n v0 v1 v2 σ) := by
  intro n
  induction n with
  | zero => intros; exact V_none
  | succ n ih => exact v_X3_copyFrom_B2  ih
set_option maxRecDepth 100000 in
set_option maxHeartbeats 4000000 in
theorem v_X3_copyFrom {D : DG} {z0 : Nat} {l : Launch} : ∀ (a0 : Option Nat) (a1 : Option Nat) (σ : SG), V D z0 l RX3 cX3_copyFrom 3 wsX3_copyFrom none rmX3_copyFrom false tvU 0 [some (va_rf a0), some (va_rf a1), none] [] σ 0 0 (m_X3_copyFrom a0 a1 σ) := by
  intro a0 a1 σ
  unfold m_X3_copyFrom
  refine V_iconst (v := (0 : Int32)) dX3_copyFrom_0 rfl ?_
  refine V_istore_n (x := (0 : Int32)) (ls' := [some (va_rf a0), some (va_rf a1), some (.int (0 : Int32))]) dX3_copyFrom_1 (by decide) rfl ?_
  exact v_X3_copyFrom_L2  1000 a0 a1 ((0 : Int32)) σ
theorem t_X3_copyFrom {D : DG} {z0 : Nat} {l : Launch} (a : Nat) (a1 : Option Nat) (σ : SG) : MT D z0 l yX3_copyFrom wsX3_copyFrom rmX3_copyFrom tvU [.ref a, va_rf a1] σ (m_X3_copyFrom (some a) a1 σ) :=
  MT.of (own := RX3) (cc := cX3_copyFrom) (nL := 3) (ret := none) (ct := false) (by decide) rfl rfl (fun h => by cases h) (Nat.le_of_ble_eq_true rfl) (by intro v hv; simp only [List.mem_cons, List.not_mem_nil, or_false] at hv; first | (rcases hv with rfl | rfl <;> first | rfl | exact va_rf_cat _) | exact absurd hv (fun h => h)) (v_X3_copyFrom (some a) a1 σ)
