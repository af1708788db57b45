set_option maxRecDepth 100000 in
set_option maxHeartbeats 4000000 in
theorem v_L_areReceivers_b295 {D : DG} {z0 : Nat} {l : Launch} : ∀ (v0 : Option Nat) (v1 : Int32) (s0 : UInt32) (σ : SG), V D z0 l RL cL_areReceivers 9 wsL_areReceivers (some .boolean) rmL_areReceivers false tvI 295 [some (va_rf v0), some (.int v1), none, none, none, none, none, none, none] [.float s0] σ 0 0 (m_L_areReceivers_b295 v0 v1 s0 σ) := by
  intro v0 v1 s0 σ
  unfold m_L_areReceivers_b295
  refine V_fstore_n (x := s0) (ls' := [some (va_rf v0), some (.int v1), none, some (.float s0), none, none, none, none, none]) dL_areReceivers_295 (by decide) rfl ?_
  refine V_iload_n (x := v1) dL_areReceivers_296 rfl ?_
  refine V_if_eq (tgt := 313) (x := v1) dL_areReceivers_297 (by decide) (fun hc1 => ?_) (fun hc1 => ?_)
  · refine V_iconst (v := (0 : Int32)) dL_areReceivers_313 rfl ?_
    exact V_zret (fun _ => rfl) rfl (Nat.zero_le _) (Nat.zero_le _) dL_areReceivers_314
  · refine V_aload_n (x := v0) dL_areReceivers_300 rfl ?_
    refine V_callV0 (As := []) (st0 := []) (stI := [va_rf v0]) (fun _ h => by cases h; exact t_X8_freshness _ σ) (q := (RX8, TX8, 6)) rfl rfl rfl (Nat.le_of_ble_eq_true rfl) rfl (fun s args hts => cwV 0 hts gL_areReceivers_X8_freshness rfl rfl rfl (by decide +kernel) ⟨Nat.le_of_ble_eq_true rfl, Nat.le_of_ble_eq_true rfl⟩) rfl rfl dL_areReceivers_301 (fun r2 σ3 _ => ?_)
    refine V_fload_n (x := s0) dL_areReceivers_304 rfl ?_
    refine V_fcmp (x := r2) (y := s0) dL_areReceivers_305 ?_
    refine V_if_ne (tgt := 313) (x := (Op.cmpValue (FP.fcmp r2 s0) .l)) dL_areReceivers_306 (by decide) (fun hc4 => ?_) (fun hc4 => ?_)
    · refine V_iconst (v := (1 : Int32)) dL_areReceivers_309 rfl ?_
      refine V_goto (tgt := 314) dL_areReceivers_310 (by decide) ?_
      exact V_zret (fun _ => rfl) rfl (Nat.zero_le _) (Nat.zero_le _) dL_areReceivers_314
    · refine V_iconst (v := (0 : Int32)) dL_areReceivers_313 rfl ?_
      exact V_zret (fun _ => rfl) rfl (Nat.zero_le _) (Nat.zero_le _) dL_areReceivers_314
set_option maxRecDepth 100000 in
set_option maxHeartbeats 4000000 in
theorem v_L_areReceivers_b260 {D : DG} {z0 : Nat} {l : Launch} : ∀ (v0 : Option Nat) (v1 : Int32) (σ : SG), V D z0 l RL cL_areReceivers 9 wsL_areReceivers (some .boolean) rmL_areReceivers false tvI 260 [some (va_rf v0), some (.int v1), none, none, none, none, none, none, none] [] σ 0 0 (m_L_areReceivers_b260 v0 v1 σ) := by
  intro v0 v1 σ
  unfold m_L_areReceivers_b260
  refine V_aload_n (x := v0) dL_areReceivers_260 rfl ?_
  refine V_iconst (v := (2 : Int32)) dL_areReceivers_261 rfl ?_
  refine V_callV0 (As := [.int (2 : Int32)]) (st0 := []) (stI := [.int (2 : Int32), va_rf v0]) (fun _ h => by cases h; exact t_X8_total _ (2 : Int32) σ) (q := (RX8, TX8, 6)) rfl rfl rfl (Nat.le_of_ble_eq_true rfl) rfl (fun s args hts => cwV 1 hts gL_areReceivers_X8_total rfl rfl rfl (by decide +kernel) ⟨Nat.le_of_ble_eq_true rfl, Nat.le_of_ble_eq_true rfl⟩) rfl rfl dL_areReceivers_262 (fun r5 σ6 _ => ?_)
  refine V_aload_n (x := v0) dL_areReceivers_265 rfl ?_
  refine V_iconst (v := (3 : Int32)) dL_areReceivers_266 rfl ?_
  refine V_callV0 (As := [.int (3 : Int32)]) (st0 := [.int r5]) (stI := [.int (3 : Int32), va_rf v0, .int r5]) (fun _ h => by cases h; exact t_X8_total _ (3 : Int32) σ6) (q := (RX8, TX8, 6)) rfl rfl rfl (Nat.le_of_ble_eq_true rfl) rfl (fun s args hts => cwV 1 hts gL_areReceivers_X8_total rfl rfl rfl (by decide +kernel) ⟨Nat.le_of_ble_eq_true rfl, Nat.le_of_ble_eq_true rfl⟩) rfl rfl dL_areReceivers_267 (fun r7 σ8 _ => ?_)
  refine V_iadd (x := r5) (y := r7) dL_areReceivers_270 ?_
  refine V_aload_n (x := v0) dL_areReceivers_271 rfl ?_
  refine V_iconst (v := (4 : Int32)) dL_areReceivers_272 rfl ?_
  refine V_callV0 (As := [.int (4 : Int32)]) (st0 := [.int (r5 + r7)]) (stI := [.int (4 : Int32), va_rf v0, .int (r5 + r7)]) (fun _ h => by cases h; exact t_X8_total _ (4 : Int32) σ8) (q := (RX8, TX8, 6)) rfl rfl rfl (Nat.le_of_ble_eq_true rfl) rfl (fun s args hts => cwV 1 hts gL_areReceivers_X8_total rfl rfl rfl (by decide +kernel) ⟨Nat.le_of_ble_eq_true rfl, Nat.le_of_ble_eq_true rfl⟩) rfl rfl dL_areReceivers_273 (fun r9 σ10 _ => ?_)
  refine V_iadd (x := (r5 + r7)) (y := r9) dL_areReceivers_276 ?_
  refine V_istore_n (x := ((r5 + r7) + r9)) (ls' := [some (va_rf v0), some (.int v1), some (.int ((r5 + r7) + r9)), none, none, none, none, none, none]) dL_areReceivers_277 (by decide) rfl ?_
  refine V_iload_n (x := ((r5 + r7) + r9)) dL_areReceivers_278 rfl ?_
  refine V_if_ne (tgt := 286) (x := ((r5 + r7) + r9)) dL_areReceivers_279 (by decide) (fun hc11 => ?_) (fun hc11 => ?_)
  · refine V_fconst0 dL_areReceivers_282 ?_
    refine V_goto (tgt := 295) dL_areReceivers_283 (by decide) ?_
    exact V_sub (LE.s (LE.s (LE.n (LE.s (LE.s (LE.s (LE.s (LE.s (LE.s LE.e))))))))) (v_L_areReceivers_b295  v0 v1 FP.fconst0 σ10)
  · refine V_aload_n (x := v0) dL_areReceivers_286 rfl ?_
    refine V_iconst (v := (2 : Int32)) dL_areReceivers_287 rfl ?_
    refine V_callV0 (As := [.int (2 : Int32)]) (st0 := []) (stI := [.int (2 : Int32), va_rf v0]) (fun _ h => by cases h; exact t_X8_total _ (2 : Int32) σ10) (q := (RX8, TX8, 6)) rfl rfl rfl (Nat.le_of_ble_eq_true rfl) rfl (fun s args hts => cwV 1 hts gL_areReceivers_X8_total rfl rfl rfl (by decide +kernel) ⟨Nat.le_of_ble_eq_true rfl, Nat.le_of_ble_eq_true rfl⟩) rfl rfl dL_areReceivers_288 (fun r12 σ13 _ => ?_)
    refine V_i2f (x := r12) dL_areReceivers_291 ?_
    refine V_iload_n (x := ((r5 + r7) + r9)) dL_areReceivers_292 rfl ?_
    refine V_i2f (x := ((r5 + r7) + r9)) dL_areReceivers_293 ?_
    refine V_fdiv dL_areReceivers_294 (fun f14 => ?_)
    exact V_sub (LE.s (LE.s (LE.n (LE.s (LE.s (LE.s (LE.s (LE.s (LE.s LE.e))))))))) (v_L_areReceivers_b295  v0 v1 f14 σ13)
set_option maxRecDepth 100000 in
set_option maxHeartbeats 4000000 in
theorem v_L_areReceivers_b254 {D : DG} {z0 : Nat} {l : Launch} {rec4 : Option Nat → Int32 → Int32 → SG → Option (Int32 × SG)} (hrec4 : ∀ (v0 : Option Nat) (v1 : Int32) (v2 : Int32) (σ : SG), V D z0 l RL cL_areReceivers 9 wsL_areReceivers (some .boolean) rmL_areReceivers false tvI 4 [some (va_rf v0), some (.int v1), some (.int v2), none, none, none, none, none, none] [] σ 0 0 (rec4 v0 v1 v2 σ)) : ∀ (v0 : Option Nat) (v1 : Int32) (v2 : Int32) (σ : SG), V D z0 l RL cL_areReceivers 9 wsL_areReceivers (some .boolean) rmL_areReceivers false tvI 254 [some (va_rf v0), some (.int v1), some (.int v2), none, none, none, none, none, none] [] σ 0 0 (m_L_areReceivers_b254 rec4 v0 v1 v2 σ) := by
  intro v0 v1 v2 σ
  unfold m_L_areReceivers_b254
  refine V_iinc (x := v2) (v := (v2 + 1)) (ls' := [some (va_rf v0), some (.int v1), some (.int (v2 + 1)), none, none, none, none, none, none]) dL_areReceivers_254 rfl rfl (by decide) rfl ?_
  refine V_goto (tgt := 4) dL_areReceivers_257 (by decide) ?_
  exact hrec4 v0 v1 ((v2 + 1)) σ
set_option maxRecDepth 100000 in
set_option maxHeartbeats 4000000 in
theorem v_L_areReceivers_b247 {D : DG} {z0 : Nat} {l : Launch} {rec4 : Option Nat → Int32 → Int32 → SG → Option (Int32 × SG)} (hrec4 : ∀ (v0 : Option Nat) (v1 : Int32) (v2 : Int32) (σ : SG), V D z0 l RL cL_areReceivers 9 wsL_areReceivers (some .boolean) rmL_areReceivers false tvI 4 [some (va_rf v0), some (.int v1), some (.int v2), none, none, none, none, none, none] [] σ 0 0 (rec4 v0 v1 v2 σ)) {rec164 : Option Nat → Int32 → Int32 → Int32 → SG → Option (Int32 × SG)} (hrec164 : ∀ (v0 : Option Nat) (v1 : Int32) (v2 : Int32) (v7 : Int32) (σ : SG), V D z0 l RL cL_areReceivers 9 wsL_areReceivers (some .boolean) rmL_areReceivers false tvI 164 [some (va_rf v0), some (.int v1), some (.int v2), none, none, none, none, some (.int v7), none] [] σ 0 0 (rec164 v0 v1 v2 v7 σ)) : ∀ (v0 : Option Nat) (v2 : Int32) (v7 : Int32) (s0 : Int32) (σ : SG), V D z0 l RL cL_areReceivers 9 wsL_areReceivers (some .boolean) rmL_areReceivers false tvI 247 [some (va_rf v0), none, some (.int v2), none, none, none, none, some (.int v7), none] [.int s0] σ 0 0 (m_L_areReceivers_b247 rec4 rec164 v0 v2 v7 s0 σ) := by
  intro v0 v2 v7 s0 σ
  unfold m_L_areReceivers_b247
  refine V_istore_n (x := s0) (ls' := [some (va_rf v0), some (.int s0), some (.int v2), none, none, none, none, some (.int v7), none]) dL_areReceivers_247 (by decide) rfl ?_
  refine V_iinc (x := v7) (v := (v7 + 1)) (ls' := [some (va_rf v0), some (.int s0), some (.int v2), none, none, none, none, some (.int (v7 + 1)), none]) dL_areReceivers_248 rfl rfl (by decide) rfl ?_
  refine V_goto (tgt := 164) dL_areReceivers_251 (by decide) ?_
  exact hrec164 v0 s0 v2 ((v7 + 1)) σ
set_option maxRecDepth 100000 in
set_option maxHeartbeats 4000000 in
theorem v_L_areReceivers_b246 {D : DG} {z0 : Nat} {l : Launch} {rec4 : Option Nat → Int32 → Int32 → SG → Option (Int32 × SG)} (hrec4 : ∀ (v0 : Option Nat) (v1 : Int32) (v2 : Int32) (σ : SG), V D z0 l RL cL_areReceivers 9 wsL_areReceivers (some .boolean) rmL_areReceivers false tvI 4 [some (va_rf v0), some (.int v1), some (.int v2), none, none, none, none, none, none] [] σ 0 0 (rec4 v0 v1 v2 σ)) {rec164 : Option Nat → Int32 → Int32 → Int32 → SG → Option (Int32 × SG)} (hrec164 : ∀ (v0 : Option Nat) (v1 : Int32) (v2 : Int32) (v7 : Int32) (σ : SG), V D z0 l RL cL_areReceivers 9 wsL_areReceivers (some .boolean) rmL_areReceivers false tvI 164 [some (va_rf v0), some (.int v1), some (.int v2), none, none, none, none, some (.int v7), none] [] σ 0 0 (rec164 v0 v1 v2 v7 σ)) : ∀ (v0 : Option Nat) (v2 : Int32) (v7 : Int32) (σ : SG), V D z0 l RL cL_areReceivers 9 wsL_areReceivers (some .boolean) rmL_areReceivers false tvI 246 [some (va_rf v0), none, some (.int v2), none, none, none, none, some (.int v7), none] [] σ 0 0 (m_L_areReceivers_b246 rec4 rec164 v0 v2 v7 σ) := by
  intro v0 v2 v7 σ
  unfold m_L_areReceivers_b246
  refine V_iconst (v := (0 : Int32)) dL_areReceivers_246 rfl ?_
  exact v_L_areReceivers_b247 hrec4 hrec164 v0 v2 v7 ((0 : Int32)) σ
set_option maxRecDepth 100000 in
set_option maxHeartbeats 4000000 in
theorem v_L_areReceivers_b215 {D : DG} {z0 : Nat} {l : Launch} {rec4 : Option Nat → Int32 → Int32 → SG → Option (Int32 × SG)} (hrec4 : ∀ (v0 : Option Nat) (v1 : Int32) (v2 : Int32) (σ : SG), V D z0 l RL cL_areReceivers 9 wsL_areReceivers (some .boolean) rmL_areReceivers false tvI 4 [some (va_rf v0), some (.int v1), some (.int v2), none, none, none, none, none, none] [] σ 0 0 (rec4 v0 v1 v2 σ)) {rec164 : Option Nat → Int32 → Int32 → Int32 → SG → Option (Int32 × SG)} (hrec164 : ∀ (v0 : Option Nat) (v1 : Int32) (v2 : Int32) (v7 : Int32) (σ : SG), V D z0 l RL cL_areReceivers 9 wsL_areReceivers (some .boolean) rmL_areReceivers false tvI 164 [some (va_rf v0), some (.int v1), some (.int v2), none, none, none, none, some (.int v7), none] [] σ 0 0 (rec164 v0 v1 v2 v7 σ)) : ∀ (v0 : Option Nat) (v2 : Int32) (v7 : Int32) (s0 : Int32) (s1 : Int32) (σ : SG), V D z0 l RL cL_areReceivers 9 wsL_areReceivers (some .boolean) rmL_areReceivers false tvI 215 [some (va_rf v0), none, some (.int v2), none, none, none, none, some (.int v7), none] [.int s1, .int s0] σ 0 0 (m_L_areReceivers_b215 rec4 rec164 v0 v2 v7 s0 s1 σ) := by
  intro v0 v2 v7 s0 s1 σ
  unfold m_L_areReceivers_b215
  refine V_iadd (x := s0) (y := s1) dL_areReceivers_215 ?_
  refine V_istore (x := (s0 + s1)) (ls' := [some (va_rf v0), none, some (.int v2), none, none, none, none, some (.int v7), some (.int (s0 + s1))]) dL_areReceivers_216 (by decide) rfl ?_
  refine V_aload_n (x := v0) dL_areReceivers_218 rfl ?_
  refine V_iload_n (x := v2) dL_areReceivers_219 rfl ?_
  refine V_iload (x := v7) dL_areReceivers_220 rfl ?_
  refine V_callV0 (As := [.int v2, .int v7]) (st0 := []) (stI := [.int v7, .int v2, va_rf v0]) (fun _ h => by cases h; exact t_X8_loss _ v2 v7 σ) (q := (RX8, TX8, 6)) rfl rfl rfl (Nat.le_of_ble_eq_true rfl) rfl (fun s args hts => cwV 2 hts gL_areReceivers_X8_loss rfl rfl rfl (by decide +kernel) ⟨Nat.le_of_ble_eq_true rfl, Nat.le_of_ble_eq_true rfl⟩) rfl rfl dL_areReceivers_222 (fun r15 σ16 _ => ?_)
  refine V_iload (x := (s0 + s1)) dL_areReceivers_225 rfl ?_
  refine V_icmp_ne (tgt := 246) (x := r15) (y := (s0 + s1)) dL_areReceivers_227 (by decide) (fun hc17 => ?_) (fun hc17 => ?_)
  · refine V_aload_n (x := v0) dL_areReceivers_230 rfl ?_
    refine V_iload (x := v7) dL_areReceivers_231 rfl ?_
    refine V_iload_n (x := v2) dL_areReceivers_233 rfl ?_
    refine V_callV0 (As := [.int v7, .int v2]) (st0 := []) (stI := [.int v2, .int v7, va_rf v0]) (fun _ h => by cases h; exact t_X8_loss _ v7 v2 σ16) (q := (RX8, TX8, 6)) rfl rfl rfl (Nat.le_of_ble_eq_true rfl) rfl (fun s args hts => cwV 2 hts gL_areReceivers_X8_loss rfl rfl rfl (by decide +kernel) ⟨Nat.le_of_ble_eq_true rfl, Nat.le_of_ble_eq_true rfl⟩) rfl rfl dL_areReceivers_234 (fun r18 σ19 _ => ?_)
    refine V_iload (x := (s0 + s1)) dL_areReceivers_237 rfl ?_
    refine V_icmp_ne (tgt := 246) (x := r18) (y := (s0 + s1)) dL_areReceivers_239 (by decide) (fun hc20 => ?_) (fun hc20 => ?_)
    · refine V_iconst (v := (1 : Int32)) dL_areReceivers_242 rfl ?_
      refine V_goto (tgt := 247) dL_areReceivers_243 (by decide) ?_
      exact V_sub (LE.s (LE.s (LE.s (LE.s (LE.s (LE.s (LE.s (LE.s (LE.n LE.e))))))))) (v_L_areReceivers_b247 hrec4 hrec164 v0 v2 v7 ((1 : Int32)) σ19)
    · exact V_sub (LE.s (LE.s (LE.s (LE.s (LE.s (LE.s (LE.s (LE.s (LE.n LE.e))))))))) (v_L_areReceivers_b246 hrec4 hrec164 v0 v2 v7 σ19)
  · exact V_sub (LE.s (LE.s (LE.s (LE.s (LE.s (LE.s (LE.s (LE.s (LE.n LE.e))))))))) (v_L_areReceivers_b246 hrec4 hrec164 v0 v2 v7 σ16)
set_option maxRecDepth 100000 in
set_option maxHeartbeats 4000000 in
theorem v_L_areReceivers_b195 {D : DG} {z0 : Nat} {l : Launch} {rec4 : Option Nat → Int32 → Int32 → SG → Option (Int32 × SG)} (hrec4 : ∀ (v0 : Option Nat) (v1 : Int32) (v2 : Int32) (σ : SG), V D z0 l RL cL_areReceivers 9 wsL_areReceivers (some .boolean) rmL_areReceivers false tvI 4 [some (va_rf v0), some (.int v1), some (.int v2), none, none, none, none, none, none] [] σ 0 0 (rec4 v0 v1 v2 σ)) {rec164 : Option Nat → Int32 → Int32 → Int32 → SG → Option (Int32 × SG)} (hrec164 : ∀ (v0 : Option Nat) (v1 : Int32) (v2 : Int32) (v7 : Int32) (σ : SG), V D z0 l RL cL_areReceivers 9 wsL_areReceivers (some .boolean) rmL_areReceivers false tvI 164 [some (va_rf v0), some (.int v1), some (.int v2), none, none, none, none, some (.int v7), none] [] σ 0 0 (rec164 v0 v1 v2 v7 σ)) : ∀ (v0 : Option Nat) (v2 : Int32) (v7 : Int32) (s0 : Int32) (σ : SG), V D z0 l RL cL_areReceivers 9 wsL_areReceivers (some .boolean) rmL_areReceivers false tvI 195 [some (va_rf v0), none, some (.int v2), none, none, none, none, some (.int v7), none] [.int s0] σ 0 0 (m_L_areReceivers_b195 rec4 rec164 v0 v2 v7 s0 σ) := by
  intro v0 v2 v7 s0 σ
  unfold m_L_areReceivers_b195
  refine V_iload_n (x := v2) dL_areReceivers_195 rfl ?_
  refine V_iconst (v := (3 : Int32)) dL_areReceivers_196 rfl ?_
  refine V_idiv (x := v2) (y := (3 : Int32)) dL_areReceivers_197 ?_
  refine V_iload (x := v7) dL_areReceivers_198 rfl ?_
  refine V_iconst (v := (3 : Int32)) dL_areReceivers_200 rfl ?_
  refine V_idiv (x := v7) (y := (3 : Int32)) dL_areReceivers_201 ?_
  refine V_icmp_ne (tgt := 209) (x := (v2 / (3 : Int32))) (y := (v7 / (3 : Int32))) dL_areReceivers_202 (by decide) (fun hc21 => ?_) (fun hc21 => ?_)
  · refine V_iconst (v := (0 : Int32)) dL_areReceivers_205 rfl ?_
    refine V_goto (tgt := 215) dL_areReceivers_206 (by decide) ?_
    exact v_L_areReceivers_b215 hrec4 hrec164 v0 v2 v7 s0 ((0 : Int32)) σ
  · refine V_aload_n (x := v0) dL_areReceivers_209 rfl ?_
    refine V_bipush (v := (8 : Int32)) dL_areReceivers_210 rfl ?_
    refine V_callV0 (As := [.int (8 : Int32)]) (st0 := [.int s0]) (stI := [.int (8 : Int32), va_rf v0, .int s0]) (fun _ h => by cases h; exact t_X8_count _ (8 : Int32) σ) (q := (RX8, TX8, 6)) rfl rfl rfl (Nat.le_of_ble_eq_true rfl) rfl (fun s args hts => cwV 1 hts gL_areReceivers_X8_count rfl rfl rfl (by decide +kernel) ⟨Nat.le_of_ble_eq_true rfl, Nat.le_of_ble_eq_true rfl⟩) rfl rfl dL_areReceivers_212 (fun r22 σ23 _ => ?_)
    exact v_L_areReceivers_b215 hrec4 hrec164 v0 v2 v7 s0 r22 σ23
set_option maxRecDepth 100000 in
set_option maxHeartbeats 4000000 in
theorem v_L_areReceivers_B164 {D : DG} {z0 : Nat} {l : Launch} {rec4 : Option Nat → Int32 → Int32 → SG → Option (Int32 × SG)} (hrec4 : ∀ (v0 : Option Nat) (v1 : Int32) (v2 : Int32) (σ : SG), V D z0 l RL cL_areReceivers 9 wsL_areReceivers (some .boolean) rmL_areReceivers false tvI 4 [some (va_rf v0), some (.int v1), some (.int v2), none, none, none, none, none, none] [] σ 0 0 (rec4 v0 v1 v2 σ)) {rec164 : Option Nat → Int32 → Int32 → Int32 → SG → Option (Int32 × SG)} (hrec164 : ∀ (v0 : Option Nat) (v1 : Int32) (v2 : Int32) (v7 : Int32) (σ : SG), V D z0 l RL cL_areReceivers 9 wsL_areReceivers (some .boolean) rmL_areReceivers false tvI 164 [some (va_rf v0), some (.int v1), some (.int v2), none, none, none, none, some (.int v7), none] [] σ 0 0 (rec164 v0 v1 v2 v7 σ)) : ∀ (v0 : Option Nat) (v1 : Int32) (v2 : Int32) (v7 : Int32) (σ : SG), V D z0 l RL cL_areReceivers 9 wsL_areReceivers (some .boolean) rmL_areReceivers false tvI 164 [some (va_rf v0), some (.int v1), some (.int v2), none, none, none, none, some (.int v7), none] [] σ 0 0 (m_L_areReceivers_B164 rec4 rec164 v0 v1 v2 v7 σ) := by
  intro v0 v1 v2 v7 σ
  unfold m_L_areReceivers_B164
  refine V_iload (x := v7) dL_areReceivers_164 rfl ?_
  refine V_bipush (v := (6 : Int32)) dL_areReceivers_166 rfl ?_
  refine V_icmp_ge (tgt := 254) (x := v7) (y := (6 : Int32)) dL_areReceivers_168 (by decide) (fun hc24 => ?_) (fun hc24 => ?_)
  · exact V_sub (LE.s (LE.s (LE.s (LE.s (LE.s (LE.s (LE.s (LE.n (LE.s LE.e))))))))) (v_L_areReceivers_b254 hrec4 v0 v1 v2 σ)
  · refine V_iload_n (x := v1) dL_areReceivers_171 rfl ?_
    refine V_if_eq (tgt := 254) (x := v1) dL_areReceivers_172 (by decide) (fun hc25 => ?_) (fun hc25 => ?_)
    · exact V_sub (LE.s (LE.s (LE.s (LE.s (LE.s (LE.s (LE.s (LE.n (LE.s LE.e))))))))) (v_L_areReceivers_b254 hrec4 v0 v1 v2 σ)
    · refine V_iload_n (x := v2) dL_areReceivers_175 rfl ?_
      refine V_iconst (v := (3 : Int32)) dL_areReceivers_176 rfl ?_
      refine V_irem (x := v2) (y := (3 : Int32)) dL_areReceivers_177 ?_
      refine V_iload (x := v7) dL_areReceivers_178 rfl ?_
      refine V_iconst (v := (3 : Int32)) dL_areReceivers_180 rfl ?_
      refine V_irem (x := v7) (y := (3 : Int32)) dL_areReceivers_181 ?_
      refine V_icmp_ne (tgt := 189) (x := (v2 - v2 / (3 : Int32) * (3 : Int32))) (y := (v7 - v7 / (3 : Int32) * (3 : Int32))) dL_areReceivers_182 (by decide) (fun hc26 => ?_) (fun hc26 => ?_)
      · refine V_iconst (v := (0 : Int32)) dL_areReceivers_185 rfl ?_
        refine V_goto (tgt := 195) dL_areReceivers_186 (by decide) ?_
        exact V_sub (LE.s (LE.n (LE.s (LE.s (LE.s (LE.s (LE.s (LE.s (LE.s LE.e))))))))) (v_L_areReceivers_b195 hrec4 hrec164 v0 v2 v7 ((0 : Int32)) σ)
      · refine V_aload_n (x := v0) dL_areReceivers_189 rfl ?_
        refine V_bipush (v := (7 : Int32)) dL_areReceivers_190 rfl ?_
        refine V_callV0 (As := [.int (7 : Int32)]) (st0 := []) (stI := [.int (7 : Int32), va_rf v0]) (fun _ h => by cases h; exact t_X8_count _ (7 : Int32) σ) (q := (RX8, TX8, 6)) rfl rfl rfl (Nat.le_of_ble_eq_true rfl) rfl (fun s args hts => cwV 1 hts gL_areReceivers_X8_count rfl rfl rfl (by decide +kernel) ⟨Nat.le_of_ble_eq_true rfl, Nat.le_of_ble_eq_true rfl⟩) rfl rfl dL_areReceivers_192 (fun r27 σ28 _ => ?_)
        exact V_sub (LE.s (LE.n (LE.s (LE.s (LE.s (LE.s (LE.s (LE.s (LE.s LE.e))))))))) (v_L_areReceivers_b195 hrec4 hrec164 v0 v2 v7 r27 σ28)
theorem v_L_areReceivers_L164 {D : DG} {z0 : Nat} {l : Launch} {rec4 : Option Nat → Int32 → Int32 → SG → Option (Int32 × SG)} (hrec4 : ∀ (v0 : Option Nat) (v1 : Int32) (v2 : Int32) (σ : SG), V D z0 l RL cL_areReceivers 9 wsL_areReceivers (some .boolean) rmL_areReceivers false tvI 4 [some (va_rf v0), some (.int v1), some (.int v2), none, none, none, none, none, none] [] σ 0 0 (rec4 v0 v1 v2 σ)) : ∀ (n : Nat) (v0 : Option Nat) (v1 : Int32) (v2 : Int32) (v7 : Int32) (σ : SG), V D z0 l RL cL_areReceivers 9 wsL_areReceivers (some .boolean) rmL_areReceivers false tvI 164 [some (va_rf v0), some (.int v1), some (.int v2), none, none, none, none, some (.int v7), none] [] σ 0 0 (m_L_areReceivers_L164 rec4 n v0 v1 v2 v7 σ) := by
  intro n
  induction n with
  | zero => intros; exact V_none
  | succ n ih => exact v_L_areReceivers_B164 hrec4 ih
set_option maxRecDepth 100000 in
set_option maxHeartbeats 4000000 in
theorem v_L_areReceivers_b160 {D : DG} {z0 : Nat} {l : Launch} {rec4 : Option Nat → Int32 → Int32 → SG → Option (Int32 × SG)} (hrec4 : ∀ (v0 : Option Nat) (v1 : Int32) (v2 : Int32) (σ : SG), V D z0 l RL cL_areReceivers 9 wsL_areReceivers (some .boolean) rmL_areReceivers false tvI 4 [some (va_rf v0), some (.int v1), some (.int v2), none, none, none, none, none, none] [] σ 0 0 (rec4 v0 v1 v2 σ)) : ∀ (v0 : Option Nat) (v2 : Int32) (s0 : Int32) (σ : SG), V D z0 l RL cL_areReceivers 9 wsL_areReceivers (some .boolean) rmL_areReceivers false tvI 160 [some (va_rf v0), none, some (.int v2), none, none, none, none, none, none] [.int s0] σ 0 0 (m_L_areReceivers_b160 rec4 v0 v2 s0 σ) := by
  intro v0 v2 s0 σ
  unfold m_L_areReceivers_b160
  refine V_istore_n (x := s0) (ls' := [some (va_rf v0), some (.int s0), some (.int v2), none, none, none, none, none, none]) dL_areReceivers_160 (by decide) rfl ?_
  refine V_iconst (v := (0 : Int32)) dL_areReceivers_161 rfl ?_
  refine V_istore (x := (0 : Int32)) (ls' := [some (va_rf v0), some (.int s0), some (.int v2), none, none, none, none, some (.int (0 : Int32)), none]) dL_areReceivers_162 (by decide) rfl ?_
  exact v_L_areReceivers_L164 hrec4 1000 v0 s0 v2 ((0 : Int32)) σ
set_option maxRecDepth 100000 in
set_option maxHeartbeats 4000000 in
theorem v_L_areReceivers_b159 {D : DG} {z0 : Nat} {l : Launch} {rec4 : Option Nat → Int32 → Int32 → SG → Option (Int32 × SG)} (hrec4 : ∀ (v0 : Option Nat) (v1 : Int32) (v2 : Int32) (σ : SG), V D z0 l RL cL_areReceivers 9 wsL_areReceivers (some .boolean) rmL_areReceivers false tvI 4 [some (va_rf v0), some (.int v1), some (.int v2), none, none, none, none, none, none] [] σ 0 0 (rec4 v0 v1 v2 σ)) : ∀ (v0 : Option Nat) (v2 : Int32) (σ : SG), V D z0 l RL cL_areReceivers 9 wsL_areReceivers (some .boolean) rmL_areReceivers false tvI 159 [some (va_rf v0), none, some (.int v2), none, none, none, none, none, none] [] σ 0 0 (m_L_areReceivers_b159 rec4 v0 v2 σ) := by
  intro v0 v2 σ
  unfold m_L_areReceivers_b159
  refine V_iconst (v := (0 : Int32)) dL_areReceivers_159 rfl ?_
  exact v_L_areReceivers_b160 hrec4 v0 v2 ((0 : Int32)) σ
set_option maxRecDepth 100000 in
set_option maxHeartbeats 4000000 in
theorem v_L_areReceivers_b135 {D : DG} {z0 : Nat} {l : Launch} {rec4 : Option Nat → Int32 → Int32 → SG → Option (Int32 × SG)} (hrec4 : ∀ (v0 : Option Nat) (v1 : Int32) (v2 : Int32) (σ : SG), V D z0 l RL cL_areReceivers 9 wsL_areReceivers (some .boolean) rmL_areReceivers false tvI 4 [some (va_rf v0), some (.int v1), some (.int v2), none, none, none, none, none, none] [] σ 0 0 (rec4 v0 v1 v2 σ)) : ∀ (v0 : Option Nat) (v2 : Int32) (σ : SG), V D z0 l RL cL_areReceivers 9 wsL_areReceivers (some .boolean) rmL_areReceivers false tvI 135 [some (va_rf v0), none, some (.int v2), none, none, none, none, none, none] [] σ 0 0 (m_L_areReceivers_b135 rec4 v0 v2 σ) := by
  intro v0 v2 σ
  unfold m_L_areReceivers_b135
  refine V_aload_n (x := v0) dL_areReceivers_135 rfl ?_
  refine V_iload_n (x := v2) dL_areReceivers_136 rfl ?_
  refine V_iconst (v := (4 : Int32)) dL_areReceivers_137 rfl ?_
  refine V_callV0 (As := [.int v2, .int (4 : Int32)]) (st0 := []) (stI := [.int (4 : Int32), .int v2, va_rf v0]) (fun _ h => by cases h; exact t_X8_receiver _ v2 (4 : Int32) σ) (q := (RX8, TX8, 6)) rfl rfl rfl (Nat.le_of_ble_eq_true rfl) rfl (fun s args hts => cwV 2 hts gL_areReceivers_X8_receiver rfl rfl rfl (by decide +kernel) ⟨Nat.le_of_ble_eq_true rfl, Nat.le_of_ble_eq_true rfl⟩) rfl rfl dL_areReceivers_138 (fun r29 σ30 _ => ?_)
  refine V_if_lt (tgt := 159) (x := r29) dL_areReceivers_141 (by decide) (fun hc31 => ?_) (fun hc31 => ?_)
  · exact v_L_areReceivers_b159 hrec4 v0 v2 σ30
  · refine V_aload_n (x := v0) dL_areReceivers_144 rfl ?_
    refine V_iload_n (x := v2) dL_areReceivers_145 rfl ?_
    refine V_iconst (v := (4 : Int32)) dL_areReceivers_146 rfl ?_
    refine V_callV0 (As := [.int v2, .int (4 : Int32)]) (st0 := []) (stI := [.int (4 : Int32), .int v2, va_rf v0]) (fun _ h => by cases h; exact t_X8_receiver _ v2 (4 : Int32) σ30) (q := (RX8, TX8, 6)) rfl rfl rfl (Nat.le_of_ble_eq_true rfl) rfl (fun s args hts => cwV 2 hts gL_areReceivers_X8_receiver rfl rfl rfl (by decide +kernel) ⟨Nat.le_of_ble_eq_true rfl, Nat.le_of_ble_eq_true rfl⟩) rfl rfl dL_areReceivers_147 (fun r32 σ33 _ => ?_)
    refine V_bipush (v := (15 : Int32)) dL_areReceivers_150 rfl ?_
    refine V_icmp_gt (tgt := 159) (x := r32) (y := (15 : Int32)) dL_areReceivers_152 (by decide) (fun hc34 => ?_) (fun hc34 => ?_)
    · exact v_L_areReceivers_b159 hrec4 v0 v2 σ33
    · refine V_iconst (v := (1 : Int32)) dL_areReceivers_155 rfl ?_
      refine V_goto (tgt := 160) dL_areReceivers_156 (by decide) ?_
      exact v_L_areReceivers_b160 hrec4 v0 v2 ((1 : Int32)) σ33
set_option maxRecDepth 100000 in
set_option maxHeartbeats 4000000 in
theorem v_L_areReceivers_b90 {D : DG} {z0 : Nat} {l : Launch} {rec4 : Option Nat → Int32 → Int32 → SG → Option (Int32 × SG)} (hrec4 : ∀ (v0 : Option Nat) (v1 : Int32) (v2 : Int32) (σ : SG), V D z0 l RL cL_areReceivers 9 wsL_areReceivers (some .boolean) rmL_areReceivers false tvI 4 [some (va_rf v0), some (.int v1), some (.int v2), none, none, none, none, none, none] [] σ 0 0 (rec4 v0 v1 v2 σ)) : ∀ (v0 : Option Nat) (v2 : Int32) (v5 : Int32) (v6 : Int32) (σ : SG), V D z0 l RL cL_areReceivers 9 wsL_areReceivers (some .boolean) rmL_areReceivers false tvI 90 [some (va_rf v0), none, some (.int v2), none, none, some (.int v5), some (.int v6), none, none] [] σ 0 0 (m_L_areReceivers_b90 rec4 v0 v2 v5 v6 σ) := by
  intro v0 v2 v5 v6 σ
  unfold m_L_areReceivers_b90
  refine V_iload (x := v5) dL_areReceivers_90 rfl ?_
  refine V_if_ge (tgt := 112) (x := v5) dL_areReceivers_92 (by decide) (fun hc35 => ?_) (fun hc35 => ?_)
  · refine V_iload (x := v5) dL_areReceivers_112 rfl ?_
    refine V_bipush (v := (32 : Int32)) dL_areReceivers_114 rfl ?_
    refine V_icmp_ge (tgt := 159) (x := v5) (y := (32 : Int32)) dL_areReceivers_116 (by decide) (fun hc36 => ?_) (fun hc36 => ?_)
    · exact V_sub (LE.s (LE.s (LE.s (LE.s (LE.s (LE.n (LE.n (LE.s (LE.s LE.e))))))))) (v_L_areReceivers_b159 hrec4 v0 v2 σ)
    · refine V_iload (x := v6) dL_areReceivers_119 rfl ?_
      refine V_iconst (v := (1 : Int32)) dL_areReceivers_121 rfl ?_
      refine V_icmp_lt (tgt := 159) (x := v6) (y := (1 : Int32)) dL_areReceivers_122 (by decide) (fun hc37 => ?_) (fun hc37 => ?_)
      · exact V_sub (LE.s (LE.s (LE.s (LE.s (LE.s (LE.n (LE.n (LE.s (LE.s LE.e))))))))) (v_L_areReceivers_b159 hrec4 v0 v2 σ)
      · refine V_iload (x := v6) dL_areReceivers_125 rfl ?_
        refine V_aload_n (x := v0) dL_areReceivers_127 rfl ?_
        refine V_iconst (v := (0 : Int32)) dL_areReceivers_128 rfl ?_
        refine V_callV0 (As := [.int (0 : Int32)]) (st0 := [.int v6]) (stI := [.int (0 : Int32), va_rf v0, .int v6]) (fun _ h => by cases h; exact t_X8_count _ (0 : Int32) σ) (q := (RX8, TX8, 6)) rfl rfl rfl (Nat.le_of_ble_eq_true rfl) rfl (fun s args hts => cwV 1 hts gL_areReceivers_X8_count rfl rfl rfl (by decide +kernel) ⟨Nat.le_of_ble_eq_true rfl, Nat.le_of_ble_eq_true rfl⟩) rfl rfl dL_areReceivers_129 (fun r38 σ39 _ => ?_)
        refine V_icmp_gt (tgt := 159) (x := v6) (y := r38) dL_areReceivers_132 (by decide) (fun hc40 => ?_) (fun hc40 => ?_)
        · exact V_sub (LE.s (LE.s (LE.s (LE.s (LE.s (LE.n (LE.n (LE.s (LE.s LE.e))))))))) (v_L_areReceivers_b159 hrec4 v0 v2 σ39)
        · exact V_sub (LE.s (LE.s (LE.s (LE.s (LE.s (LE.n (LE.n (LE.s (LE.s LE.e))))))))) (v_L_areReceivers_b135 hrec4 v0 v2 σ39)
  · refine V_iload (x := v5) dL_areReceivers_95 rfl ?_
    refine V_bipush (v := (-5 : Int32)) dL_areReceivers_97 rfl ?_
    refine V_icmp_ne (tgt := 159) (x := v5) (y := (-5 : Int32)) dL_areReceivers_99 (by decide) (fun hc41 => ?_) (fun hc41 => ?_)
    · refine V_iload (x := v6) dL_areReceivers_102 rfl ?_
      refine V_bipush (v := (-5 : Int32)) dL_areReceivers_104 rfl ?_
      refine V_icmp_ne (tgt := 159) (x := v6) (y := (-5 : Int32)) dL_areReceivers_106 (by decide) (fun hc42 => ?_) (fun hc42 => ?_)
      · refine V_goto (tgt := 135) dL_areReceivers_109 (by decide) ?_
        exact V_sub (LE.s (LE.s (LE.s (LE.s (LE.s (LE.n (LE.n (LE.s (LE.s LE.e))))))))) (v_L_areReceivers_b135 hrec4 v0 v2 σ)
      · exact V_sub (LE.s (LE.s (LE.s (LE.s (LE.s (LE.n (LE.n (LE.s (LE.s LE.e))))))))) (v_L_areReceivers_b159 hrec4 v0 v2 σ)
    · exact V_sub (LE.s (LE.s (LE.s (LE.s (LE.s (LE.n (LE.n (LE.s (LE.s LE.e))))))))) (v_L_areReceivers_b159 hrec4 v0 v2 σ)
set_option maxRecDepth 100000 in
set_option maxHeartbeats 4000000 in
theorem v_L_areReceivers_B4 {D : DG} {z0 : Nat} {l : Launch} {rec4 : Option Nat → Int32 → Int32 → SG → Option (Int32 × SG)} (hrec4 : ∀ (v0 : Option Nat) (v1 : Int32) (v2 : Int32) (σ : SG), V D z0 l RL cL_areReceivers 9 wsL_areReceivers (some .boolean) rmL_areReceivers false tvI 4 [some (va_rf v0), some (.int v1), some (.int v2), none, none, none, none, none, none] [] σ 0 0 (rec4 v0 v1 v2 σ)) : ∀ (v0 : Option Nat) (v1 : Int32) (v2 : Int32) (σ : SG), V D z0 l RL cL_areReceivers 9 wsL_areReceivers (some .boolean) rmL_areReceivers false tvI 4 [some (va_rf v0), some (.int v1), some (.int v2), none, none, none, none, none, none] [] σ 0 0 (m_L_areReceivers_B4 rec4 v0 v1 v2 σ) := by
  intro v0 v1 v2 σ
  unfold m_L_areReceivers_B4
  refine V_iload_n (x := v2) dL_areReceivers_4 rfl ?_
  refine V_bipush (v := (6 : Int32)) dL_areReceivers_5 rfl ?_
  refine V_icmp_ge (tgt := 260) (x := v2) (y := (6 : Int32)) dL_areReceivers_7 (by decide) (fun hc43 => ?_) (fun hc43 => ?_)
  · exact V_sub (LE.s (LE.s (LE.n (LE.s (LE.s (LE.s (LE.s (LE.s (LE.s LE.e))))))))) (v_L_areReceivers_b260  v0 v1 σ)
  · refine V_iload_n (x := v1) dL_areReceivers_10 rfl ?_
    refine V_if_eq (tgt := 260) (x := v1) dL_areReceivers_11 (by decide) (fun hc44 => ?_) (fun hc44 => ?_)
    · exact V_sub (LE.s (LE.s (LE.n (LE.s (LE.s (LE.s (LE.s (LE.s (LE.s LE.e))))))))) (v_L_areReceivers_b260  v0 v1 σ)
    · refine V_aload_n (x := v0) dL_areReceivers_14 rfl ?_
      refine V_iload_n (x := v2) dL_areReceivers_15 rfl ?_
      refine V_iconst (v := (0 : Int32)) dL_areReceivers_16 rfl ?_
      refine V_callV0 (As := [.int v2, .int (0 : Int32)]) (st0 := []) (stI := [.int (0 : Int32), .int v2, va_rf v0]) (fun _ h => by cases h; exact t_X8_receiver _ v2 (0 : Int32) σ) (q := (RX8, TX8, 6)) rfl rfl rfl (Nat.le_of_ble_eq_true rfl) rfl (fun s args hts => cwV 2 hts gL_areReceivers_X8_receiver rfl rfl rfl (by decide +kernel) ⟨Nat.le_of_ble_eq_true rfl, Nat.le_of_ble_eq_true rfl⟩) rfl rfl dL_areReceivers_17 (fun r45 σ46 _ => ?_)
      refine V_istore_n (x := r45) (ls' := [some (va_rf v0), some (.int v1), some (.int v2), some (.int r45), none, none, none, none, none]) dL_areReceivers_20 (by decide) rfl ?_
      refine V_aload_n (x := v0) dL_areReceivers_21 rfl ?_
      refine V_iload_n (x := v2) dL_areReceivers_22 rfl ?_
      refine V_iconst (v := (1 : Int32)) dL_areReceivers_23 rfl ?_
      refine V_callV0 (As := [.int v2, .int (1 : Int32)]) (st0 := []) (stI := [.int (1 : Int32), .int v2, va_rf v0]) (fun _ h => by cases h; exact t_X8_receiver _ v2 (1 : Int32) σ46) (q := (RX8, TX8, 6)) rfl rfl rfl (Nat.le_of_ble_eq_true rfl) rfl (fun s args hts => cwV 2 hts gL_areReceivers_X8_receiver rfl rfl rfl (by decide +kernel) ⟨Nat.le_of_ble_eq_true rfl, Nat.le_of_ble_eq_true rfl⟩) rfl rfl dL_areReceivers_24 (fun r47 σ48 _ => ?_)
      refine V_istore (x := r47) (ls' := [some (va_rf v0), some (.int v1), some (.int v2), some (.int r45), some (.int r47), none, none, none, none]) dL_areReceivers_27 (by decide) rfl ?_
      refine V_aload_n (x := v0) dL_areReceivers_29 rfl ?_
      refine V_iload_n (x := v2) dL_areReceivers_30 rfl ?_
      refine V_iconst (v := (2 : Int32)) dL_areReceivers_31 rfl ?_
      refine V_callV0 (As := [.int v2, .int (2 : Int32)]) (st0 := []) (stI := [.int (2 : Int32), .int v2, va_rf v0]) (fun _ h => by cases h; exact t_X8_receiver _ v2 (2 : Int32) σ48) (q := (RX8, TX8, 6)) rfl rfl rfl (Nat.le_of_ble_eq_true rfl) rfl (fun s args hts => cwV 2 hts gL_areReceivers_X8_receiver rfl rfl rfl (by decide +kernel) ⟨Nat.le_of_ble_eq_true rfl, Nat.le_of_ble_eq_true rfl⟩) rfl rfl dL_areReceivers_32 (fun r49 σ50 _ => ?_)
      refine V_istore (x := r49) (ls' := [some (va_rf v0), some (.int v1), some (.int v2), some (.int r45), some (.int r47), some (.int r49), none, none, none]) dL_areReceivers_35 (by decide) rfl ?_
      refine V_aload_n (x := v0) dL_areReceivers_37 rfl ?_
      refine V_iload_n (x := v2) dL_areReceivers_38 rfl ?_
      refine V_iconst (v := (3 : Int32)) dL_areReceivers_39 rfl ?_
      refine V_callV0 (As := [.int v2, .int (3 : Int32)]) (st0 := []) (stI := [.int (3 : Int32), .int v2, va_rf v0]) (fun _ h => by cases h; exact t_X8_receiver _ v2 (3 : Int32) σ50) (q := (RX8, TX8, 6)) rfl rfl rfl (Nat.le_of_ble_eq_true rfl) rfl (fun s args hts => cwV 2 hts gL_areReceivers_X8_receiver rfl rfl rfl (by decide +kernel) ⟨Nat.le_of_ble_eq_true rfl, Nat.le_of_ble_eq_true rfl⟩) rfl rfl dL_areReceivers_40 (fun r51 σ52 _ => ?_)
      refine V_istore (x := r51) (ls' := [some (va_rf v0), some (.int v1), some (.int v2), some (.int r45), some (.int r47), some (.int r49), some (.int r51), none, none]) dL_areReceivers_43 (by decide) rfl ?_
      refine V_iload_n (x := r45) dL_areReceivers_45 rfl ?_
      refine V_if_lt (tgt := 65) (x := r45) dL_areReceivers_46 (by decide) (fun hc53 => ?_) (fun hc53 => ?_)
      · refine V_iload_n (x := r45) dL_areReceivers_65 rfl ?_
        refine V_bipush (v := (-5 : Int32)) dL_areReceivers_66 rfl ?_
        refine V_icmp_ne (tgt := 159) (x := r45) (y := (-5 : Int32)) dL_areReceivers_68 (by decide) (fun hc54 => ?_) (fun hc54 => ?_)
        · refine V_iload (x := r47) dL_areReceivers_71 rfl ?_
          refine V_if_lt (tgt := 159) (x := r47) dL_areReceivers_73 (by decide) (fun hc55 => ?_) (fun hc55 => ?_)
          · exact V_sub (LE.s (LE.n (LE.s (LE.n (LE.n (LE.n (LE.n (LE.s (LE.s LE.e))))))))) (v_L_areReceivers_b159 hrec4 v0 v2 σ52)
          · refine V_iload (x := r47) dL_areReceivers_76 rfl ?_
            refine V_bipush (v := (15 : Int32)) dL_areReceivers_78 rfl ?_
            refine V_icmp_gt (tgt := 159) (x := r47) (y := (15 : Int32)) dL_areReceivers_80 (by decide) (fun hc56 => ?_) (fun hc56 => ?_)
            · exact V_sub (LE.s (LE.n (LE.s (LE.n (LE.n (LE.n (LE.n (LE.s (LE.s LE.e))))))))) (v_L_areReceivers_b159 hrec4 v0 v2 σ52)
            · refine V_iload (x := r47) dL_areReceivers_83 rfl ?_
              refine V_bipush (v := (14 : Int32)) dL_areReceivers_85 rfl ?_
              refine V_icmp_eq (tgt := 159) (x := r47) (y := (14 : Int32)) dL_areReceivers_87 (by decide) (fun hc57 => ?_) (fun hc57 => ?_)
              · exact V_sub (LE.s (LE.n (LE.s (LE.n (LE.n (LE.n (LE.n (LE.s (LE.s LE.e))))))))) (v_L_areReceivers_b159 hrec4 v0 v2 σ52)
              · exact V_sub (LE.s (LE.n (LE.s (LE.n (LE.n (LE.s (LE.s (LE.s (LE.s LE.e))))))))) (v_L_areReceivers_b90 hrec4 v0 v2 r49 r51 σ52)
        · exact V_sub (LE.s (LE.n (LE.s (LE.n (LE.n (LE.n (LE.n (LE.s (LE.s LE.e))))))))) (v_L_areReceivers_b159 hrec4 v0 v2 σ52)
      · refine V_iload_n (x := r45) dL_areReceivers_49 rfl ?_
        refine V_bipush (v := (9 : Int32)) dL_areReceivers_50 rfl ?_
        refine V_icmp_gt (tgt := 159) (x := r45) (y := (9 : Int32)) dL_areReceivers_52 (by decide) (fun hc58 => ?_) (fun hc58 => ?_)
        · exact V_sub (LE.s (LE.n (LE.s (LE.n (LE.n (LE.n (LE.n (LE.s (LE.s LE.e))))))))) (v_L_areReceivers_b159 hrec4 v0 v2 σ52)
        · refine V_iload (x := r47) dL_areReceivers_55 rfl ?_
          refine V_bipush (v := (-5 : Int32)) dL_areReceivers_57 rfl ?_
          refine V_icmp_ne (tgt := 159) (x := r47) (y := (-5 : Int32)) dL_areReceivers_59 (by decide) (fun hc59 => ?_) (fun hc59 => ?_)
          · refine V_goto (tgt := 90) dL_areReceivers_62 (by decide) ?_
            exact V_sub (LE.s (LE.n (LE.s (LE.n (LE.n (LE.s (LE.s (LE.s (LE.s LE.e))))))))) (v_L_areReceivers_b90 hrec4 v0 v2 r49 r51 σ52)
          · exact V_sub (LE.s (LE.n (LE.s (LE.n (LE.n (LE.n (LE.n (LE.s (LE.s LE.e))))))))) (v_L_areReceivers_b159 hrec4 v0 v2 σ52)
theorem v_L_areReceivers_L4 {D : DG} {z0 : Nat} {l : Launch} : ∀ (n : Nat) (v0 : Option Nat) (v1 : Int32) (v2 : Int32) (σ : SG), V D z0 l RL cL_areReceivers 9 wsL_areReceivers (some .boolean) rmL_areReceivers false tvI 4 [some (va_rf v0), some (.int v1), some (.int v2), none, none, none, none, none, none] [] σ 0 0 (m_L_areReceivers_L4 n v0 v1 v2 σ) := by
  intro n
  induction n with
  | zero => intros; exact V_none
  | succ n ih => exact v_L_areReceivers_B4  ih
set_option maxRecDepth 100000 in
set_option maxHeartbeats 4000000 in
theorem v_L_areReceivers {D : DG} {z0 : Nat} {l : Launch} : ∀ (a0 : Option Nat) (σ : SG), V D z0 l RL cL_areReceivers 9 wsL_areReceivers (some .boolean) rmL_areReceivers false tvI 0 [some (va_rf a0), none, none, none, none, none, none, none, none] [] σ 0 0 (m_L_areReceivers a0 σ) := by
  intro a0 σ
  unfold m_L_areReceivers
  refine V_iconst (v := (1 : Int32)) dL_areReceivers_0 rfl ?_
  refine V_istore_n (x := (1 : Int32)) (ls' := [some (va_rf a0), some (.int (1 : Int32)), none, none, none, none, none, none, none]) dL_areReceivers_1 (by decide) rfl ?_
  refine V_iconst (v := (0 : Int32)) dL_areReceivers_2 rfl ?_
  refine V_istore_n (x := (0 : Int32)) (ls' := [some (va_rf a0), some (.int (1 : Int32)), some (.int (0 : Int32)), none, none, none, none, none, none]) dL_areReceivers_3 (by decide) rfl ?_
  exact v_L_areReceivers_L4  1000 a0 ((1 : Int32)) ((0 : Int32)) σ
theorem t_L_areReceivers {D : DG} {z0 : Nat} {l : Launch} (a0 : Option Nat) (σ : SG) : MT D z0 l yL_areReceivers wsL_areReceivers rmL_areReceivers tvI [va_rf a0] σ (m_L_areReceivers a0 σ) :=
  MT.of (own := RL) (cc := cL_areReceivers) (nL := 9) (ret := (some .boolean)) (ct := false) (by decide) rfl rfl (fun h => by cases h) (Nat.le_of_ble_eq_true rfl) (by intro v hv; simp only [List.mem_cons, List.not_mem_nil, or_false] at hv; first | (rcases hv with rfl <;> first | rfl | exact va_rf_cat _) | exact absurd hv (fun h => h)) (v_L_areReceivers a0 σ)
set_option maxRecDepth 100000 in
set_option maxHeartbeats 4000000 in
theorem v_L_areBeats_b268 {D : DG} {z0 : Nat} {l : Launch} : ∀ (v0 : Option Nat) (v4 : Int32) (v6 : Int32) (v8 : Int32) (s0 : Int32) (σ : SG), V D z0 l RL cL_areBeats 14 wsL_areBeats (some .boolean) rmL_areBeats false tvI 268 [some (va_rf v0), none, none, none, some (.int v4), none, some (.int v6), none, some (.int v8), none, none, none, none, none] [.int s0] σ 0 0 (m_L_areBeats_b268 v0 v4 v6 v8 s0 σ) := by
  intro v0 v4 v6 v8 s0 σ
  unfold m_L_areBeats_b268
  refine V_istore (x := s0) (ls' := [some (va_rf v0), none, none, none, some (.int v4), none, some (.int v6), none, some (.int v8), none, some (.int s0), none, none, none]) dL_areBeats_268 (by decide) rfl ?_
  refine V_aload_n (x := v0) dL_areBeats_270 rfl ?_
  refine V_iconst (v := (2 : Int32)) dL_areBeats_271 rfl ?_
  refine V_callV0 (As := [.int (2 : Int32)]) (st0 := []) (stI := [.int (2 : Int32), va_rf v0]) (fun _ h => by cases h; exact t_X8_total _ (2 : Int32) σ) (q := (RX8, TX8, 6)) rfl rfl rfl (Nat.le_of_ble_eq_true rfl) rfl (fun s args hts => cwV 1 hts gL_areBeats_X8_total rfl rfl rfl (by decide +kernel) ⟨Nat.le_of_ble_eq_true rfl, Nat.le_of_ble_eq_true rfl⟩) rfl rfl dL_areBeats_272 (fun r1 σ2 _ => ?_)
  refine V_aload_n (x := v0) dL_areBeats_275 rfl ?_
  refine V_iconst (v := (3 : Int32)) dL_areBeats_276 rfl ?_
  refine V_callV0 (As := [.int (3 : Int32)]) (st0 := [.int r1]) (stI := [.int (3 : Int32), va_rf v0, .int r1]) (fun _ h => by cases h; exact t_X8_total _ (3 : Int32) σ2) (q := (RX8, TX8, 6)) rfl rfl rfl (Nat.le_of_ble_eq_true rfl) rfl (fun s args hts => cwV 1 hts gL_areBeats_X8_total rfl rfl rfl (by decide +kernel) ⟨Nat.le_of_ble_eq_true rfl, Nat.le_of_ble_eq_true rfl⟩) rfl rfl dL_areBeats_277 (fun r3 σ4 _ => ?_)
  refine V_iadd (x := r1) (y := r3) dL_areBeats_280 ?_
  refine V_aload_n (x := v0) dL_areBeats_281 rfl ?_
  refine V_iconst (v := (4 : Int32)) dL_areBeats_282 rfl ?_
  refine V_callV0 (As := [.int (4 : Int32)]) (st0 := [.int (r1 + r3)]) (stI := [.int (4 : Int32), va_rf v0, .int (r1 + r3)]) (fun _ h => by cases h; exact t_X8_total _ (4 : Int32) σ4) (q := (RX8, TX8, 6)) rfl rfl rfl (Nat.le_of_ble_eq_true rfl) rfl (fun s args hts => cwV 1 hts gL_areBeats_X8_total rfl rfl rfl (by decide +kernel) ⟨Nat.le_of_ble_eq_true rfl, Nat.le_of_ble_eq_true rfl⟩) rfl rfl dL_areBeats_283 (fun r5 σ6 _ => ?_)
  refine V_iadd (x := (r1 + r3)) (y := r5) dL_areBeats_286 ?_
  refine V_istore (x := ((r1 + r3) + r5)) (ls' := [some (va_rf v0), none, none, none, some (.int v4), none, some (.int v6), none, some (.int v8), none, some (.int s0), some (.int ((r1 + r3) + r5)), none, none]) dL_areBeats_287 (by decide) rfl ?_
  refine V_iload (x := s0) dL_areBeats_289 rfl ?_
  refine V_if_eq (tgt := 340) (x := s0) dL_areBeats_291 (by decide) (fun hc7 => ?_) (fun hc7 => ?_)
  · refine V_iconst (v := (0 : Int32)) dL_areBeats_340 rfl ?_
    exact V_zret (fun _ => rfl) rfl (Nat.zero_le _) (Nat.zero_le _) dL_areBeats_341
  · refine V_aload_n (x := v0) dL_areBeats_294 rfl ?_
    refine V_callV0 (As := []) (st0 := []) (stI := [va_rf v0]) (fun _ h => by cases h; exact t_X8_restore _ σ6) (q := (RX8, TX8, 6)) rfl rfl rfl (Nat.le_of_ble_eq_true rfl) rfl (fun s args hts => cwV 0 hts gL_areBeats_X8_restore rfl rfl rfl (by decide +kernel) ⟨Nat.le_of_ble_eq_true rfl, Nat.le_of_ble_eq_true rfl⟩) rfl rfl dL_areBeats_295 (fun r8 σ9 _ => ?_)
    refine V_iload (x := v6) dL_areBeats_298 rfl ?_
    refine V_icmp_ne (tgt := 340) (x := r8) (y := v6) dL_areBeats_300 (by decide) (fun hc10 => ?_) (fun hc10 => ?_)
    · refine V_aload_n (x := v0) dL_areBeats_303 rfl ?_
      refine V_iload (x := v4) dL_areBeats_304 rfl ?_
      refine V_callV0 (As := [.int v4]) (st0 := []) (stI := [.int v4, va_rf v0]) (fun _ h => by cases h; exact t_X8_pass _ v4 σ9) (q := (RX8, TX8, 6)) rfl rfl rfl (Nat.le_of_ble_eq_true rfl) rfl (fun s args hts => cwV 1 hts gL_areBeats_X8_pass rfl rfl rfl (by decide +kernel) ⟨Nat.le_of_ble_eq_true rfl, Nat.le_of_ble_eq_true rfl⟩) rfl rfl dL_areBeats_306 (fun r11 σ12 _ => ?_)
      refine V_iload (x := v8) dL_areBeats_309 rfl ?_
      refine V_icmp_ne (tgt := 340) (x := r11) (y := v8) dL_areBeats_311 (by decide) (fun hc13 => ?_) (fun hc13 => ?_)
      · refine V_aload_n (x := v0) dL_areBeats_314 rfl ?_
        refine V_iconst (v := (2 : Int32)) dL_areBeats_315 rfl ?_
        refine V_callV0 (As := [.int (2 : Int32)]) (st0 := []) (stI := [.int (2 : Int32), va_rf v0]) (fun _ h => by cases h; exact t_X8_total _ (2 : Int32) σ12) (q := (RX8, TX8, 6)) rfl rfl rfl (Nat.le_of_ble_eq_true rfl) rfl (fun s args hts => cwV 1 hts gL_areBeats_X8_total rfl rfl rfl (by decide +kernel) ⟨Nat.le_of_ble_eq_true rfl, Nat.le_of_ble_eq_true rfl⟩) rfl rfl dL_areBeats_316 (fun r14 σ15 _ => ?_)
        refine V_aload_n (x := v0) dL_areBeats_319 rfl ?_
        refine V_iconst (v := (3 : Int32)) dL_areBeats_320 rfl ?_
        refine V_callV0 (As := [.int (3 : Int32)]) (st0 := [.int r14]) (stI := [.int (3 : Int32), va_rf v0, .int r14]) (fun _ h => by cases h; exact t_X8_total _ (3 : Int32) σ15) (q := (RX8, TX8, 6)) rfl rfl rfl (Nat.le_of_ble_eq_true rfl) rfl (fun s args hts => cwV 1 hts gL_areBeats_X8_total rfl rfl rfl (by decide +kernel) ⟨Nat.le_of_ble_eq_true rfl, Nat.le_of_ble_eq_true rfl⟩) rfl rfl dL_areBeats_321 (fun r16 σ17 _ => ?_)
        refine V_iadd (x := r14) (y := r16) dL_areBeats_324 ?_
        refine V_aload_n (x := v0) dL_areBeats_325 rfl ?_
        refine V_iconst (v := (4 : Int32)) dL_areBeats_326 rfl ?_
        refine V_callV0 (As := [.int (4 : Int32)]) (st0 := [.int (r14 + r16)]) (stI := [.int (4 : Int32), va_rf v0, .int (r14 + r16)]) (fun _ h => by cases h; exact t_X8_total _ (4 : Int32) σ17) (q := (RX8, TX8, 6)) rfl rfl rfl (Nat.le_of_ble_eq_true rfl) rfl (fun s args hts => cwV 1 hts gL_areBeats_X8_total rfl rfl rfl (by decide +kernel) ⟨Nat.le_of_ble_eq_true rfl, Nat.le_of_ble_eq_true rfl⟩) rfl rfl dL_areBeats_327 (fun r18 σ19 _ => ?_)
        refine V_iadd (x := (r14 + r16)) (y := r18) dL_areBeats_330 ?_
        refine V_iload (x := ((r1 + r3) + r5)) dL_areBeats_331 rfl ?_
        refine V_icmp_ne (tgt := 340) (x := ((r14 + r16) + r18)) (y := ((r1 + r3) + r5)) dL_areBeats_333 (by decide) (fun hc20 => ?_) (fun hc20 => ?_)
        · refine V_iconst (v := (1 : Int32)) dL_areBeats_336 rfl ?_
          refine V_goto (tgt := 341) dL_areBeats_337 (by decide) ?_
          exact V_zret (fun _ => rfl) rfl (Nat.zero_le _) (Nat.zero_le _) dL_areBeats_341
        · refine V_iconst (v := (0 : Int32)) dL_areBeats_340 rfl ?_
          exact V_zret (fun _ => rfl) rfl (Nat.zero_le _) (Nat.zero_le _) dL_areBeats_341
      · refine V_iconst (v := (0 : Int32)) dL_areBeats_340 rfl ?_
        exact V_zret (fun _ => rfl) rfl (Nat.zero_le _) (Nat.zero_le _) dL_areBeats_341
    · refine V_iconst (v := (0 : Int32)) dL_areBeats_340 rfl ?_
      exact V_zret (fun _ => rfl) rfl (Nat.zero_le _) (Nat.zero_le _) dL_areBeats_341
set_option maxRecDepth 100000 in
set_option maxHeartbeats 4000000 in
theorem v_L_areBeats_b267 {D : DG} {z0 : Nat} {l : Launch} : ∀ (v0 : Option Nat) (v4 : Int32) (v6 : Int32) (v8 : Int32) (σ : SG), V D z0 l RL cL_areBeats 14 wsL_areBeats (some .boolean) rmL_areBeats false tvI 267 [some (va_rf v0), none, none, none, some (.int v4), none, some (.int v6), none, some (.int v8), none, none, none, none, none] [] σ 0 0 (m_L_areBeats_b267 v0 v4 v6 v8 σ) := by
  intro v0 v4 v6 v8 σ
  unfold m_L_areBeats_b267
  refine V_iconst (v := (0 : Int32)) dL_areBeats_267 rfl ?_
  exact v_L_areBeats_b268  v0 v4 v6 v8 ((0 : Int32)) σ
set_option maxRecDepth 100000 in
set_option maxHeartbeats 4000000 in
theorem v_L_areBeats_b263 {D : DG} {z0 : Nat} {l : Launch} : ∀ (v0 : Option Nat) (v4 : Int32) (v6 : Int32) (v8 : Int32) (σ : SG), V D z0 l RL cL_areBeats 14 wsL_areBeats (some .boolean) rmL_areBeats false tvI 263 [some (va_rf v0), none, none, none, some (.int v4), none, some (.int v6), none, some (.int v8), none, none, none, none, none] [] σ 0 0 (m_L_areBeats_b263 v0 v4 v6 v8 σ) := by
  intro v0 v4 v6 v8 σ
  unfold m_L_areBeats_b263
  refine V_iconst (v := (1 : Int32)) dL_areBeats_263 rfl ?_
  refine V_goto (tgt := 268) dL_areBeats_264 (by decide) ?_
  exact v_L_areBeats_b268  v0 v4 v6 v8 ((1 : Int32)) σ
set_option maxRecDepth 100000 in
set_option maxHeartbeats 4000000 in
theorem v_L_areBeats_b239 {D : DG} {z0 : Nat} {l : Launch} : ∀ (v0 : Option Nat) (v2 : Int32) (v4 : Int32) (v6 : Int32) (v8 : Int32) (v9 : Int32) (σ : SG), V D z0 l RL cL_areBeats 14 wsL_areBeats (some .boolean) rmL_areBeats false tvI 239 [some (va_rf v0), none, some (.int v2), none, some (.int v4), none, some (.int v6), none, some (.int v8), some (.int v9), none, none, none, none] [] σ 0 0 (m_L_areBeats_b239 v0 v2 v4 v6 v8 v9 σ) := by
  intro v0 v2 v4 v6 v8 v9 σ
  unfold m_L_areBeats_b239
  refine V_iload (x := v9) dL_areBeats_239 rfl ?_
  refine V_if_ge (tgt := 257) (x := v9) dL_areBeats_241 (by decide) (fun hc21 => ?_) (fun hc21 => ?_)
  · refine V_iload_n (x := v2) dL_areBeats_257 rfl ?_
    refine V_iload (x := v9) dL_areBeats_258 rfl ?_
    refine V_icmp_ne (tgt := 267) (x := v2) (y := v9) dL_areBeats_260 (by decide) (fun hc22 => ?_) (fun hc22 => ?_)
    · exact V_sub (LE.s (LE.s (LE.n (LE.s (LE.s (LE.s (LE.s (LE.s (LE.s (LE.n (LE.s (LE.s (LE.s (LE.s LE.e)))))))))))))) (v_L_areBeats_b263  v0 v4 v6 v8 σ)
    · exact V_sub (LE.s (LE.s (LE.n (LE.s (LE.s (LE.s (LE.s (LE.s (LE.s (LE.n (LE.s (LE.s (LE.s (LE.s LE.e)))))))))))))) (v_L_areBeats_b267  v0 v4 v6 v8 σ)
  · refine V_iload_n (x := v2) dL_areBeats_244 rfl ?_
    refine V_if_lt (tgt := 263) (x := v2) dL_areBeats_245 (by decide) (fun hc23 => ?_) (fun hc23 => ?_)
    · exact V_sub (LE.s (LE.s (LE.n (LE.s (LE.s (LE.s (LE.s (LE.s (LE.s (LE.n (LE.s (LE.s (LE.s (LE.s LE.e)))))))))))))) (v_L_areBeats_b263  v0 v4 v6 v8 σ)
    · refine V_iload_n (x := v2) dL_areBeats_248 rfl ?_
      refine V_iload (x := v4) dL_areBeats_249 rfl ?_
      refine V_icmp_le (tgt := 267) (x := v2) (y := v4) dL_areBeats_251 (by decide) (fun hc24 => ?_) (fun hc24 => ?_)
      · exact V_sub (LE.s (LE.s (LE.n (LE.s (LE.s (LE.s (LE.s (LE.s (LE.s (LE.n (LE.s (LE.s (LE.s (LE.s LE.e)))))))))))))) (v_L_areBeats_b267  v0 v4 v6 v8 σ)
      · refine V_goto (tgt := 263) dL_areBeats_254 (by decide) ?_
        exact V_sub (LE.s (LE.s (LE.n (LE.s (LE.s (LE.s (LE.s (LE.s (LE.s (LE.n (LE.s (LE.s (LE.s (LE.s LE.e)))))))))))))) (v_L_areBeats_b263  v0 v4 v6 v8 σ)
set_option maxRecDepth 100000 in
set_option maxHeartbeats 4000000 in
theorem v_L_areBeats_b192 {D : DG} {z0 : Nat} {l : Launch} : ∀ (v0 : Option Nat) (v2 : Int32) (v3 : Int32) (v4 : Int32) (v5 : Int32) (v6 : Int32) (v7 : Int32) (v8 : Int32) (v9 : Int32) (v10 : Int32) (σ : SG), V D z0 l RL cL_areBeats 14 wsL_areBeats (some .boolean) rmL_areBeats false tvI 192 [some (va_rf v0), none, some (.int v2), some (.int v3), some (.int v4), some (.int v5), some (.int v6), some (.int v7), some (.int v8), some (.int v9), some (.int v10), none, none, none] [] σ 0 0 (m_L_areBeats_b192 v0 v2 v3 v4 v5 v6 v7 v8 v9 v10 σ) := by
  intro v0 v2 v3 v4 v5 v6 v7 v8 v9 v10 σ
  unfold m_L_areBeats_b192
  refine V_iload (x := v10) dL_areBeats_192 rfl ?_
  refine V_if_eq (tgt := 267) (x := v10) dL_areBeats_194 (by decide) (fun hc25 => ?_) (fun hc25 => ?_)
  · exact V_sub (LE.s (LE.s (LE.n (LE.n (LE.s (LE.n (LE.s (LE.n (LE.s (LE.n (LE.n (LE.s (LE.s (LE.s LE.e)))))))))))))) (v_L_areBeats_b267  v0 v4 v6 v8 σ)
  · refine V_iload (x := v8) dL_areBeats_197 rfl ?_
    refine V_aload_n (x := v0) dL_areBeats_199 rfl ?_
    refine V_iconst (v := (2 : Int32)) dL_areBeats_200 rfl ?_
    refine V_callV0 (As := [.int (2 : Int32)]) (st0 := [.int v8]) (stI := [.int (2 : Int32), va_rf v0, .int v8]) (fun _ h => by cases h; exact t_X8_total _ (2 : Int32) σ) (q := (RX8, TX8, 6)) rfl rfl rfl (Nat.le_of_ble_eq_true rfl) rfl (fun s args hts => cwV 1 hts gL_areBeats_X8_total rfl rfl rfl (by decide +kernel) ⟨Nat.le_of_ble_eq_true rfl, Nat.le_of_ble_eq_true rfl⟩) rfl rfl dL_areBeats_201 (fun r26 σ27 _ => ?_)
    refine V_iload (x := v7) dL_areBeats_204 rfl ?_
    refine V_isub (x := r26) (y := v7) dL_areBeats_206 ?_
    refine V_icmp_ne (tgt := 267) (x := v8) (y := (r26 - v7)) dL_areBeats_207 (by decide) (fun hc28 => ?_) (fun hc28 => ?_)
    · refine V_aload_n (x := v0) dL_areBeats_210 rfl ?_
      refine V_iload_n (x := v3) dL_areBeats_211 rfl ?_
      refine V_iconst (v := (0 : Int32)) dL_areBeats_212 rfl ?_
      refine V_callV0 (As := [.int v3, .int (0 : Int32)]) (st0 := []) (stI := [.int (0 : Int32), .int v3, va_rf v0]) (fun _ h => by cases h; exact t_X8_lampOf _ v3 (0 : Int32) σ27) (q := (RX8, TX8, 6)) rfl rfl rfl (Nat.le_of_ble_eq_true rfl) rfl (fun s args hts => cwV 2 hts gL_areBeats_X8_lampOf rfl rfl rfl (by decide +kernel) ⟨Nat.le_of_ble_eq_true rfl, Nat.le_of_ble_eq_true rfl⟩) rfl rfl dL_areBeats_213 (fun r29 σ30 _ => ?_)
      refine V_if_ge (tgt := 228) (x := r29) dL_areBeats_216 (by decide) (fun hc31 => ?_) (fun hc31 => ?_)
      · refine V_aload_n (x := v0) dL_areBeats_228 rfl ?_
        refine V_iload_n (x := v3) dL_areBeats_229 rfl ?_
        refine V_iconst (v := (3 : Int32)) dL_areBeats_230 rfl ?_
        refine V_callV0 (As := [.int v3, .int (3 : Int32)]) (st0 := []) (stI := [.int (3 : Int32), .int v3, va_rf v0]) (fun _ h => by cases h; exact t_X8_lampOf _ v3 (3 : Int32) σ30) (q := (RX8, TX8, 6)) rfl rfl rfl (Nat.le_of_ble_eq_true rfl) rfl (fun s args hts => cwV 2 hts gL_areBeats_X8_lampOf rfl rfl rfl (by decide +kernel) ⟨Nat.le_of_ble_eq_true rfl, Nat.le_of_ble_eq_true rfl⟩) rfl rfl dL_areBeats_231 (fun r32 σ33 _ => ?_)
        refine V_iload (x := v5) dL_areBeats_234 rfl ?_
        refine V_icmp_ne (tgt := 267) (x := r32) (y := v5) dL_areBeats_236 (by decide) (fun hc34 => ?_) (fun hc34 => ?_)
        · exact V_sub (LE.s (LE.s (LE.s (LE.n (LE.s (LE.n (LE.s (LE.n (LE.s (LE.s (LE.n (LE.s (LE.s (LE.s LE.e)))))))))))))) (v_L_areBeats_b239  v0 v2 v4 v6 v8 v9 σ33)
        · exact V_sub (LE.s (LE.s (LE.n (LE.n (LE.s (LE.n (LE.s (LE.n (LE.s (LE.n (LE.n (LE.s (LE.s (LE.s LE.e)))))))))))))) (v_L_areBeats_b267  v0 v4 v6 v8 σ33)
      · refine V_iload (x := v5) dL_areBeats_219 rfl ?_
        refine V_iconst (v := (-1 : Int32)) dL_areBeats_221 rfl ?_
        refine V_icmp_ne (tgt := 267) (x := v5) (y := (-1 : Int32)) dL_areBeats_222 (by decide) (fun hc35 => ?_) (fun hc35 => ?_)
        · refine V_goto (tgt := 239) dL_areBeats_225 (by decide) ?_
          exact V_sub (LE.s (LE.s (LE.s (LE.n (LE.s (LE.n (LE.s (LE.n (LE.s (LE.s (LE.n (LE.s (LE.s (LE.s LE.e)))))))))))))) (v_L_areBeats_b239  v0 v2 v4 v6 v8 v9 σ30)
        · exact V_sub (LE.s (LE.s (LE.n (LE.n (LE.s (LE.n (LE.s (LE.n (LE.s (LE.n (LE.n (LE.s (LE.s (LE.s LE.e)))))))))))))) (v_L_areBeats_b267  v0 v4 v6 v8 σ30)
    · exact V_sub (LE.s (LE.s (LE.n (LE.n (LE.s (LE.n (LE.s (LE.n (LE.s (LE.n (LE.n (LE.s (LE.s (LE.s LE.e)))))))))))))) (v_L_areBeats_b267  v0 v4 v6 v8 σ27)
set_option maxRecDepth 100000 in
set_option maxHeartbeats 4000000 in
theorem v_L_areBeats_b184 {D : DG} {z0 : Nat} {l : Launch} {rec82 : Option Nat → Int32 → Int32 → Int32 → Int32 → Int32 → Int32 → Int32 → Int32 → Int32 → Int32 → SG → Option (Int32 × SG)} (hrec82 : ∀ (v0 : Option Nat) (v2 : Int32) (v3 : Int32) (v4 : Int32) (v5 : Int32) (v6 : Int32) (v7 : Int32) (v8 : Int32) (v9 : Int32) (v10 : Int32) (v11 : Int32) (σ : SG), V D z0 l RL cL_areBeats 14 wsL_areBeats (some .boolean) rmL_areBeats false tvI 82 [some (va_rf v0), none, some (.int v2), some (.int v3), some (.int v4), some (.int v5), some (.int v6), some (.int v7), some (.int v8), some (.int v9), some (.int v10), some (.int v11), none, none] [] σ 0 0 (rec82 v0 v2 v3 v4 v5 v6 v7 v8 v9 v10 v11 σ)) : ∀ (v0 : Option Nat) (v2 : Int32) (v3 : Int32) (v4 : Int32) (v5 : Int32) (v6 : Int32) (v7 : Int32) (v8 : Int32) (v9 : Int32) (v11 : Int32) (s0 : Int32) (σ : SG), V D z0 l RL cL_areBeats 14 wsL_areBeats (some .boolean) rmL_areBeats false tvI 184 [some (va_rf v0), none, some (.int v2), some (.int v3), some (.int v4), some (.int v5), some (.int v6), some (.int v7), some (.int v8), some (.int v9), none, some (.int v11), none, none] [.int s0] σ 0 0 (m_L_areBeats_b184 rec82 v0 v2 v3 v4 v5 v6 v7 v8 v9 v11 s0 σ) := by
  intro v0 v2 v3 v4 v5 v6 v7 v8 v9 v11 s0 σ
  unfold m_L_areBeats_b184
  refine V_istore (x := s0) (ls' := [some (va_rf v0), none, some (.int v2), some (.int v3), some (.int v4), some (.int v5), some (.int v6), some (.int v7), some (.int v8), some (.int v9), some (.int s0), some (.int v11), none, none]) dL_areBeats_184 (by decide) rfl ?_
  refine V_iinc (x := v11) (v := (v11 + 1)) (ls' := [some (va_rf v0), none, some (.int v2), some (.int v3), some (.int v4), some (.int v5), some (.int v6), some (.int v7), some (.int v8), some (.int v9), some (.int s0), some (.int (v11 + 1)), none, none]) dL_areBeats_186 rfl rfl (by decide) rfl ?_
  refine V_goto (tgt := 82) dL_areBeats_189 (by decide) ?_
  exact hrec82 v0 v2 v3 v4 v5 v6 v7 v8 v9 s0 ((v11 + 1)) σ
set_option maxRecDepth 100000 in
set_option maxHeartbeats 4000000 in
theorem v_L_areBeats_b183 {D : DG} {z0 : Nat} {l : Launch} {rec82 : Option Nat → Int32 → Int32 → Int32 → Int32 → Int32 → Int32 → Int32 → Int32 → Int32 → Int32 → SG → Option (Int32 × SG)} (hrec82 : ∀ (v0 : Option Nat) (v2 : Int32) (v3 : Int32) (v4 : Int32) (v5 : Int32) (v6 : Int32) (v7 : Int32) (v8 : Int32) (v9 : Int32) (v10 : Int32) (v11 : Int32) (σ : SG), V D z0 l RL cL_areBeats 14 wsL_areBeats (some .boolean) rmL_areBeats false tvI 82 [some (va_rf v0), none, some (.int v2), some (.int v3), some (.int v4), some (.int v5), some (.int v6), some (.int v7), some (.int v8), some (.int v9), some (.int v10), some (.int v11), none, none] [] σ 0 0 (rec82 v0 v2 v3 v4 v5 v6 v7 v8 v9 v10 v11 σ)) : ∀ (v0 : Option Nat) (v2 : Int32) (v3 : Int32) (v4 : Int32) (v5 : Int32) (v6 : Int32) (v7 : Int32) (v8 : Int32) (v9 : Int32) (v11 : Int32) (σ : SG), V D z0 l RL cL_areBeats 14 wsL_areBeats (some .boolean) rmL_areBeats false tvI 183 [some (va_rf v0), none, some (.int v2), some (.int v3), some (.int v4), some (.int v5), some (.int v6), some (.int v7), some (.int v8), some (.int v9), none, some (.int v11), none, none] [] σ 0 0 (m_L_areBeats_b183 rec82 v0 v2 v3 v4 v5 v6 v7 v8 v9 v11 σ) := by
  intro v0 v2 v3 v4 v5 v6 v7 v8 v9 v11 σ
  unfold m_L_areBeats_b183
  refine V_iconst (v := (0 : Int32)) dL_areBeats_183 rfl ?_
  exact v_L_areBeats_b184 hrec82 v0 v2 v3 v4 v5 v6 v7 v8 v9 v11 ((0 : Int32)) σ
set_option maxRecDepth 100000 in
set_option maxHeartbeats 4000000 in
theorem v_L_areBeats_b138 {D : DG} {z0 : Nat} {l : Launch} {rec82 : Option Nat → Int32 → Int32 → Int32 → Int32 → Int32 → Int32 → Int32 → Int32 → Int32 → Int32 → SG → Option (Int32 × SG)} (hrec82 : ∀ (v0 : Option Nat) (v2 : Int32) (v3 : Int32) (v4 : Int32) (v5 : Int32) (v6 : Int32) (v7 : Int32) (v8 : Int32) (v9 : Int32) (v10 : Int32) (v11 : Int32) (σ : SG), V D z0 l RL cL_areBeats 14 wsL_areBeats (some .boolean) rmL_areBeats false tvI 82 [some (va_rf v0), none, some (.int v2), some (.int v3), some (.int v4), some (.int v5), some (.int v6), some (.int v7), some (.int v8), some (.int v9), some (.int v10), some (.int v11), none, none] [] σ 0 0 (rec82 v0 v2 v3 v4 v5 v6 v7 v8 v9 v10 v11 σ)) : ∀ (v0 : Option Nat) (v2 : Int32) (v3 : Int32) (v4 : Int32) (v5 : Int32) (v6 : Int32) (v7 : Int32) (v8 : Int32) (v11 : Int32) (v12 : Int32) (v13 : Int32) (s0 : Int32) (σ : SG), V D z0 l RL cL_areBeats 14 wsL_areBeats (some .boolean) rmL_areBeats false tvI 138 [some (va_rf v0), none, some (.int v2), some (.int v3), some (.int v4), some (.int v5), some (.int v6), some (.int v7), some (.int v8), none, none, some (.int v11), some (.int v12), some (.int v13)] [.int s0] σ 0 0 (m_L_areBeats_b138 rec82 v0 v2 v3 v4 v5 v6 v7 v8 v11 v12 v13 s0 σ) := by
  intro v0 v2 v3 v4 v5 v6 v7 v8 v11 v12 v13 s0 σ
  unfold m_L_areBeats_b138
  refine V_istore (x := s0) (ls' := [some (va_rf v0), none, some (.int v2), some (.int v3), some (.int v4), some (.int v5), some (.int v6), some (.int v7), some (.int v8), some (.int s0), none, some (.int v11), some (.int v12), some (.int v13)]) dL_areBeats_138 (by decide) rfl ?_
  refine V_aload_n (x := v0) dL_areBeats_140 rfl ?_
  refine V_iconst (v := (0 : Int32)) dL_areBeats_141 rfl ?_
  refine V_callV0 (As := [.int (0 : Int32)]) (st0 := []) (stI := [.int (0 : Int32), va_rf v0]) (fun _ h => by cases h; exact t_X8_count _ (0 : Int32) σ) (q := (RX8, TX8, 6)) rfl rfl rfl (Nat.le_of_ble_eq_true rfl) rfl (fun s args hts => cwV 1 hts gL_areBeats_X8_count rfl rfl rfl (by decide +kernel) ⟨Nat.le_of_ble_eq_true rfl, Nat.le_of_ble_eq_true rfl⟩) rfl rfl dL_areBeats_142 (fun r36 σ37 _ => ?_)
  refine V_iload (x := v6) dL_areBeats_145 rfl ?_
  refine V_iload (x := v11) dL_areBeats_147 rfl ?_
  refine V_iadd (x := v6) (y := v11) dL_areBeats_149 ?_
  refine V_icmp_ne (tgt := 183) (x := r36) (y := (v6 + v11)) dL_areBeats_150 (by decide) (fun hc38 => ?_) (fun hc38 => ?_)
  · refine V_iload (x := v12) dL_areBeats_153 rfl ?_
    refine V_aload_n (x := v0) dL_areBeats_155 rfl ?_
    refine V_iconst (v := (5 : Int32)) dL_areBeats_156 rfl ?_
    refine V_callV0 (As := [.int (5 : Int32)]) (st0 := [.int v12]) (stI := [.int (5 : Int32), va_rf v0, .int v12]) (fun _ h => by cases h; exact t_X8_count _ (5 : Int32) σ37) (q := (RX8, TX8, 6)) rfl rfl rfl (Nat.le_of_ble_eq_true rfl) rfl (fun s args hts => cwV 1 hts gL_areBeats_X8_count rfl rfl rfl (by decide +kernel) ⟨Nat.le_of_ble_eq_true rfl, Nat.le_of_ble_eq_true rfl⟩) rfl rfl dL_areBeats_157 (fun r39 σ40 _ => ?_)
    refine V_isub (x := v12) (y := r39) dL_areBeats_160 ?_
    refine V_aload_n (x := v0) dL_areBeats_161 rfl ?_
    refine V_iconst (v := (0 : Int32)) dL_areBeats_162 rfl ?_
    refine V_callV0 (As := [.int (0 : Int32)]) (st0 := [.int (v12 - r39)]) (stI := [.int (0 : Int32), va_rf v0, .int (v12 - r39)]) (fun _ h => by cases h; exact t_X8_total _ (0 : Int32) σ40) (q := (RX8, TX8, 6)) rfl rfl rfl (Nat.le_of_ble_eq_true rfl) rfl (fun s args hts => cwV 1 hts gL_areBeats_X8_total rfl rfl rfl (by decide +kernel) ⟨Nat.le_of_ble_eq_true rfl, Nat.le_of_ble_eq_true rfl⟩) rfl rfl dL_areBeats_163 (fun r41 σ42 _ => ?_)
    refine V_iload (x := v13) dL_areBeats_166 rfl ?_
    refine V_isub (x := r41) (y := v13) dL_areBeats_168 ?_
    refine V_icmp_ne (tgt := 183) (x := (v12 - r39)) (y := (r41 - v13)) dL_areBeats_169 (by decide) (fun hc43 => ?_) (fun hc43 => ?_)
    · refine V_aload_n (x := v0) dL_areBeats_172 rfl ?_
      refine V_callS0 (As := [va_rf v0]) (st0 := []) (stI := [va_rf v0]) (t_L_areReceivers v0 σ42) rfl (Nat.le_of_ble_eq_true rfl) rfl (fun s args hts => va_cwS 1 hts gL_areBeats_L_areReceivers rfl rfl rfl (by decide +kernel) ⟨Nat.le_of_ble_eq_true rfl, Nat.le_of_ble_eq_true rfl⟩) rfl rfl dL_areBeats_173 (fun r44 σ45 _ => ?_)
      refine V_if_eq (tgt := 183) (x := r44) dL_areBeats_176 (by decide) (fun hc46 => ?_) (fun hc46 => ?_)
      · exact V_sub (LE.s (LE.s (LE.s (LE.s (LE.s (LE.s (LE.s (LE.s (LE.s (LE.s (LE.s (LE.s (LE.n (LE.n LE.e)))))))))))))) (v_L_areBeats_b183 hrec82 v0 v2 v3 v4 v5 v6 v7 v8 s0 v11 σ45)
      · refine V_iconst (v := (1 : Int32)) dL_areBeats_179 rfl ?_
        refine V_goto (tgt := 184) dL_areBeats_180 (by decide) ?_
        exact V_sub (LE.s (LE.s (LE.s (LE.s (LE.s (LE.s (LE.s (LE.s (LE.s (LE.s (LE.s (LE.s (LE.n (LE.n LE.e)))))))))))))) (v_L_areBeats_b184 hrec82 v0 v2 v3 v4 v5 v6 v7 v8 s0 v11 ((1 : Int32)) σ45)
    · exact V_sub (LE.s (LE.s (LE.s (LE.s (LE.s (LE.s (LE.s (LE.s (LE.s (LE.s (LE.s (LE.s (LE.n (LE.n LE.e)))))))))))))) (v_L_areBeats_b183 hrec82 v0 v2 v3 v4 v5 v6 v7 v8 s0 v11 σ42)
  · exact V_sub (LE.s (LE.s (LE.s (LE.s (LE.s (LE.s (LE.s (LE.s (LE.s (LE.s (LE.s (LE.s (LE.n (LE.n LE.e)))))))))))))) (v_L_areBeats_b183 hrec82 v0 v2 v3 v4 v5 v6 v7 v8 s0 v11 σ37)
set_option maxRecDepth 100000 in
set_option maxHeartbeats 4000000 in
theorem v_L_areBeats_b136 {D : DG} {z0 : Nat} {l : Launch} {rec82 : Option Nat → Int32 → Int32 → Int32 → Int32 → Int32 → Int32 → Int32 → Int32 → Int32 → Int32 → SG → Option (Int32 × SG)} (hrec82 : ∀ (v0 : Option Nat) (v2 : Int32) (v3 : Int32) (v4 : Int32) (v5 : Int32) (v6 : Int32) (v7 : Int32) (v8 : Int32) (v9 : Int32) (v10 : Int32) (v11 : Int32) (σ : SG), V D z0 l RL cL_areBeats 14 wsL_areBeats (some .boolean) rmL_areBeats false tvI 82 [some (va_rf v0), none, some (.int v2), some (.int v3), some (.int v4), some (.int v5), some (.int v6), some (.int v7), some (.int v8), some (.int v9), some (.int v10), some (.int v11), none, none] [] σ 0 0 (rec82 v0 v2 v3 v4 v5 v6 v7 v8 v9 v10 v11 σ)) : ∀ (v0 : Option Nat) (v2 : Int32) (v3 : Int32) (v4 : Int32) (v5 : Int32) (v6 : Int32) (v7 : Int32) (v8 : Int32) (v9 : Int32) (v11 : Int32) (v12 : Int32) (v13 : Int32) (σ : SG), V D z0 l RL cL_areBeats 14 wsL_areBeats (some .boolean) rmL_areBeats false tvI 136 [some (va_rf v0), none, some (.int v2), some (.int v3), some (.int v4), some (.int v5), some (.int v6), some (.int v7), some (.int v8), some (.int v9), none, some (.int v11), some (.int v12), some (.int v13)] [] σ 0 0 (m_L_areBeats_b136 rec82 v0 v2 v3 v4 v5 v6 v7 v8 v9 v11 v12 v13 σ) := by
  intro v0 v2 v3 v4 v5 v6 v7 v8 v9 v11 v12 v13 σ
  unfold m_L_areBeats_b136
  refine V_iload (x := v9) dL_areBeats_136 rfl ?_
  exact V_sub (LE.s (LE.s (LE.s (LE.s (LE.s (LE.s (LE.s (LE.s (LE.s (LE.n (LE.s (LE.s (LE.s (LE.s LE.e)))))))))))))) (v_L_areBeats_b138 hrec82 v0 v2 v3 v4 v5 v6 v7 v8 v11 v12 v13 v9 σ)
set_option maxRecDepth 100000 in
set_option maxHeartbeats 4000000 in
theorem v_L_areBeats_B82 {D : DG} {z0 : Nat} {l : Launch} {rec82 : Option Nat → Int32 → Int32 → Int32 → Int32 → Int32 → Int32 → Int32 → Int32 → Int32 → Int32 → SG → Option (Int32 × SG)} (hrec82 : ∀ (v0 : Option Nat) (v2 : Int32) (v3 : Int32) (v4 : Int32) (v5 : Int32) (v6 : Int32) (v7 : Int32) (v8 : Int32) (v9 : Int32) (v10 : Int32) (v11 : Int32) (σ : SG), V D z0 l RL cL_areBeats 14 wsL_areBeats (some .boolean) rmL_areBeats false tvI 82 [some (va_rf v0), none, some (.int v2), some (.int v3), some (.int v4), some (.int v5), some (.int v6), some (.int v7), some (.int v8), some (.int v9), some (.int v10), some (.int v11), none, none] [] σ 0 0 (rec82 v0 v2 v3 v4 v5 v6 v7 v8 v9 v10 v11 σ)) : ∀ (v0 : Option Nat) (v2 : Int32) (v3 : Int32) (v4 : Int32) (v5 : Int32) (v6 : Int32) (v7 : Int32) (v8 : Int32) (v9 : Int32) (v10 : Int32) (v11 : Int32) (σ : SG), V D z0 l RL cL_areBeats 14 wsL_areBeats (some .boolean) rmL_areBeats false tvI 82 [some (va_rf v0), none, some (.int v2), some (.int v3), some (.int v4), some (.int v5), some (.int v6), some (.int v7), some (.int v8), some (.int v9), some (.int v10), some (.int v11), none, none] [] σ 0 0 (m_L_areBeats_B82 rec82 v0 v2 v3 v4 v5 v6 v7 v8 v9 v10 v11 σ) := by
  intro v0 v2 v3 v4 v5 v6 v7 v8 v9 v10 v11 σ
  unfold m_L_areBeats_B82
  refine V_iload (x := v11) dL_areBeats_82 rfl ?_
  refine V_iload (x := v4) dL_areBeats_84 rfl ?_
  refine V_icmp_gt (tgt := 192) (x := v11) (y := v4) dL_areBeats_86 (by decide) (fun hc47 => ?_) (fun hc47 => ?_)
  · exact V_sub (LE.s (LE.s (LE.s (LE.s (LE.s (LE.s (LE.s (LE.s (LE.s (LE.s (LE.s (LE.n (LE.s (LE.s LE.e)))))))))))))) (v_L_areBeats_b192  v0 v2 v3 v4 v5 v6 v7 v8 v9 v10 σ)
  · refine V_iload (x := v10) dL_areBeats_89 rfl ?_
    refine V_if_eq (tgt := 192) (x := v10) dL_areBeats_91 (by decide) (fun hc48 => ?_) (fun hc48 => ?_)
    · exact V_sub (LE.s (LE.s (LE.s (LE.s (LE.s (LE.s (LE.s (LE.s (LE.s (LE.s (LE.s (LE.n (LE.s (LE.s LE.e)))))))))))))) (v_L_areBeats_b192  v0 v2 v3 v4 v5 v6 v7 v8 v9 v10 σ)
    · refine V_aload_n (x := v0) dL_areBeats_94 rfl ?_
      refine V_iconst (v := (5 : Int32)) dL_areBeats_95 rfl ?_
      refine V_callV0 (As := [.int (5 : Int32)]) (st0 := []) (stI := [.int (5 : Int32), va_rf v0]) (fun _ h => by cases h; exact t_X8_count _ (5 : Int32) σ) (q := (RX8, TX8, 6)) rfl rfl rfl (Nat.le_of_ble_eq_true rfl) rfl (fun s args hts => cwV 1 hts gL_areBeats_X8_count rfl rfl rfl (by decide +kernel) ⟨Nat.le_of_ble_eq_true rfl, Nat.le_of_ble_eq_true rfl⟩) rfl rfl dL_areBeats_96 (fun r49 σ50 _ => ?_)
      refine V_istore (x := r49) (ls' := [some (va_rf v0), none, some (.int v2), some (.int v3), some (.int v4), some (.int v5), some (.int v6), some (.int v7), some (.int v8), some (.int v9), some (.int v10), some (.int v11), some (.int r49), none]) dL_areBeats_99 (by decide) rfl ?_
      refine V_aload_n (x := v0) dL_areBeats_101 rfl ?_
      refine V_iconst (v := (0 : Int32)) dL_areBeats_102 rfl ?_
      refine V_callV0 (As := [.int (0 : Int32)]) (st0 := []) (stI := [.int (0 : Int32), va_rf v0]) (fun _ h => by cases h; exact t_X8_total _ (0 : Int32) σ50) (q := (RX8, TX8, 6)) rfl rfl rfl (Nat.le_of_ble_eq_true rfl) rfl (fun s args hts => cwV 1 hts gL_areBeats_X8_total rfl rfl rfl (by decide +kernel) ⟨Nat.le_of_ble_eq_true rfl, Nat.le_of_ble_eq_true rfl⟩) rfl rfl dL_areBeats_103 (fun r51 σ52 _ => ?_)
      refine V_istore (x := r51) (ls' := [some (va_rf v0), none, some (.int v2), some (.int v3), some (.int v4), some (.int v5), some (.int v6), some (.int v7), some (.int v8), some (.int v9), some (.int v10), some (.int v11), some (.int r49), some (.int r51)]) dL_areBeats_106 (by decide) rfl ?_
      refine V_iload (x := v8) dL_areBeats_108 rfl ?_
      refine V_aload_n (x := v0) dL_areBeats_110 rfl ?_
      refine V_iconst (v := (1 : Int32)) dL_areBeats_111 rfl ?_
      refine V_callV0 (As := [.int (1 : Int32)]) (st0 := [.int v8]) (stI := [.int (1 : Int32), va_rf v0, .int v8]) (fun _ h => by cases h; exact t_X8_pass _ (1 : Int32) σ52) (q := (RX8, TX8, 6)) rfl rfl rfl (Nat.le_of_ble_eq_true rfl) rfl (fun s args hts => cwV 1 hts gL_areBeats_X8_pass rfl rfl rfl (by decide +kernel) ⟨Nat.le_of_ble_eq_true rfl, Nat.le_of_ble_eq_true rfl⟩) rfl rfl dL_areBeats_112 (fun r53 σ54 _ => ?_)
      refine V_iadd (x := v8) (y := r53) dL_areBeats_115 ?_
      refine V_istore (x := (v8 + r53)) (ls' := [some (va_rf v0), none, some (.int v2), some (.int v3), some (.int v4), some (.int v5), some (.int v6), some (.int v7), some (.int (v8 + r53)), some (.int v9), some (.int v10), some (.int v11), some (.int r49), some (.int r51)]) dL_areBeats_116 (by decide) rfl ?_
      refine V_iload (x := v9) dL_areBeats_118 rfl ?_
      refine V_if_ge (tgt := 136) (x := v9) dL_areBeats_120 (by decide) (fun hc55 => ?_) (fun hc55 => ?_)
      · exact V_sub (LE.s (LE.s (LE.s (LE.s (LE.s (LE.s (LE.s (LE.s (LE.s (LE.s (LE.n (LE.s (LE.s (LE.s LE.e)))))))))))))) (v_L_areBeats_b136 hrec82 v0 v2 v3 v4 v5 v6 v7 ((v8 + r53)) v9 v11 r49 r51 σ54)
      · refine V_aload_n (x := v0) dL_areBeats_123 rfl ?_
        refine V_iconst (v := (5 : Int32)) dL_areBeats_124 rfl ?_
        refine V_callV0 (As := [.int (5 : Int32)]) (st0 := []) (stI := [.int (5 : Int32), va_rf v0]) (fun _ h => by cases h; exact t_X8_count _ (5 : Int32) σ54) (q := (RX8, TX8, 6)) rfl rfl rfl (Nat.le_of_ble_eq_true rfl) rfl (fun s args hts => cwV 1 hts gL_areBeats_X8_count rfl rfl rfl (by decide +kernel) ⟨Nat.le_of_ble_eq_true rfl, Nat.le_of_ble_eq_true rfl⟩) rfl rfl dL_areBeats_125 (fun r56 σ57 _ => ?_)
        refine V_if_ne (tgt := 136) (x := r56) dL_areBeats_128 (by decide) (fun hc58 => ?_) (fun hc58 => ?_)
        · refine V_iload (x := v11) dL_areBeats_131 rfl ?_
          refine V_goto (tgt := 138) dL_areBeats_133 (by decide) ?_
          exact V_sub (LE.s (LE.s (LE.s (LE.s (LE.s (LE.s (LE.s (LE.s (LE.s (LE.n (LE.n (LE.s (LE.s (LE.s LE.e)))))))))))))) (v_L_areBeats_b138 hrec82 v0 v2 v3 v4 v5 v6 v7 ((v8 + r53)) v11 r49 r51 v11 σ57)
        · exact V_sub (LE.s (LE.s (LE.s (LE.s (LE.s (LE.s (LE.s (LE.s (LE.s (LE.s (LE.n (LE.s (LE.s (LE.s LE.e)))))))))))))) (v_L_areBeats_b136 hrec82 v0 v2 v3 v4 v5 v6 v7 ((v8 + r53)) v9 v11 r49 r51 σ57)
theorem v_L_areBeats_L82 {D : DG} {z0 : Nat} {l : Launch} : ∀ (n : Nat) (v0 : Option Nat) (v2 : Int32) (v3 : Int32) (v4 : Int32) (v5 : Int32) (v6 : Int32) (v7 : Int32) (v8 : Int32) (v9 : Int32) (v10 : Int32) (v11 : Int32) (σ : SG), V D z0 l RL cL_areBeats 14 wsL_areBeats (some .boolean) rmL_areBeats false tvI 82 [some (va_rf v0), none, some (.int v2), some (.int v3), some (.int v4), some (.int v5), some (.int v6), some (.int v7), some (.int v8), some (.int v9), some (.int v10), some (.int v11), none, none] [] σ 0 0 (m_L_areBeats_L82 n v0 v2 v3 v4 v5 v6 v7 v8 v9 v10 v11 σ) := by
  intro n
  induction n with
  | zero => intros; exact V_none
  | succ n ih => exact v_L_areBeats_B82  ih
set_option maxRecDepth 100000 in
set_option maxHeartbeats 4000000 in
theorem v_L_areBeats_b77 {D : DG} {z0 : Nat} {l : Launch} : ∀ (v0 : Option Nat) (v2 : Int32) (v3 : Int32) (v4 : Int32) (v5 : Int32) (v6 : Int32) (v7 : Int32) (v8 : Int32) (v9 : Int32) (s0 : Int32) (σ : SG), V D z0 l RL cL_areBeats 14 wsL_areBeats (some .boolean) rmL_areBeats false tvI 77 [some (va_rf v0), none, some (.int v2), some (.int v3), some (.int v4), some (.int v5), some (.int v6), some (.int v7), some (.int v8), some (.int v9), none, none, none, none] [.int s0] σ 0 0 (m_L_areBeats_b77 v0 v2 v3 v4 v5 v6 v7 v8 v9 s0 σ) := by
  intro v0 v2 v3 v4 v5 v6 v7 v8 v9 s0 σ
  unfold m_L_areBeats_b77
  refine V_istore (x := s0) (ls' := [some (va_rf v0), none, some (.int v2), some (.int v3), some (.int v4), some (.int v5), some (.int v6), some (.int v7), some (.int v8), some (.int v9), some (.int s0), none, none, none]) dL_areBeats_77 (by decide) rfl ?_
  refine V_iconst (v := (1 : Int32)) dL_areBeats_79 rfl ?_
  refine V_istore (x := (1 : Int32)) (ls' := [some (va_rf v0), none, some (.int v2), some (.int v3), some (.int v4), some (.int v5), some (.int v6), some (.int v7), some (.int v8), some (.int v9), some (.int s0), some (.int (1 : Int32)), none, none]) dL_areBeats_80 (by decide) rfl ?_
  exact v_L_areBeats_L82  1000 v0 v2 v3 v4 v5 v6 v7 v8 v9 s0 ((1 : Int32)) σ
set_option maxRecDepth 100000 in
set_option maxHeartbeats 4000000 in
theorem v_L_areBeats_b60 {D : DG} {z0 : Nat} {l : Launch} : ∀ (v0 : Option Nat) (v2 : Int32) (v3 : Int32) (v4 : Int32) (v5 : Int32) (v6 : Int32) (v7 : Int32) (v8 : Int32) (s0 : Int32) (σ : SG), V D z0 l RL cL_areBeats 14 wsL_areBeats (some .boolean) rmL_areBeats false tvI 60 [some (va_rf v0), none, some (.int v2), some (.int v3), some (.int v4), some (.int v5), some (.int v6), some (.int v7), some (.int v8), none, none, none, none, none] [.int s0] σ 0 0 (m_L_areBeats_b60 v0 v2 v3 v4 v5 v6 v7 v8 s0 σ) := by
  intro v0 v2 v3 v4 v5 v6 v7 v8 s0 σ
  unfold m_L_areBeats_b60
  refine V_istore (x := s0) (ls' := [some (va_rf v0), none, some (.int v2), some (.int v3), some (.int v4), some (.int v5), some (.int v6), some (.int v7), some (.int v8), some (.int s0), none, none, none, none]) dL_areBeats_60 (by decide) rfl ?_
  refine V_iload (x := v6) dL_areBeats_62 rfl ?_
  refine V_aload_n (x := v0) dL_areBeats_64 rfl ?_
  refine V_iconst (v := (0 : Int32)) dL_areBeats_65 rfl ?_
  refine V_callV0 (As := [.int (0 : Int32)]) (st0 := [.int v6]) (stI := [.int (0 : Int32), va_rf v0, .int v6]) (fun _ h => by cases h; exact t_X8_count _ (0 : Int32) σ) (q := (RX8, TX8, 6)) rfl rfl rfl (Nat.le_of_ble_eq_true rfl) rfl (fun s args hts => cwV 1 hts gL_areBeats_X8_count rfl rfl rfl (by decide +kernel) ⟨Nat.le_of_ble_eq_true rfl, Nat.le_of_ble_eq_true rfl⟩) rfl rfl dL_areBeats_66 (fun r59 σ60 _ => ?_)
  refine V_icmp_ne (tgt := 76) (x := v6) (y := r59) dL_areBeats_69 (by decide) (fun hc61 => ?_) (fun hc61 => ?_)
  · refine V_iconst (v := (1 : Int32)) dL_areBeats_72 rfl ?_
    refine V_goto (tgt := 77) dL_areBeats_73 (by decide) ?_
    exact v_L_areBeats_b77  v0 v2 v3 v4 v5 v6 v7 v8 s0 ((1 : Int32)) σ60
  · refine V_iconst (v := (0 : Int32)) dL_areBeats_76 rfl ?_
    exact v_L_areBeats_b77  v0 v2 v3 v4 v5 v6 v7 v8 s0 ((0 : Int32)) σ60
set_option maxRecDepth 100000 in
set_option maxHeartbeats 4000000 in
theorem v_L_areBeats {D : DG} {z0 : Nat} {l : Launch} : ∀ (a0 : Option Nat) (a1 : Int32) (σ : SG), V D z0 l RL cL_areBeats 14 wsL_areBeats (some .boolean) rmL_areBeats false tvI 0 [some (va_rf a0), some (.int a1), none, none, none, none, none, none, none, none, none, none, none, none] [] σ 0 0 (m_L_areBeats a0 a1 σ) := by
  intro a0 a1 σ
  unfold m_L_areBeats
  refine V_aload_n (x := a0) dL_areBeats_0 rfl ?_
  refine V_callV0 (As := []) (st0 := []) (stI := [va_rf a0]) (fun _ h => by cases h; exact t_X8_silentIn _ σ) (q := (RX8, TX8, 6)) rfl rfl rfl (Nat.le_of_ble_eq_true rfl) rfl (fun s args hts => cwV 0 hts gL_areBeats_X8_silentIn rfl rfl rfl (by decide +kernel) ⟨Nat.le_of_ble_eq_true rfl, Nat.le_of_ble_eq_true rfl⟩) rfl rfl dL_areBeats_1 (fun r62 σ63 _ => ?_)
  refine V_istore_n (x := r62) (ls' := [some (va_rf a0), some (.int a1), some (.int r62), none, none, none, none, none, none, none, none, none, none, none]) dL_areBeats_4 (by decide) rfl ?_
  refine V_iload_n (x := a1) dL_areBeats_5 rfl ?_
  refine V_bipush (v := (64 : Int32)) dL_areBeats_6 rfl ?_
  refine V_idiv (x := a1) (y := (64 : Int32)) dL_areBeats_8 ?_
  refine V_bipush (v := (8 : Int32)) dL_areBeats_9 rfl ?_
  refine V_irem (x := (a1 / (64 : Int32))) (y := (8 : Int32)) dL_areBeats_11 ?_
  refine V_istore_n (x := ((a1 / (64 : Int32)) - (a1 / (64 : Int32)) / (8 : Int32) * (8 : Int32))) (ls' := [some (va_rf a0), some (.int a1), some (.int r62), some (.int ((a1 / (64 : Int32)) - (a1 / (64 : Int32)) / (8 : Int32) * (8 : Int32))), none, none, none, none, none, none, none, none, none, none]) dL_areBeats_12 (by decide) rfl ?_
  refine V_iconst (v := (1 : Int32)) dL_areBeats_13 rfl ?_
  refine V_iload_n (x := a1) dL_areBeats_14 rfl ?_
  refine V_bipush (v := (50 : Int32)) dL_areBeats_15 rfl ?_
  refine V_irem (x := a1) (y := (50 : Int32)) dL_areBeats_17 ?_
  refine V_iadd (x := (1 : Int32)) (y := (a1 - a1 / (50 : Int32) * (50 : Int32))) dL_areBeats_18 ?_
  refine V_istore (x := ((1 : Int32) + (a1 - a1 / (50 : Int32) * (50 : Int32)))) (ls' := [some (va_rf a0), some (.int a1), some (.int r62), some (.int ((a1 / (64 : Int32)) - (a1 / (64 : Int32)) / (8 : Int32) * (8 : Int32))), some (.int ((1 : Int32) + (a1 - a1 / (50 : Int32) * (50 : Int32)))), none, none, none, none, none, none, none, none, none]) dL_areBeats_19 (by decide) rfl ?_
  refine V_aload_n (x := a0) dL_areBeats_21 rfl ?_
  refine V_iload_n (x := ((a1 / (64 : Int32)) - (a1 / (64 : Int32)) / (8 : Int32) * (8 : Int32))) dL_areBeats_22 rfl ?_
  refine V_iload (x := ((1 : Int32) + (a1 - a1 / (50 : Int32) * (50 : Int32)))) dL_areBeats_23 rfl ?_
  refine V_callV0 (As := [.int ((a1 / (64 : Int32)) - (a1 / (64 : Int32)) / (8 : Int32) * (8 : Int32)), .int ((1 : Int32) + (a1 - a1 / (50 : Int32) * (50 : Int32)))]) (st0 := []) (stI := [.int ((1 : Int32) + (a1 - a1 / (50 : Int32) * (50 : Int32))), .int ((a1 / (64 : Int32)) - (a1 / (64 : Int32)) / (8 : Int32) * (8 : Int32)), va_rf a0]) (fun _ h => by cases h; exact t_X8_levelIn _ ((a1 / (64 : Int32)) - (a1 / (64 : Int32)) / (8 : Int32) * (8 : Int32)) ((1 : Int32) + (a1 - a1 / (50 : Int32) * (50 : Int32))) σ63) (q := (RX8, TX8, 6)) rfl rfl rfl (Nat.le_of_ble_eq_true rfl) rfl (fun s args hts => cwV 2 hts gL_areBeats_X8_levelIn rfl rfl rfl (by decide +kernel) ⟨Nat.le_of_ble_eq_true rfl, Nat.le_of_ble_eq_true rfl⟩) rfl rfl dL_areBeats_25 (fun r64 σ65 _ => ?_)
  refine V_istore (x := r64) (ls' := [some (va_rf a0), some (.int a1), some (.int r62), some (.int ((a1 / (64 : Int32)) - (a1 / (64 : Int32)) / (8 : Int32) * (8 : Int32))), some (.int ((1 : Int32) + (a1 - a1 / (50 : Int32) * (50 : Int32)))), some (.int r64), none, none, none, none, none, none, none, none]) dL_areBeats_28 (by decide) rfl ?_
  refine V_aload_n (x := a0) dL_areBeats_30 rfl ?_
  refine V_callV0 (As := []) (st0 := []) (stI := [va_rf a0]) (fun _ h => by cases h; exact t_X8_save _ σ65) (q := (RX8, TX8, 6)) rfl rfl rfl (Nat.le_of_ble_eq_true rfl) rfl (fun s args hts => cwV 0 hts gL_areBeats_X8_save rfl rfl rfl (by decide +kernel) ⟨Nat.le_of_ble_eq_true rfl, Nat.le_of_ble_eq_true rfl⟩) rfl rfl dL_areBeats_31 (fun r66 σ67 _ => ?_)
  refine V_istore (x := r66) (ls' := [some (va_rf a0), some (.int a1), some (.int r62), some (.int ((a1 / (64 : Int32)) - (a1 / (64 : Int32)) / (8 : Int32) * (8 : Int32))), some (.int ((1 : Int32) + (a1 - a1 / (50 : Int32) * (50 : Int32)))), some (.int r64), some (.int r66), none, none, none, none, none, none, none]) dL_areBeats_34 (by decide) rfl ?_
  refine V_aload_n (x := a0) dL_areBeats_36 rfl ?_
  refine V_iconst (v := (2 : Int32)) dL_areBeats_37 rfl ?_
  refine V_callV0 (As := [.int (2 : Int32)]) (st0 := []) (stI := [.int (2 : Int32), va_rf a0]) (fun _ h => by cases h; exact t_X8_total _ (2 : Int32) σ67) (q := (RX8, TX8, 6)) rfl rfl rfl (Nat.le_of_ble_eq_true rfl) rfl (fun s args hts => cwV 1 hts gL_areBeats_X8_total rfl rfl rfl (by decide +kernel) ⟨Nat.le_of_ble_eq_true rfl, Nat.le_of_ble_eq_true rfl⟩) rfl rfl dL_areBeats_38 (fun r68 σ69 _ => ?_)
  refine V_istore (x := r68) (ls' := [some (va_rf a0), some (.int a1), some (.int r62), some (.int ((a1 / (64 : Int32)) - (a1 / (64 : Int32)) / (8 : Int32) * (8 : Int32))), some (.int ((1 : Int32) + (a1 - a1 / (50 : Int32) * (50 : Int32)))), some (.int r64), some (.int r66), some (.int r68), none, none, none, none, none, none]) dL_areBeats_41 (by decide) rfl ?_
  refine V_iconst (v := (0 : Int32)) dL_areBeats_43 rfl ?_
  refine V_istore (x := (0 : Int32)) (ls' := [some (va_rf a0), some (.int a1), some (.int r62), some (.int ((a1 / (64 : Int32)) - (a1 / (64 : Int32)) / (8 : Int32) * (8 : Int32))), some (.int ((1 : Int32) + (a1 - a1 / (50 : Int32) * (50 : Int32)))), some (.int r64), some (.int r66), some (.int r68), some (.int (0 : Int32)), none, none, none, none, none]) dL_areBeats_44 (by decide) rfl ?_
  refine V_aload_n (x := a0) dL_areBeats_46 rfl ?_
  refine V_iconst (v := (5 : Int32)) dL_areBeats_47 rfl ?_
  refine V_callV0 (As := [.int (5 : Int32)]) (st0 := []) (stI := [.int (5 : Int32), va_rf a0]) (fun _ h => by cases h; exact t_X8_count _ (5 : Int32) σ69) (q := (RX8, TX8, 6)) rfl rfl rfl (Nat.le_of_ble_eq_true rfl) rfl (fun s args hts => cwV 1 hts gL_areBeats_X8_count rfl rfl rfl (by decide +kernel) ⟨Nat.le_of_ble_eq_true rfl, Nat.le_of_ble_eq_true rfl⟩) rfl rfl dL_areBeats_48 (fun r70 σ71 _ => ?_)
  refine V_if_ne (tgt := 58) (x := r70) dL_areBeats_51 (by decide) (fun hc72 => ?_) (fun hc72 => ?_)
  · refine V_iconst (v := (0 : Int32)) dL_areBeats_54 rfl ?_
    refine V_goto (tgt := 60) dL_areBeats_55 (by decide) ?_
    exact V_sub (LE.s (LE.n (LE.s (LE.s (LE.s (LE.s (LE.s (LE.s (LE.s (LE.s (LE.s (LE.s (LE.s (LE.s LE.e)))))))))))))) (v_L_areBeats_b60  a0 r62 (((a1 / (64 : Int32)) - (a1 / (64 : Int32)) / (8 : Int32) * (8 : Int32))) (((1 : Int32) + (a1 - a1 / (50 : Int32) * (50 : Int32)))) r64 r66 r68 ((0 : Int32)) ((0 : Int32)) σ71)
  · refine V_bipush (v := (-5 : Int32)) dL_areBeats_58 rfl ?_
    exact V_sub (LE.s (LE.n (LE.s (LE.s (LE.s (LE.s (LE.s (LE.s (LE.s (LE.s (LE.s (LE.s (LE.s (LE.s LE.e)))))))))))))) (v_L_areBeats_b60  a0 r62 (((a1 / (64 : Int32)) - (a1 / (64 : Int32)) / (8 : Int32) * (8 : Int32))) (((1 : Int32) + (a1 - a1 / (50 : Int32) * (50 : Int32)))) r64 r66 r68 ((0 : Int32)) ((-5 : Int32)) σ71)
theorem t_L_areBeats {D : DG} {z0 : Nat} {l : Launch} (a0 : Option Nat) (a1 : Int32) (σ : SG) : MT D z0 l yL_areBeats wsL_areBeats rmL_areBeats tvI [va_rf a0, .int a1] σ (m_L_areBeats a0 a1 σ) :=
  MT.of (own := RL) (cc := cL_areBeats) (nL := 14) (ret := (some .boolean)) (ct := false) (by decide) rfl rfl (fun h => by cases h) (Nat.le_of_ble_eq_true rfl) (by intro v hv; simp only [List.mem_cons, List.not_mem_nil, or_false] at hv; first | (rcases hv with rfl | rfl <;> first | rfl | exact va_rf_cat _) | exact absurd hv (fun h => h)) (v_L_areBeats a0 a1 σ)
set_option maxRecDepth 100000 in
set_option maxHeartbeats 4000000 in
theorem v_L_acts_b635 {D : DG} {z0 : Nat} {l : Launch} : ∀ (v0 : Option Nat) (v1 : Int32) (v3 : Int32) (σ : SG), V D z0 l RL cL_acts 23 wsL_acts (some .boolean) rmL_acts false tvI 635 [some (va_rf v0), some (.int v1), none, some (.int v3), none, none, none, none, none, none, none, none, none, none, none, none, none, none, none, none, none, none, none] [] σ 0 0 (m_L_acts_b635 v0 v1 v3 σ) := by
  intro v0 v1 v3 σ
  unfold m_L_acts_b635
  refine V_aload_n (x := v0) dL_acts_635 rfl ?_
  refine V_iload_n (x := v3) dL_acts_636 rfl ?_
  refine V_iconst (v := (2 : Int32)) dL_acts_637 rfl ?_
  refine V_callV0 (As := [.int v3, .int (2 : Int32)]) (st0 := []) (stI := [.int (2 : Int32), .int v3, va_rf v0]) (fun _ h => by cases h; exact t_X8_senderOf _ v3 (2 : Int32) σ) (q := (RX8, TX8, 6)) rfl rfl rfl (Nat.le_of_ble_eq_true rfl) rfl (fun s args hts => cwV 2 hts gL_acts_X8_senderOf rfl rfl rfl (by decide +kernel) ⟨Nat.le_of_ble_eq_true rfl, Nat.le_of_ble_eq_true rfl⟩) rfl rfl dL_acts_638 (fun r1 σ2 _ => ?_)
  refine V_istore (x := r1) (ls' := [some (va_rf v0), some (.int v1), none, some (.int v3), none, none, none, none, none, none, none, none, none, none, none, none, none, some (.int r1), none, none, none, none, none]) dL_acts_641 (by decide) rfl ?_
  refine V_iload_n (x := v1) dL_acts_643 rfl ?_
  refine V_bipush (v := (8 : Int32)) dL_acts_644 rfl ?_
  refine V_ishr (x := v1) (y := (8 : Int32)) dL_acts_646 ?_
  refine V_bipush (v := (32 : Int32)) dL_acts_647 rfl ?_
  refine V_irem (x := (v1 >>> ((8 : Int32) &&& 31))) (y := (32 : Int32)) dL_acts_649 ?_
  refine V_istore (x := ((v1 >>> ((8 : Int32) &&& 31)) - (v1 >>> ((8 : Int32) &&& 31)) / (32 : Int32) * (32 : Int32))) (ls' := [some (va_rf v0), some (.int v1), none, some (.int v3), none, none, none, none, none, none, none, none, none, none, none, none, none, some (.int r1), some (.int ((v1 >>> ((8 : Int32) &&& 31)) - (v1 >>> ((8 : Int32) &&& 31)) / (32 : Int32) * (32 : Int32))), none, none, none, none]) dL_acts_650 (by decide) rfl ?_
  refine V_aload_n (x := v0) dL_acts_652 rfl ?_
  refine V_iload_n (x := v3) dL_acts_653 rfl ?_
  refine V_iload (x := ((v1 >>> ((8 : Int32) &&& 31)) - (v1 >>> ((8 : Int32) &&& 31)) / (32 : Int32) * (32 : Int32))) dL_acts_654 rfl ?_
  refine V_callV0 (As := [.int v3, .int ((v1 >>> ((8 : Int32) &&& 31)) - (v1 >>> ((8 : Int32) &&& 31)) / (32 : Int32) * (32 : Int32))]) (st0 := []) (stI := [.int ((v1 >>> ((8 : Int32) &&& 31)) - (v1 >>> ((8 : Int32) &&& 31)) / (32 : Int32) * (32 : Int32)), .int v3, va_rf v0]) (fun _ h => by cases h; exact t_X8_say _ v3 ((v1 >>> ((8 : Int32) &&& 31)) - (v1 >>> ((8 : Int32) &&& 31)) / (32 : Int32) * (32 : Int32)) σ2) (q := (RX8, TX8, 6)) rfl rfl rfl (Nat.le_of_ble_eq_true rfl) rfl (fun s args hts => cwV 2 hts gL_acts_X8_say rfl rfl rfl (by decide +kernel) ⟨Nat.le_of_ble_eq_true rfl, Nat.le_of_ble_eq_true rfl⟩) rfl rfl dL_acts_656 (fun r3 σ4 _ => ?_)
  refine V_istore (x := r3) (ls' := [some (va_rf v0), some (.int v1), none, some (.int v3), none, none, none, none, none, none, none, none, none, none, none, none, none, some (.int r1), some (.int ((v1 >>> ((8 : Int32) &&& 31)) - (v1 >>> ((8 : Int32) &&& 31)) / (32 : Int32) * (32 : Int32))), some (.int r3), none, none, none]) dL_acts_659 (by decide) rfl ?_
  refine V_iload (x := r1) dL_acts_661 rfl ?_
  refine V_if_ge (tgt := 680) (x := r1) dL_acts_663 (by decide) (fun hc5 => ?_) (fun hc5 => ?_)
  · refine V_iload (x := r1) dL_acts_680 rfl ?_
    refine V_bipush (v := (6 : Int32)) dL_acts_682 rfl ?_
    refine V_icmp_ne (tgt := 702) (x := r1) (y := (6 : Int32)) dL_acts_684 (by decide) (fun hc6 => ?_) (fun hc6 => ?_)
    · refine V_iload (x := r3) dL_acts_687 rfl ?_
      refine V_bipush (v := (-3 : Int32)) dL_acts_689 rfl ?_
      refine V_icmp_ne (tgt := 698) (x := r3) (y := (-3 : Int32)) dL_acts_691 (by decide) (fun hc7 => ?_) (fun hc7 => ?_)
      · refine V_iconst (v := (1 : Int32)) dL_acts_694 rfl ?_
        refine V_goto (tgt := 728) dL_acts_695 (by decide) ?_
        exact V_zret (fun _ => rfl) rfl (Nat.zero_le _) (Nat.zero_le _) dL_acts_728
      · refine V_iconst (v := (0 : Int32)) dL_acts_698 rfl ?_
        refine V_goto (tgt := 728) dL_acts_699 (by decide) ?_
        exact V_zret (fun _ => rfl) rfl (Nat.zero_le _) (Nat.zero_le _) dL_acts_728
    · refine V_iload (x := r3) dL_acts_702 rfl ?_
      refine V_iload (x := r1) dL_acts_704 rfl ?_
      refine V_iconst (v := (1 : Int32)) dL_acts_706 rfl ?_
      refine V_iadd (x := r1) (y := (1 : Int32)) dL_acts_707 ?_
      refine V_icmp_ne (tgt := 727) (x := r3) (y := (r1 + (1 : Int32))) dL_acts_708 (by decide) (fun hc8 => ?_) (fun hc8 => ?_)
      · refine V_aload_n (x := v0) dL_acts_711 rfl ?_
        refine V_iload_n (x := v3) dL_acts_712 rfl ?_
        refine V_iload (x := r1) dL_acts_713 rfl ?_
        refine V_callV0 (As := [.int v3, .int r1]) (st0 := []) (stI := [.int r1, .int v3, va_rf v0]) (fun _ h => by cases h; exact t_X8_queued _ v3 r1 σ4) (q := (RX8, TX8, 6)) rfl rfl rfl (Nat.le_of_ble_eq_true rfl) rfl (fun s args hts => cwV 2 hts gL_acts_X8_queued rfl rfl rfl (by decide +kernel) ⟨Nat.le_of_ble_eq_true rfl, Nat.le_of_ble_eq_true rfl⟩) rfl rfl dL_acts_715 (fun r9 σ10 _ => ?_)
        refine V_iload (x := ((v1 >>> ((8 : Int32) &&& 31)) - (v1 >>> ((8 : Int32) &&& 31)) / (32 : Int32) * (32 : Int32))) dL_acts_718 rfl ?_
        refine V_icmp_ne (tgt := 727) (x := r9) (y := ((v1 >>> ((8 : Int32) &&& 31)) - (v1 >>> ((8 : Int32) &&& 31)) / (32 : Int32) * (32 : Int32))) dL_acts_720 (by decide) (fun hc11 => ?_) (fun hc11 => ?_)
        · refine V_iconst (v := (1 : Int32)) dL_acts_723 rfl ?_
          refine V_goto (tgt := 728) dL_acts_724 (by decide) ?_
          exact V_zret (fun _ => rfl) rfl (Nat.zero_le _) (Nat.zero_le _) dL_acts_728
        · refine V_iconst (v := (0 : Int32)) dL_acts_727 rfl ?_
          exact V_zret (fun _ => rfl) rfl (Nat.zero_le _) (Nat.zero_le _) dL_acts_728
      · refine V_iconst (v := (0 : Int32)) dL_acts_727 rfl ?_
        exact V_zret (fun _ => rfl) rfl (Nat.zero_le _) (Nat.zero_le _) dL_acts_728
  · refine V_iload (x := r3) dL_acts_666 rfl ?_
    refine V_iconst (v := (-1 : Int32)) dL_acts_668 rfl ?_
    refine V_icmp_ne (tgt := 676) (x := r3) (y := (-1 : Int32)) dL_acts_669 (by decide) (fun hc12 => ?_) (fun hc12 => ?_)
    · refine V_iconst (v := (1 : Int32)) dL_acts_672 rfl ?_
      refine V_goto (tgt := 728) dL_acts_673 (by decide) ?_
      exact V_zret (fun _ => rfl) rfl (Nat.zero_le _) (Nat.zero_le _) dL_acts_728
    · refine V_iconst (v := (0 : Int32)) dL_acts_676 rfl ?_
      refine V_goto (tgt := 728) dL_acts_677 (by decide) ?_
      exact V_zret (fun _ => rfl) rfl (Nat.zero_le _) (Nat.zero_le _) dL_acts_728
set_option maxRecDepth 100000 in
set_option maxHeartbeats 4000000 in
theorem v_L_acts_b589 {D : DG} {z0 : Nat} {l : Launch} : ∀ (v0 : Option Nat) (v14 : Int32) (s0 : Int32) (σ : SG), V D z0 l RL cL_acts 23 wsL_acts (some .boolean) rmL_acts false tvI 589 [some (va_rf v0), none, none, none, none, none, none, none, none, none, none, none, none, none, some (.int v14), none, none, none, none, none, none, none, none] [.int s0] σ 0 0 (m_L_acts_b589 v0 v14 s0 σ) := by
  intro v0 v14 s0 σ
  unfold m_L_acts_b589
  refine V_istore (x := s0) (ls' := [some (va_rf v0), none, none, none, none, none, none, none, none, none, none, none, none, none, some (.int v14), some (.int s0), none, none, none, none, none, none, none]) dL_acts_589 (by decide) rfl ?_
  refine V_aload_n (x := v0) dL_acts_591 rfl ?_
  refine V_bipush (v := (7 : Int32)) dL_acts_592 rfl ?_
  refine V_iload (x := v14) dL_acts_594 rfl ?_
  refine V_iadd (x := (7 : Int32)) (y := v14) dL_acts_596 ?_
  refine V_callV0 (As := [.int ((7 : Int32) + v14)]) (st0 := []) (stI := [.int ((7 : Int32) + v14), va_rf v0]) (fun _ h => by cases h; exact t_X8_count _ ((7 : Int32) + v14) σ) (q := (RX8, TX8, 6)) rfl rfl rfl (Nat.le_of_ble_eq_true rfl) rfl (fun s args hts => cwV 1 hts gL_acts_X8_count rfl rfl rfl (by decide +kernel) ⟨Nat.le_of_ble_eq_true rfl, Nat.le_of_ble_eq_true rfl⟩) rfl rfl dL_acts_597 (fun r13 σ14 _ => ?_)
  refine V_istore (x := r13) (ls' := [some (va_rf v0), none, none, none, none, none, none, none, none, none, none, none, none, none, some (.int v14), some (.int s0), some (.int r13), none, none, none, none, none, none]) dL_acts_600 (by decide) rfl ?_
  refine V_aload_n (x := v0) dL_acts_602 rfl ?_
  refine V_iload (x := v14) dL_acts_603 rfl ?_
  refine V_iload (x := s0) dL_acts_605 rfl ?_
  refine V_callV0 (As := [.int v14, .int s0]) (st0 := []) (stI := [.int s0, .int v14, va_rf v0]) (fun _ h => by cases h; exact t_X8_set _ v14 s0 σ14) (q := (RX8, TX8, 6)) rfl rfl rfl (Nat.le_of_ble_eq_true rfl) rfl (fun s args hts => cwV 2 hts gL_acts_X8_set rfl rfl rfl (by decide +kernel) ⟨Nat.le_of_ble_eq_true rfl, Nat.le_of_ble_eq_true rfl⟩) rfl rfl dL_acts_607 (fun r15 σ16 _ => ?_)
  refine V_iload (x := r13) dL_acts_610 rfl ?_
  refine V_icmp_ne (tgt := 633) (x := r15) (y := r13) dL_acts_612 (by decide) (fun hc17 => ?_) (fun hc17 => ?_)
  · refine V_aload_n (x := v0) dL_acts_615 rfl ?_
    refine V_bipush (v := (7 : Int32)) dL_acts_616 rfl ?_
    refine V_iload (x := v14) dL_acts_618 rfl ?_
    refine V_iadd (x := (7 : Int32)) (y := v14) dL_acts_620 ?_
    refine V_callV0 (As := [.int ((7 : Int32) + v14)]) (st0 := []) (stI := [.int ((7 : Int32) + v14), va_rf v0]) (fun _ h => by cases h; exact t_X8_count _ ((7 : Int32) + v14) σ16) (q := (RX8, TX8, 6)) rfl rfl rfl (Nat.le_of_ble_eq_true rfl) rfl (fun s args hts => cwV 1 hts gL_acts_X8_count rfl rfl rfl (by decide +kernel) ⟨Nat.le_of_ble_eq_true rfl, Nat.le_of_ble_eq_true rfl⟩) rfl rfl dL_acts_621 (fun r18 σ19 _ => ?_)
    refine V_iload (x := s0) dL_acts_624 rfl ?_
    refine V_icmp_ne (tgt := 633) (x := r18) (y := s0) dL_acts_626 (by decide) (fun hc20 => ?_) (fun hc20 => ?_)
    · refine V_iconst (v := (1 : Int32)) dL_acts_629 rfl ?_
      refine V_goto (tgt := 634) dL_acts_630 (by decide) ?_
      exact V_zret (fun _ => rfl) rfl (Nat.zero_le _) (Nat.zero_le _) dL_acts_634
    · refine V_iconst (v := (0 : Int32)) dL_acts_633 rfl ?_
      exact V_zret (fun _ => rfl) rfl (Nat.zero_le _) (Nat.zero_le _) dL_acts_634
  · refine V_iconst (v := (0 : Int32)) dL_acts_633 rfl ?_
    exact V_zret (fun _ => rfl) rfl (Nat.zero_le _) (Nat.zero_le _) dL_acts_634
set_option maxRecDepth 100000 in
set_option maxHeartbeats 4000000 in
theorem v_L_acts_b534 {D : DG} {z0 : Nat} {l : Launch} : ∀ (σ : SG), V D z0 l RL cL_acts 23 wsL_acts (some .boolean) rmL_acts false tvI 534 [none, none, none, none, none, none, none, none, none, none, none, none, none, none, none, none, none, none, none, none, none, none, none] [] σ 0 0 (m_L_acts_b534 σ) := by
  intro σ
  unfold m_L_acts_b534
  refine V_iconst (v := (1 : Int32)) dL_acts_534 rfl ?_
  refine V_goto (tgt := 539) dL_acts_535 (by decide) ?_
  exact V_zret (fun _ => rfl) rfl (Nat.zero_le _) (Nat.zero_le _) dL_acts_539
set_option maxRecDepth 100000 in
set_option maxHeartbeats 4000000 in
theorem v_L_acts_b530 {D : DG} {z0 : Nat} {l : Launch} : ∀ (s0 : Int32) (s1 : Int32) (s2 : Int32) (σ : SG), V D z0 l RL cL_acts 23 wsL_acts (some .boolean) rmL_acts false tvI 530 [none, none, none, none, none, none, none, none, none, none, none, none, none, none, none, none, none, none, none, none, none, none, none] [.int s2, .int s1, .int s0] σ 0 0 (m_L_acts_b530 s0 s1 s2 σ) := by
  intro s0 s1 s2 σ
  unfold m_L_acts_b530
  refine V_isub (x := s1) (y := s2) dL_acts_530 ?_
  refine V_icmp_ne (tgt := 538) (x := s0) (y := (s1 - s2)) dL_acts_531 (by decide) (fun hc21 => ?_) (fun hc21 => ?_)
  · exact v_L_acts_b534  σ
  · refine V_iconst (v := (0 : Int32)) dL_acts_538 rfl ?_
    exact V_zret (fun _ => rfl) rfl (Nat.zero_le _) (Nat.zero_le _) dL_acts_539
set_option maxRecDepth 100000 in
set_option maxHeartbeats 4000000 in
theorem v_L_acts_b485 {D : DG} {z0 : Nat} {l : Launch} : ∀ (v0 : Option Nat) (v11 : Int32) (v12 : Int32) (s0 : Int32) (σ : SG), V D z0 l RL cL_acts 23 wsL_acts (some .boolean) rmL_acts false tvI 485 [some (va_rf v0), none, none, none, none, none, none, none, none, none, none, some (.int v11), some (.int v12), none, none, none, none, none, none, none, none, none, none] [.int s0] σ 0 0 (m_L_acts_b485 v0 v11 v12 s0 σ) := by
  intro v0 v11 v12 s0 σ
  unfold m_L_acts_b485
  refine V_istore (x := s0) (ls' := [some (va_rf v0), none, none, none, none, none, none, none, none, none, none, some (.int v11), some (.int v12), some (.int s0), none, none, none, none, none, none, none, none, none]) dL_acts_485 (by decide) rfl ?_
  refine V_iload (x := s0) dL_acts_487 rfl ?_
  refine V_bipush (v := (-9 : Int32)) dL_acts_489 rfl ?_
  refine V_icmp_eq (tgt := 534) (x := s0) (y := (-9 : Int32)) dL_acts_491 (by decide) (fun hc22 => ?_) (fun hc22 => ?_)
  · exact V_sub (LE.n (LE.s (LE.s (LE.s (LE.s (LE.s (LE.s (LE.s (LE.s (LE.s (LE.s (LE.n (LE.n (LE.n (LE.s (LE.s (LE.s (LE.s (LE.s (LE.s (LE.s (LE.s (LE.s LE.e))))))))))))))))))))))) (v_L_acts_b534  σ)
  · refine V_iload (x := s0) dL_acts_494 rfl ?_
    refine V_iload (x := v11) dL_acts_496 rfl ?_
    refine V_icmp_ne (tgt := 538) (x := s0) (y := v11) dL_acts_498 (by decide) (fun hc23 => ?_) (fun hc23 => ?_)
    · refine V_aload_n (x := v0) dL_acts_501 rfl ?_
      refine V_iconst (v := (1 : Int32)) dL_acts_502 rfl ?_
      refine V_callV0 (As := [.int (1 : Int32)]) (st0 := []) (stI := [.int (1 : Int32), va_rf v0]) (fun _ h => by cases h; exact t_X8_count _ (1 : Int32) σ) (q := (RX8, TX8, 6)) rfl rfl rfl (Nat.le_of_ble_eq_true rfl) rfl (fun s args hts => cwV 1 hts gL_acts_X8_count rfl rfl rfl (by decide +kernel) ⟨Nat.le_of_ble_eq_true rfl, Nat.le_of_ble_eq_true rfl⟩) rfl rfl dL_acts_503 (fun r24 σ25 _ => ?_)
      refine V_aload_n (x := v0) dL_acts_506 rfl ?_
      refine V_iconst (v := (2 : Int32)) dL_acts_507 rfl ?_
      refine V_callV0 (As := [.int (2 : Int32)]) (st0 := [.int r24]) (stI := [.int (2 : Int32), va_rf v0, .int r24]) (fun _ h => by cases h; exact t_X8_count _ (2 : Int32) σ25) (q := (RX8, TX8, 6)) rfl rfl rfl (Nat.le_of_ble_eq_true rfl) rfl (fun s args hts => cwV 1 hts gL_acts_X8_count rfl rfl rfl (by decide +kernel) ⟨Nat.le_of_ble_eq_true rfl, Nat.le_of_ble_eq_true rfl⟩) rfl rfl dL_acts_508 (fun r26 σ27 _ => ?_)
      refine V_iadd (x := r24) (y := r26) dL_acts_511 ?_
      refine V_aload_n (x := v0) dL_acts_512 rfl ?_
      refine V_iconst (v := (3 : Int32)) dL_acts_513 rfl ?_
      refine V_callV0 (As := [.int (3 : Int32)]) (st0 := [.int (r24 + r26)]) (stI := [.int (3 : Int32), va_rf v0, .int (r24 + r26)]) (fun _ h => by cases h; exact t_X8_count _ (3 : Int32) σ27) (q := (RX8, TX8, 6)) rfl rfl rfl (Nat.le_of_ble_eq_true rfl) rfl (fun s args hts => cwV 1 hts gL_acts_X8_count rfl rfl rfl (by decide +kernel) ⟨Nat.le_of_ble_eq_true rfl, Nat.le_of_ble_eq_true rfl⟩) rfl rfl dL_acts_514 (fun r28 σ29 _ => ?_)
      refine V_iadd (x := (r24 + r26)) (y := r28) dL_acts_517 ?_
      refine V_iload (x := v12) dL_acts_518 rfl ?_
      refine V_iload (x := v11) dL_acts_520 rfl ?_
      refine V_if_ge (tgt := 529) (x := v11) dL_acts_522 (by decide) (fun hc30 => ?_) (fun hc30 => ?_)
      · refine V_iconst (v := (1 : Int32)) dL_acts_529 rfl ?_
        exact V_sub (LE.n (LE.s (LE.s (LE.s (LE.s (LE.s (LE.s (LE.s (LE.s (LE.s (LE.s (LE.n (LE.n (LE.n (LE.s (LE.s (LE.s (LE.s (LE.s (LE.s (LE.s (LE.s (LE.s LE.e))))))))))))))))))))))) (v_L_acts_b530  (((r24 + r26) + r28)) v12 ((1 : Int32)) σ29)
      · refine V_iconst (v := (0 : Int32)) dL_acts_525 rfl ?_
        refine V_goto (tgt := 530) dL_acts_526 (by decide) ?_
        exact V_sub (LE.n (LE.s (LE.s (LE.s (LE.s (LE.s (LE.s (LE.s (LE.s (LE.s (LE.s (LE.n (LE.n (LE.n (LE.s (LE.s (LE.s (LE.s (LE.s (LE.s (LE.s (LE.s (LE.s LE.e))))))))))))))))))))))) (v_L_acts_b530  (((r24 + r26) + r28)) v12 ((0 : Int32)) σ29)
    · refine V_iconst (v := (0 : Int32)) dL_acts_538 rfl ?_
      exact V_zret (fun _ => rfl) rfl (Nat.zero_le _) (Nat.zero_le _) dL_acts_539
set_option maxRecDepth 100000 in
set_option maxHeartbeats 4000000 in
theorem v_L_acts_b443 {D : DG} {z0 : Nat} {l : Launch} : ∀ (v0 : Option Nat) (v1 : Int32) (v3 : Int32) (v10 : Int32) (s0 : Int32) (σ : SG), V D z0 l RL cL_acts 23 wsL_acts (some .boolean) rmL_acts false tvI 443 [some (va_rf v0), some (.int v1), none, some (.int v3), none, none, none, none, none, none, some (.int v10), none, none, none, none, none, none, none, none, none, none, none, none] [.int s0] σ 0 0 (m_L_acts_b443 v0 v1 v3 v10 s0 σ) := by
  intro v0 v1 v3 v10 s0 σ
  unfold m_L_acts_b443
  refine V_istore (x := s0) (ls' := [some (va_rf v0), some (.int v1), none, some (.int v3), none, none, none, none, none, none, some (.int v10), some (.int s0), none, none, none, none, none, none, none, none, none, none, none]) dL_acts_443 (by decide) rfl ?_
  refine V_aload_n (x := v0) dL_acts_445 rfl ?_
  refine V_iconst (v := (1 : Int32)) dL_acts_446 rfl ?_
  refine V_callV0 (As := [.int (1 : Int32)]) (st0 := []) (stI := [.int (1 : Int32), va_rf v0]) (fun _ h => by cases h; exact t_X8_count _ (1 : Int32) σ) (q := (RX8, TX8, 6)) rfl rfl rfl (Nat.le_of_ble_eq_true rfl) rfl (fun s args hts => cwV 1 hts gL_acts_X8_count rfl rfl rfl (by decide +kernel) ⟨Nat.le_of_ble_eq_true rfl, Nat.le_of_ble_eq_true rfl⟩) rfl rfl dL_acts_447 (fun r31 σ32 _ => ?_)
  refine V_aload_n (x := v0) dL_acts_450 rfl ?_
  refine V_iconst (v := (2 : Int32)) dL_acts_451 rfl ?_
  refine V_callV0 (As := [.int (2 : Int32)]) (st0 := [.int r31]) (stI := [.int (2 : Int32), va_rf v0, .int r31]) (fun _ h => by cases h; exact t_X8_count _ (2 : Int32) σ32) (q := (RX8, TX8, 6)) rfl rfl rfl (Nat.le_of_ble_eq_true rfl) rfl (fun s args hts => cwV 1 hts gL_acts_X8_count rfl rfl rfl (by decide +kernel) ⟨Nat.le_of_ble_eq_true rfl, Nat.le_of_ble_eq_true rfl⟩) rfl rfl dL_acts_452 (fun r33 σ34 _ => ?_)
  refine V_iadd (x := r31) (y := r33) dL_acts_455 ?_
  refine V_aload_n (x := v0) dL_acts_456 rfl ?_
  refine V_iconst (v := (3 : Int32)) dL_acts_457 rfl ?_
  refine V_callV0 (As := [.int (3 : Int32)]) (st0 := [.int (r31 + r33)]) (stI := [.int (3 : Int32), va_rf v0, .int (r31 + r33)]) (fun _ h => by cases h; exact t_X8_count _ (3 : Int32) σ34) (q := (RX8, TX8, 6)) rfl rfl rfl (Nat.le_of_ble_eq_true rfl) rfl (fun s args hts => cwV 1 hts gL_acts_X8_count rfl rfl rfl (by decide +kernel) ⟨Nat.le_of_ble_eq_true rfl, Nat.le_of_ble_eq_true rfl⟩) rfl rfl dL_acts_458 (fun r35 σ36 _ => ?_)
  refine V_iadd (x := (r31 + r33)) (y := r35) dL_acts_461 ?_
  refine V_istore (x := ((r31 + r33) + r35)) (ls' := [some (va_rf v0), some (.int v1), none, some (.int v3), none, none, none, none, none, none, some (.int v10), some (.int s0), some (.int ((r31 + r33) + r35)), none, none, none, none, none, none, none, none, none, none]) dL_acts_462 (by decide) rfl ?_
  refine V_iload_n (x := v1) dL_acts_464 rfl ?_
  refine V_bipush (v := (9 : Int32)) dL_acts_465 rfl ?_
  refine V_ishr (x := v1) (y := (9 : Int32)) dL_acts_467 ?_
  refine V_iconst (v := (3 : Int32)) dL_acts_468 rfl ?_
  refine V_irem (x := (v1 >>> ((9 : Int32) &&& 31))) (y := (3 : Int32)) dL_acts_469 ?_
  refine V_if_le (tgt := 478) (x := ((v1 >>> ((9 : Int32) &&& 31)) - (v1 >>> ((9 : Int32) &&& 31)) / (3 : Int32) * (3 : Int32))) dL_acts_470 (by decide) (fun hc37 => ?_) (fun hc37 => ?_)
  · refine V_aload_n (x := v0) dL_acts_478 rfl ?_
    refine V_iload (x := v10) dL_acts_479 rfl ?_
    refine V_iload_n (x := v3) dL_acts_481 rfl ?_
    refine V_callV0 (As := [.int v10, .int v3]) (st0 := []) (stI := [.int v3, .int v10, va_rf v0]) (fun _ h => by cases h; exact t_X8_remove _ v10 v3 σ36) (q := (RX8, TX8, 6)) rfl rfl rfl (Nat.le_of_ble_eq_true rfl) rfl (fun s args hts => cwV 2 hts gL_acts_X8_remove rfl rfl rfl (by decide +kernel) ⟨Nat.le_of_ble_eq_true rfl, Nat.le_of_ble_eq_true rfl⟩) rfl rfl dL_acts_482 (fun r38 σ39 _ => ?_)
    exact V_sub (LE.s (LE.n (LE.s (LE.n (LE.s (LE.s (LE.s (LE.s (LE.s (LE.s (LE.n (LE.s (LE.s (LE.s (LE.s (LE.s (LE.s (LE.s (LE.s (LE.s (LE.s (LE.s (LE.s LE.e))))))))))))))))))))))) (v_L_acts_b485  v0 s0 (((r31 + r33) + r35)) r38 σ39)
  · refine V_bipush (v := (-9 : Int32)) dL_acts_473 rfl ?_
    refine V_goto (tgt := 485) dL_acts_475 (by decide) ?_
    exact V_sub (LE.s (LE.n (LE.s (LE.n (LE.s (LE.s (LE.s (LE.s (LE.s (LE.s (LE.n (LE.s (LE.s (LE.s (LE.s (LE.s (LE.s (LE.s (LE.s (LE.s (LE.s (LE.s (LE.s LE.e))))))))))))))))))))))) (v_L_acts_b485  v0 s0 (((r31 + r33) + r35)) ((-9 : Int32)) σ36)
set_option maxRecDepth 100000 in
set_option maxHeartbeats 4000000 in
theorem v_L_acts_b276 {D : DG} {z0 : Nat} {l : Launch} : ∀ (s0 : Option Nat) (s1 : Int32) (s2 : Int32) (σ : SG), V D z0 l RL cL_acts 23 wsL_acts (some .boolean) rmL_acts false tvI 276 [none, none, none, none, none, none, none, none, none, none, none, none, none, none, none, none, none, none, none, none, none, none, none] [.int s2, .int s1, va_rf s0] σ 0 0 (m_L_acts_b276 s0 s1 s2 σ) := by
  intro s0 s1 s2 σ
  unfold m_L_acts_b276
  refine V_callV0 (As := [.int s1, .int s2]) (st0 := []) (stI := [.int s2, .int s1, va_rf s0]) (fun _ h => by cases h; exact t_X8_run _ s1 s2 σ) (q := (RX8, TX8, 6)) rfl rfl rfl (Nat.le_of_ble_eq_true rfl) rfl (fun s args hts => cwV 2 hts gL_acts_X8_run rfl rfl rfl (by decide +kernel) ⟨Nat.le_of_ble_eq_true rfl, Nat.le_of_ble_eq_true rfl⟩) rfl rfl dL_acts_276 (fun r40 σ41 _ => ?_)
  refine V_iconst (v := (1 : Int32)) dL_acts_279 rfl ?_
  refine V_icmp_ne (tgt := 287) (x := r40) (y := (1 : Int32)) dL_acts_280 (by decide) (fun hc42 => ?_) (fun hc42 => ?_)
  · refine V_iconst (v := (1 : Int32)) dL_acts_283 rfl ?_
    refine V_goto (tgt := 288) dL_acts_284 (by decide) ?_
    exact V_zret (fun _ => rfl) rfl (Nat.zero_le _) (Nat.zero_le _) dL_acts_288
  · refine V_iconst (v := (0 : Int32)) dL_acts_287 rfl ?_
    exact V_zret (fun _ => rfl) rfl (Nat.zero_le _) (Nat.zero_le _) dL_acts_288
set_option maxRecDepth 100000 in
set_option maxHeartbeats 4000000 in
theorem v_L_acts {D : DG} {z0 : Nat} {l : Launch} : ∀ (a0 : Option Nat) (a1 : Int32) (σ : SG), V D z0 l RL cL_acts 23 wsL_acts (some .boolean) rmL_acts false tvI 0 [some (va_rf a0), some (.int a1), none, none, none, none, none, none, none, none, none, none, none, none, none, none, none, none, none, none, none, none, none] [] σ 0 0 (m_L_acts a0 a1 σ) := by
  intro a0 a1 σ
  unfold m_L_acts
  refine V_iload_n (x := a1) dL_acts_0 rfl ?_
  refine V_iconst (v := (4 : Int32)) dL_acts_1 rfl ?_
  refine V_ishr (x := a1) (y := (4 : Int32)) dL_acts_2 ?_
  refine V_bipush (v := (6 : Int32)) dL_acts_3 rfl ?_
  refine V_irem (x := (a1 >>> ((4 : Int32) &&& 31))) (y := (6 : Int32)) dL_acts_5 ?_
  refine V_istore_n (x := ((a1 >>> ((4 : Int32) &&& 31)) - (a1 >>> ((4 : Int32) &&& 31)) / (6 : Int32) * (6 : Int32))) (ls' := [some (va_rf a0), some (.int a1), some (.int ((a1 >>> ((4 : Int32) &&& 31)) - (a1 >>> ((4 : Int32) &&& 31)) / (6 : Int32) * (6 : Int32))), none, none, none, none, none, none, none, none, none, none, none, none, none, none, none, none, none, none, none, none]) dL_acts_6 (by decide) rfl ?_
  refine V_iload_n (x := a1) dL_acts_7 rfl ?_
  refine V_iconst (v := (4 : Int32)) dL_acts_8 rfl ?_
  refine V_ishr (x := a1) (y := (4 : Int32)) dL_acts_9 ?_
  refine V_iconst (v := (5 : Int32)) dL_acts_10 rfl ?_
  refine V_irem (x := (a1 >>> ((4 : Int32) &&& 31))) (y := (5 : Int32)) dL_acts_11 ?_
  refine V_istore_n (x := ((a1 >>> ((4 : Int32) &&& 31)) - (a1 >>> ((4 : Int32) &&& 31)) / (5 : Int32) * (5 : Int32))) (ls' := [some (va_rf a0), some (.int a1), some (.int ((a1 >>> ((4 : Int32) &&& 31)) - (a1 >>> ((4 : Int32) &&& 31)) / (6 : Int32) * (6 : Int32))), some (.int ((a1 >>> ((4 : Int32) &&& 31)) - (a1 >>> ((4 : Int32) &&& 31)) / (5 : Int32) * (5 : Int32))), none, none, none, none, none, none, none, none, none, none, none, none, none, none, none, none, none, none, none]) dL_acts_12 (by decide) rfl ?_
  refine V_iload_n (x := a1) dL_acts_13 rfl ?_
  refine V_bipush (v := (10 : Int32)) dL_acts_14 rfl ?_
  refine V_irem (x := a1) (y := (10 : Int32)) dL_acts_16 ?_
  refine V_table (x := (a1 - a1 / (10 : Int32) * (10 : Int32))) (tb := [(0, 64), (1, 171), (2, 289), (3, 400), (4, 540), (5, 635), (6, 635), (7, 635)]) (tgt := 729) dL_acts_17 (by decide) rfl (by decide) (List.forall_mem_cons.mpr ⟨?_, List.forall_mem_cons.mpr ⟨?_, List.forall_mem_cons.mpr ⟨?_, List.forall_mem_cons.mpr ⟨?_, List.forall_mem_cons.mpr ⟨?_, List.forall_mem_cons.mpr ⟨?_, List.forall_mem_cons.mpr ⟨?_, List.forall_mem_cons.mpr ⟨?_, fun _ h => absurd h List.not_mem_nil⟩⟩⟩⟩⟩⟩⟩⟩) ?_
  · dsimp only
    refine V_aload_n (x := a0) dL_acts_64 rfl ?_
    refine V_iconst (v := (1 : Int32)) dL_acts_65 rfl ?_
    refine V_callV0 (As := [.int (1 : Int32)]) (st0 := []) (stI := [.int (1 : Int32), va_rf a0]) (fun _ h => by cases h; exact t_X8_count _ (1 : Int32) σ) (q := (RX8, TX8, 6)) rfl rfl rfl (Nat.le_of_ble_eq_true rfl) rfl (fun s args hts => cwV 1 hts gL_acts_X8_count rfl rfl rfl (by decide +kernel) ⟨Nat.le_of_ble_eq_true rfl, Nat.le_of_ble_eq_true rfl⟩) rfl rfl dL_acts_66 (fun r43 σ44 _ => ?_)
    refine V_istore (x := r43) (ls' := [some (va_rf a0), some (.int a1), some (.int ((a1 >>> ((4 : Int32) &&& 31)) - (a1 >>> ((4 : Int32) &&& 31)) / (6 : Int32) * (6 : Int32))), some (.int ((a1 >>> ((4 : Int32) &&& 31)) - (a1 >>> ((4 : Int32) &&& 31)) / (5 : Int32) * (5 : Int32))), some (.int r43), none, none, none, none, none, none, none, none, none, none, none, none, none, none, none, none, none, none]) dL_acts_69 (by decide) rfl ?_
    refine V_aload_n (x := a0) dL_acts_71 rfl ?_
    refine V_iload_n (x := ((a1 >>> ((4 : Int32) &&& 31)) - (a1 >>> ((4 : Int32) &&& 31)) / (6 : Int32) * (6 : Int32))) dL_acts_72 rfl ?_
    refine V_iconst (v := (1 : Int32)) dL_acts_73 rfl ?_
    refine V_iload_n (x := a1) dL_acts_74 rfl ?_
    refine V_bipush (v := (8 : Int32)) dL_acts_75 rfl ?_
    refine V_ishr (x := a1) (y := (8 : Int32)) dL_acts_77 ?_
    refine V_bipush (v := (9 : Int32)) dL_acts_78 rfl ?_
    refine V_irem (x := (a1 >>> ((8 : Int32) &&& 31))) (y := (9 : Int32)) dL_acts_80 ?_
    refine V_iadd (x := (1 : Int32)) (y := ((a1 >>> ((8 : Int32) &&& 31)) - (a1 >>> ((8 : Int32) &&& 31)) / (9 : Int32) * (9 : Int32))) dL_acts_81 ?_
    refine V_callV0 (As := [.int ((a1 >>> ((4 : Int32) &&& 31)) - (a1 >>> ((4 : Int32) &&& 31)) / (6 : Int32) * (6 : Int32)), .int ((1 : Int32) + ((a1 >>> ((8 : Int32) &&& 31)) - (a1 >>> ((8 : Int32) &&& 31)) / (9 : Int32) * (9 : Int32)))]) (st0 := []) (stI := [.int ((1 : Int32) + ((a1 >>> ((8 : Int32) &&& 31)) - (a1 >>> ((8 : Int32) &&& 31)) / (9 : Int32) * (9 : Int32))), .int ((a1 >>> ((4 : Int32) &&& 31)) - (a1 >>> ((4 : Int32) &&& 31)) / (6 : Int32) * (6 : Int32)), va_rf a0]) (fun _ h => by cases h; exact t_X8_sender _ ((a1 >>> ((4 : Int32) &&& 31)) - (a1 >>> ((4 : Int32) &&& 31)) / (6 : Int32) * (6 : Int32)) ((1 : Int32) + ((a1 >>> ((8 : Int32) &&& 31)) - (a1 >>> ((8 : Int32) &&& 31)) / (9 : Int32) * (9 : Int32))) σ44) (q := (RX8, TX8, 6)) rfl rfl rfl (Nat.le_of_ble_eq_true rfl) rfl (fun s args hts => cwV 2 hts gL_acts_X8_sender rfl rfl rfl (by decide +kernel) ⟨Nat.le_of_ble_eq_true rfl, Nat.le_of_ble_eq_true rfl⟩) rfl rfl dL_acts_82 (fun r45 σ46 _ => ?_)
    refine V_istore (x := r45) (ls' := [some (va_rf a0), some (.int a1), some (.int ((a1 >>> ((4 : Int32) &&& 31)) - (a1 >>> ((4 : Int32) &&& 31)) / (6 : Int32) * (6 : Int32))), some (.int ((a1 >>> ((4 : Int32) &&& 31)) - (a1 >>> ((4 : Int32) &&& 31)) / (5 : Int32) * (5 : Int32))), some (.int r43), some (.int r45), none, none, none, none, none, none, none, none, none, none, none, none, none, none, none, none, none]) dL_acts_85 (by decide) rfl ?_
    refine V_iload (x := r43) dL_acts_87 rfl ?_
    refine V_iconst (v := (5 : Int32)) dL_acts_89 rfl ?_
    refine V_icmp_ne (tgt := 108) (x := r43) (y := (5 : Int32)) dL_acts_90 (by decide) (fun hc47 => ?_) (fun hc47 => ?_)
    · refine V_iload (x := r45) dL_acts_93 rfl ?_
      refine V_bipush (v := (-3 : Int32)) dL_acts_95 rfl ?_
      refine V_icmp_ne (tgt := 104) (x := r45) (y := (-3 : Int32)) dL_acts_97 (by decide) (fun hc48 => ?_) (fun hc48 => ?_)
      · refine V_iconst (v := (1 : Int32)) dL_acts_100 rfl ?_
        refine V_goto (tgt := 170) dL_acts_101 (by decide) ?_
        exact V_zret (fun _ => rfl) rfl (Nat.zero_le _) (Nat.zero_le _) dL_acts_170
      · refine V_iconst (v := (0 : Int32)) dL_acts_104 rfl ?_
        refine V_goto (tgt := 170) dL_acts_105 (by decide) ?_
        exact V_zret (fun _ => rfl) rfl (Nat.zero_le _) (Nat.zero_le _) dL_acts_170
    · refine V_iload (x := r45) dL_acts_108 rfl ?_
      refine V_if_lt (tgt := 169) (x := r45) dL_acts_110 (by decide) (fun hc49 => ?_) (fun hc49 => ?_)
      · refine V_iconst (v := (0 : Int32)) dL_acts_169 rfl ?_
        exact V_zret (fun _ => rfl) rfl (Nat.zero_le _) (Nat.zero_le _) dL_acts_170
      · refine V_aload_n (x := a0) dL_acts_113 rfl ?_
        refine V_iload (x := r45) dL_acts_114 rfl ?_
        refine V_iconst (v := (0 : Int32)) dL_acts_116 rfl ?_
        refine V_callV0 (As := [.int r45, .int (0 : Int32)]) (st0 := []) (stI := [.int (0 : Int32), .int r45, va_rf a0]) (fun _ h => by cases h; exact t_X8_senderOf _ r45 (0 : Int32) σ46) (q := (RX8, TX8, 6)) rfl rfl rfl (Nat.le_of_ble_eq_true rfl) rfl (fun s args hts => cwV 2 hts gL_acts_X8_senderOf rfl rfl rfl (by decide +kernel) ⟨Nat.le_of_ble_eq_true rfl, Nat.le_of_ble_eq_true rfl⟩) rfl rfl dL_acts_117 (fun r50 σ51 _ => ?_)
        refine V_iload_n (x := ((a1 >>> ((4 : Int32) &&& 31)) - (a1 >>> ((4 : Int32) &&& 31)) / (6 : Int32) * (6 : Int32))) dL_acts_120 rfl ?_
        refine V_icmp_ne (tgt := 169) (x := r50) (y := ((a1 >>> ((4 : Int32) &&& 31)) - (a1 >>> ((4 : Int32) &&& 31)) / (6 : Int32) * (6 : Int32))) dL_acts_121 (by decide) (fun hc52 => ?_) (fun hc52 => ?_)
        · refine V_aload_n (x := a0) dL_acts_124 rfl ?_
          refine V_iload (x := r45) dL_acts_125 rfl ?_
          refine V_iconst (v := (1 : Int32)) dL_acts_127 rfl ?_
          refine V_callV0 (As := [.int r45, .int (1 : Int32)]) (st0 := []) (stI := [.int (1 : Int32), .int r45, va_rf a0]) (fun _ h => by cases h; exact t_X8_senderOf _ r45 (1 : Int32) σ51) (q := (RX8, TX8, 6)) rfl rfl rfl (Nat.le_of_ble_eq_true rfl) rfl (fun s args hts => cwV 2 hts gL_acts_X8_senderOf rfl rfl rfl (by decide +kernel) ⟨Nat.le_of_ble_eq_true rfl, Nat.le_of_ble_eq_true rfl⟩) rfl rfl dL_acts_128 (fun r53 σ54 _ => ?_)
          refine V_iconst (v := (1 : Int32)) dL_acts_131 rfl ?_
          refine V_iload_n (x := a1) dL_acts_132 rfl ?_
          refine V_bipush (v := (8 : Int32)) dL_acts_133 rfl ?_
          refine V_ishr (x := a1) (y := (8 : Int32)) dL_acts_135 ?_
          refine V_bipush (v := (9 : Int32)) dL_acts_136 rfl ?_
          refine V_irem (x := (a1 >>> ((8 : Int32) &&& 31))) (y := (9 : Int32)) dL_acts_138 ?_
          refine V_iadd (x := (1 : Int32)) (y := ((a1 >>> ((8 : Int32) &&& 31)) - (a1 >>> ((8 : Int32) &&& 31)) / (9 : Int32) * (9 : Int32))) dL_acts_139 ?_
          refine V_icmp_ne (tgt := 169) (x := r53) (y := ((1 : Int32) + ((a1 >>> ((8 : Int32) &&& 31)) - (a1 >>> ((8 : Int32) &&& 31)) / (9 : Int32) * (9 : Int32)))) dL_acts_140 (by decide) (fun hc55 => ?_) (fun hc55 => ?_)
          · refine V_aload_n (x := a0) dL_acts_143 rfl ?_
            refine V_iload (x := r45) dL_acts_144 rfl ?_
            refine V_iconst (v := (2 : Int32)) dL_acts_146 rfl ?_
            refine V_callV0 (As := [.int r45, .int (2 : Int32)]) (st0 := []) (stI := [.int (2 : Int32), .int r45, va_rf a0]) (fun _ h => by cases h; exact t_X8_senderOf _ r45 (2 : Int32) σ54) (q := (RX8, TX8, 6)) rfl rfl rfl (Nat.le_of_ble_eq_true rfl) rfl (fun s args hts => cwV 2 hts gL_acts_X8_senderOf rfl rfl rfl (by decide +kernel) ⟨Nat.le_of_ble_eq_true rfl, Nat.le_of_ble_eq_true rfl⟩) rfl rfl dL_acts_147 (fun r56 σ57 _ => ?_)
            refine V_if_ne (tgt := 169) (x := r56) dL_acts_150 (by decide) (fun hc58 => ?_) (fun hc58 => ?_)
            · refine V_aload_n (x := a0) dL_acts_153 rfl ?_
              refine V_iload (x := r45) dL_acts_154 rfl ?_
              refine V_iconst (v := (3 : Int32)) dL_acts_156 rfl ?_
              refine V_callV0 (As := [.int r45, .int (3 : Int32)]) (st0 := []) (stI := [.int (3 : Int32), .int r45, va_rf a0]) (fun _ h => by cases h; exact t_X8_senderOf _ r45 (3 : Int32) σ57) (q := (RX8, TX8, 6)) rfl rfl rfl (Nat.le_of_ble_eq_true rfl) rfl (fun s args hts => cwV 2 hts gL_acts_X8_senderOf rfl rfl rfl (by decide +kernel) ⟨Nat.le_of_ble_eq_true rfl, Nat.le_of_ble_eq_true rfl⟩) rfl rfl dL_acts_157 (fun r59 σ60 _ => ?_)
              refine V_bipush (v := (-5 : Int32)) dL_acts_160 rfl ?_
              refine V_icmp_ne (tgt := 169) (x := r59) (y := (-5 : Int32)) dL_acts_162 (by decide) (fun hc61 => ?_) (fun hc61 => ?_)
              · refine V_iconst (v := (1 : Int32)) dL_acts_165 rfl ?_
                refine V_goto (tgt := 170) dL_acts_166 (by decide) ?_
                exact V_zret (fun _ => rfl) rfl (Nat.zero_le _) (Nat.zero_le _) dL_acts_170
              · refine V_iconst (v := (0 : Int32)) dL_acts_169 rfl ?_
                exact V_zret (fun _ => rfl) rfl (Nat.zero_le _) (Nat.zero_le _) dL_acts_170
            · refine V_iconst (v := (0 : Int32)) dL_acts_169 rfl ?_
              exact V_zret (fun _ => rfl) rfl (Nat.zero_le _) (Nat.zero_le _) dL_acts_170
          · refine V_iconst (v := (0 : Int32)) dL_acts_169 rfl ?_
            exact V_zret (fun _ => rfl) rfl (Nat.zero_le _) (Nat.zero_le _) dL_acts_170
        · refine V_iconst (v := (0 : Int32)) dL_acts_169 rfl ?_
          exact V_zret (fun _ => rfl) rfl (Nat.zero_le _) (Nat.zero_le _) dL_acts_170
  · dsimp only
    refine V_aload_n (x := a0) dL_acts_171 rfl ?_
    refine V_iconst (v := (2 : Int32)) dL_acts_172 rfl ?_
    refine V_callV0 (As := [.int (2 : Int32)]) (st0 := []) (stI := [.int (2 : Int32), va_rf a0]) (fun _ h => by cases h; exact t_X8_count _ (2 : Int32) σ) (q := (RX8, TX8, 6)) rfl rfl rfl (Nat.le_of_ble_eq_true rfl) rfl (fun s args hts => cwV 1 hts gL_acts_X8_count rfl rfl rfl (by decide +kernel) ⟨Nat.le_of_ble_eq_true rfl, Nat.le_of_ble_eq_true rfl⟩) rfl rfl dL_acts_173 (fun r62 σ63 _ => ?_)
    refine V_istore (x := r62) (ls' := [some (va_rf a0), some (.int a1), some (.int ((a1 >>> ((4 : Int32) &&& 31)) - (a1 >>> ((4 : Int32) &&& 31)) / (6 : Int32) * (6 : Int32))), some (.int ((a1 >>> ((4 : Int32) &&& 31)) - (a1 >>> ((4 : Int32) &&& 31)) / (5 : Int32) * (5 : Int32))), none, none, some (.int r62), none, none, none, none, none, none, none, none, none, none, none, none, none, none, none, none]) dL_acts_176 (by decide) rfl ?_
    refine V_aload_n (x := a0) dL_acts_178 rfl ?_
    refine V_iload_n (x := ((a1 >>> ((4 : Int32) &&& 31)) - (a1 >>> ((4 : Int32) &&& 31)) / (6 : Int32) * (6 : Int32))) dL_acts_179 rfl ?_
    refine V_iconst (v := (1 : Int32)) dL_acts_180 rfl ?_
    refine V_iload_n (x := a1) dL_acts_181 rfl ?_
    refine V_bipush (v := (8 : Int32)) dL_acts_182 rfl ?_
    refine V_ishr (x := a1) (y := (8 : Int32)) dL_acts_184 ?_
    refine V_bipush (v := (9 : Int32)) dL_acts_185 rfl ?_
    refine V_irem (x := (a1 >>> ((8 : Int32) &&& 31))) (y := (9 : Int32)) dL_acts_187 ?_
    refine V_iadd (x := (1 : Int32)) (y := ((a1 >>> ((8 : Int32) &&& 31)) - (a1 >>> ((8 : Int32) &&& 31)) / (9 : Int32) * (9 : Int32))) dL_acts_188 ?_
    refine V_iconst (v := (2 : Int32)) dL_acts_189 rfl ?_
    refine V_iload_n (x := a1) dL_acts_190 rfl ?_
    refine V_bipush (v := (12 : Int32)) dL_acts_191 rfl ?_
    refine V_ishr (x := a1) (y := (12 : Int32)) dL_acts_193 ?_
    refine V_bipush (v := (19 : Int32)) dL_acts_194 rfl ?_
    refine V_irem (x := (a1 >>> ((12 : Int32) &&& 31))) (y := (19 : Int32)) dL_acts_196 ?_
    refine V_iadd (x := (2 : Int32)) (y := ((a1 >>> ((12 : Int32) &&& 31)) - (a1 >>> ((12 : Int32) &&& 31)) / (19 : Int32) * (19 : Int32))) dL_acts_197 ?_
    refine V_callV0 (As := [.int ((a1 >>> ((4 : Int32) &&& 31)) - (a1 >>> ((4 : Int32) &&& 31)) / (6 : Int32) * (6 : Int32)), .int ((1 : Int32) + ((a1 >>> ((8 : Int32) &&& 31)) - (a1 >>> ((8 : Int32) &&& 31)) / (9 : Int32) * (9 : Int32))), .int ((2 : Int32) + ((a1 >>> ((12 : Int32) &&& 31)) - (a1 >>> ((12 : Int32) &&& 31)) / (19 : Int32) * (19 : Int32)))]) (st0 := []) (stI := [.int ((2 : Int32) + ((a1 >>> ((12 : Int32) &&& 31)) - (a1 >>> ((12 : Int32) &&& 31)) / (19 : Int32) * (19 : Int32))), .int ((1 : Int32) + ((a1 >>> ((8 : Int32) &&& 31)) - (a1 >>> ((8 : Int32) &&& 31)) / (9 : Int32) * (9 : Int32))), .int ((a1 >>> ((4 : Int32) &&& 31)) - (a1 >>> ((4 : Int32) &&& 31)) / (6 : Int32) * (6 : Int32)), va_rf a0]) (fun _ h => by cases h; exact t_X8_machine _ ((a1 >>> ((4 : Int32) &&& 31)) - (a1 >>> ((4 : Int32) &&& 31)) / (6 : Int32) * (6 : Int32)) ((1 : Int32) + ((a1 >>> ((8 : Int32) &&& 31)) - (a1 >>> ((8 : Int32) &&& 31)) / (9 : Int32) * (9 : Int32))) ((2 : Int32) + ((a1 >>> ((12 : Int32) &&& 31)) - (a1 >>> ((12 : Int32) &&& 31)) / (19 : Int32) * (19 : Int32))) σ63) (q := (RX8, TX8, 6)) rfl rfl rfl (Nat.le_of_ble_eq_true rfl) rfl (fun s args hts => cwV 3 hts gL_acts_X8_machine rfl rfl rfl (by decide +kernel) ⟨Nat.le_of_ble_eq_true rfl, Nat.le_of_ble_eq_true rfl⟩) rfl rfl dL_acts_198 (fun r64 σ65 _ => ?_)
    refine V_istore (x := r64) (ls' := [some (va_rf a0), some (.int a1), some (.int ((a1 >>> ((4 : Int32) &&& 31)) - (a1 >>> ((4 : Int32) &&& 31)) / (6 : Int32) * (6 : Int32))), some (.int ((a1 >>> ((4 : Int32) &&& 31)) - (a1 >>> ((4 : Int32) &&& 31)) / (5 : Int32) * (5 : Int32))), none, none, some (.int r62), some (.int r64), none, none, none, none, none, none, none, none, none, none, none, none, none, none, none]) dL_acts_201 (by decide) rfl ?_
    refine V_iload (x := r62) dL_acts_203 rfl ?_
    refine V_iconst (v := (4 : Int32)) dL_acts_205 rfl ?_
    refine V_icmp_ne (tgt := 224) (x := r62) (y := (4 : Int32)) dL_acts_206 (by decide) (fun hc66 => ?_) (fun hc66 => ?_)
    · refine V_iload (x := r64) dL_acts_209 rfl ?_
      refine V_bipush (v := (-3 : Int32)) dL_acts_211 rfl ?_
      refine V_icmp_ne (tgt := 220) (x := r64) (y := (-3 : Int32)) dL_acts_213 (by decide) (fun hc67 => ?_) (fun hc67 => ?_)
      · refine V_iconst (v := (1 : Int32)) dL_acts_216 rfl ?_
        refine V_goto (tgt := 288) dL_acts_217 (by decide) ?_
        exact V_zret (fun _ => rfl) rfl (Nat.zero_le _) (Nat.zero_le _) dL_acts_288
      · refine V_iconst (v := (0 : Int32)) dL_acts_220 rfl ?_
        refine V_goto (tgt := 288) dL_acts_221 (by decide) ?_
        exact V_zret (fun _ => rfl) rfl (Nat.zero_le _) (Nat.zero_le _) dL_acts_288
    · refine V_iload (x := r64) dL_acts_224 rfl ?_
      refine V_if_lt (tgt := 287) (x := r64) dL_acts_226 (by decide) (fun hc68 => ?_) (fun hc68 => ?_)
      · refine V_iconst (v := (0 : Int32)) dL_acts_287 rfl ?_
        exact V_zret (fun _ => rfl) rfl (Nat.zero_le _) (Nat.zero_le _) dL_acts_288
      · refine V_aload_n (x := a0) dL_acts_229 rfl ?_
        refine V_iload (x := r64) dL_acts_230 rfl ?_
        refine V_iconst (v := (2 : Int32)) dL_acts_232 rfl ?_
        refine V_callV0 (As := [.int r64, .int (2 : Int32)]) (st0 := []) (stI := [.int (2 : Int32), .int r64, va_rf a0]) (fun _ h => by cases h; exact t_X8_machineOf _ r64 (2 : Int32) σ65) (q := (RX8, TX8, 6)) rfl rfl rfl (Nat.le_of_ble_eq_true rfl) rfl (fun s args hts => cwV 2 hts gL_acts_X8_machineOf rfl rfl rfl (by decide +kernel) ⟨Nat.le_of_ble_eq_true rfl, Nat.le_of_ble_eq_true rfl⟩) rfl rfl dL_acts_233 (fun r69 σ70 _ => ?_)
        refine V_iconst (v := (2 : Int32)) dL_acts_236 rfl ?_
        refine V_iload_n (x := a1) dL_acts_237 rfl ?_
        refine V_bipush (v := (12 : Int32)) dL_acts_238 rfl ?_
        refine V_ishr (x := a1) (y := (12 : Int32)) dL_acts_240 ?_
        refine V_bipush (v := (19 : Int32)) dL_acts_241 rfl ?_
        refine V_irem (x := (a1 >>> ((12 : Int32) &&& 31))) (y := (19 : Int32)) dL_acts_243 ?_
        refine V_iadd (x := (2 : Int32)) (y := ((a1 >>> ((12 : Int32) &&& 31)) - (a1 >>> ((12 : Int32) &&& 31)) / (19 : Int32) * (19 : Int32))) dL_acts_244 ?_
        refine V_icmp_ne (tgt := 287) (x := r69) (y := ((2 : Int32) + ((a1 >>> ((12 : Int32) &&& 31)) - (a1 >>> ((12 : Int32) &&& 31)) / (19 : Int32) * (19 : Int32)))) dL_acts_245 (by decide) (fun hc71 => ?_) (fun hc71 => ?_)
        · refine V_aload_n (x := a0) dL_acts_248 rfl ?_
          refine V_iload (x := r64) dL_acts_249 rfl ?_
          refine V_iconst (v := (3 : Int32)) dL_acts_251 rfl ?_
          refine V_callV0 (As := [.int r64, .int (3 : Int32)]) (st0 := []) (stI := [.int (3 : Int32), .int r64, va_rf a0]) (fun _ h => by cases h; exact t_X8_machineOf _ r64 (3 : Int32) σ70) (q := (RX8, TX8, 6)) rfl rfl rfl (Nat.le_of_ble_eq_true rfl) rfl (fun s args hts => cwV 2 hts gL_acts_X8_machineOf rfl rfl rfl (by decide +kernel) ⟨Nat.le_of_ble_eq_true rfl, Nat.le_of_ble_eq_true rfl⟩) rfl rfl dL_acts_252 (fun r72 σ73 _ => ?_)
          refine V_iconst (v := (1 : Int32)) dL_acts_255 rfl ?_
          refine V_icmp_ne (tgt := 287) (x := r72) (y := (1 : Int32)) dL_acts_256 (by decide) (fun hc74 => ?_) (fun hc74 => ?_)
          · refine V_aload_n (x := a0) dL_acts_259 rfl ?_
            refine V_iload (x := r64) dL_acts_260 rfl ?_
            refine V_iload_n (x := a1) dL_acts_262 rfl ?_
            refine V_bipush (v := (18 : Int32)) dL_acts_263 rfl ?_
            refine V_ishr (x := a1) (y := (18 : Int32)) dL_acts_265 ?_
            refine V_iconst (v := (3 : Int32)) dL_acts_266 rfl ?_
            refine V_irem (x := (a1 >>> ((18 : Int32) &&& 31))) (y := (3 : Int32)) dL_acts_267 ?_
            refine V_if_le (tgt := 275) (x := ((a1 >>> ((18 : Int32) &&& 31)) - (a1 >>> ((18 : Int32) &&& 31)) / (3 : Int32) * (3 : Int32))) dL_acts_268 (by decide) (fun hc75 => ?_) (fun hc75 => ?_)
            · refine V_iconst (v := (0 : Int32)) dL_acts_275 rfl ?_
              exact V_sub (LE.n (LE.n (LE.n (LE.n (LE.s (LE.s (LE.n (LE.n (LE.s (LE.s (LE.s (LE.s (LE.s (LE.s (LE.s (LE.s (LE.s (LE.s (LE.s (LE.s (LE.s (LE.s (LE.s LE.e))))))))))))))))))))))) (v_L_acts_b276  a0 r64 ((0 : Int32)) σ73)
            · refine V_iconst (v := (1 : Int32)) dL_acts_271 rfl ?_
              refine V_goto (tgt := 276) dL_acts_272 (by decide) ?_
              exact V_sub (LE.n (LE.n (LE.n (LE.n (LE.s (LE.s (LE.n (LE.n (LE.s (LE.s (LE.s (LE.s (LE.s (LE.s (LE.s (LE.s (LE.s (LE.s (LE.s (LE.s (LE.s (LE.s (LE.s LE.e))))))))))))))))))))))) (v_L_acts_b276  a0 r64 ((1 : Int32)) σ73)
          · refine V_iconst (v := (0 : Int32)) dL_acts_287 rfl ?_
            exact V_zret (fun _ => rfl) rfl (Nat.zero_le _) (Nat.zero_le _) dL_acts_288
        · refine V_iconst (v := (0 : Int32)) dL_acts_287 rfl ?_
          exact V_zret (fun _ => rfl) rfl (Nat.zero_le _) (Nat.zero_le _) dL_acts_288
  · dsimp only
    refine V_aload_n (x := a0) dL_acts_289 rfl ?_
    refine V_iconst (v := (3 : Int32)) dL_acts_290 rfl ?_
    refine V_callV0 (As := [.int (3 : Int32)]) (st0 := []) (stI := [.int (3 : Int32), va_rf a0]) (fun _ h => by cases h; exact t_X8_count _ (3 : Int32) σ) (q := (RX8, TX8, 6)) rfl rfl rfl (Nat.le_of_ble_eq_true rfl) rfl (fun s args hts => cwV 1 hts gL_acts_X8_count rfl rfl rfl (by decide +kernel) ⟨Nat.le_of_ble_eq_true rfl, Nat.le_of_ble_eq_true rfl⟩) rfl rfl dL_acts_291 (fun r76 σ77 _ => ?_)
    refine V_istore (x := r76) (ls' := [some (va_rf a0), some (.int a1), some (.int ((a1 >>> ((4 : Int32) &&& 31)) - (a1 >>> ((4 : Int32) &&& 31)) / (6 : Int32) * (6 : Int32))), some (.int ((a1 >>> ((4 : Int32) &&& 31)) - (a1 >>> ((4 : Int32) &&& 31)) / (5 : Int32) * (5 : Int32))), none, none, none, none, some (.int r76), none, none, none, none, none, none, none, none, none, none, none, none, none, none]) dL_acts_294 (by decide) rfl ?_
    refine V_aload_n (x := a0) dL_acts_296 rfl ?_
    refine V_iload_n (x := ((a1 >>> ((4 : Int32) &&& 31)) - (a1 >>> ((4 : Int32) &&& 31)) / (6 : Int32) * (6 : Int32))) dL_acts_297 rfl ?_
    refine V_iload_n (x := a1) dL_acts_298 rfl ?_
    refine V_bipush (v := (8 : Int32)) dL_acts_299 rfl ?_
    refine V_ishr (x := a1) (y := (8 : Int32)) dL_acts_301 ?_
    refine V_iconst (v := (4 : Int32)) dL_acts_302 rfl ?_
    refine V_irem (x := (a1 >>> ((8 : Int32) &&& 31))) (y := (4 : Int32)) dL_acts_303 ?_
    refine V_iload_n (x := a1) dL_acts_304 rfl ?_
    refine V_bipush (v := (10 : Int32)) dL_acts_305 rfl ?_
    refine V_ishr (x := a1) (y := (10 : Int32)) dL_acts_307 ?_
    refine V_iconst (v := (4 : Int32)) dL_acts_308 rfl ?_
    refine V_irem (x := (a1 >>> ((10 : Int32) &&& 31))) (y := (4 : Int32)) dL_acts_309 ?_
    refine V_callV0 (As := [.int ((a1 >>> ((4 : Int32) &&& 31)) - (a1 >>> ((4 : Int32) &&& 31)) / (6 : Int32) * (6 : Int32)), .int ((a1 >>> ((8 : Int32) &&& 31)) - (a1 >>> ((8 : Int32) &&& 31)) / (4 : Int32) * (4 : Int32)), .int ((a1 >>> ((10 : Int32) &&& 31)) - (a1 >>> ((10 : Int32) &&& 31)) / (4 : Int32) * (4 : Int32))]) (st0 := []) (stI := [.int ((a1 >>> ((10 : Int32) &&& 31)) - (a1 >>> ((10 : Int32) &&& 31)) / (4 : Int32) * (4 : Int32)), .int ((a1 >>> ((8 : Int32) &&& 31)) - (a1 >>> ((8 : Int32) &&& 31)) / (4 : Int32) * (4 : Int32)), .int ((a1 >>> ((4 : Int32) &&& 31)) - (a1 >>> ((4 : Int32) &&& 31)) / (6 : Int32) * (6 : Int32)), va_rf a0]) (fun _ h => by cases h; exact t_X8_lamp _ ((a1 >>> ((4 : Int32) &&& 31)) - (a1 >>> ((4 : Int32) &&& 31)) / (6 : Int32) * (6 : Int32)) ((a1 >>> ((8 : Int32) &&& 31)) - (a1 >>> ((8 : Int32) &&& 31)) / (4 : Int32) * (4 : Int32)) ((a1 >>> ((10 : Int32) &&& 31)) - (a1 >>> ((10 : Int32) &&& 31)) / (4 : Int32) * (4 : Int32)) σ77) (q := (RX8, TX8, 6)) rfl rfl rfl (Nat.le_of_ble_eq_true rfl) rfl (fun s args hts => cwV 3 hts gL_acts_X8_lamp rfl rfl rfl (by decide +kernel) ⟨Nat.le_of_ble_eq_true rfl, Nat.le_of_ble_eq_true rfl⟩) rfl rfl dL_acts_310 (fun r78 σ79 _ => ?_)
    refine V_istore (x := r78) (ls' := [some (va_rf a0), some (.int a1), some (.int ((a1 >>> ((4 : Int32) &&& 31)) - (a1 >>> ((4 : Int32) &&& 31)) / (6 : Int32) * (6 : Int32))), some (.int ((a1 >>> ((4 : Int32) &&& 31)) - (a1 >>> ((4 : Int32) &&& 31)) / (5 : Int32) * (5 : Int32))), none, none, none, none, some (.int r76), some (.int r78), none, none, none, none, none, none, none, none, none, none, none, none, none]) dL_acts_313 (by decide) rfl ?_
    refine V_iload (x := r76) dL_acts_315 rfl ?_
    refine V_bipush (v := (8 : Int32)) dL_acts_317 rfl ?_
    refine V_icmp_ne (tgt := 337) (x := r76) (y := (8 : Int32)) dL_acts_319 (by decide) (fun hc80 => ?_) (fun hc80 => ?_)
    · refine V_iload (x := r78) dL_acts_322 rfl ?_
      refine V_bipush (v := (-3 : Int32)) dL_acts_324 rfl ?_
      refine V_icmp_ne (tgt := 333) (x := r78) (y := (-3 : Int32)) dL_acts_326 (by decide) (fun hc81 => ?_) (fun hc81 => ?_)
      · refine V_iconst (v := (1 : Int32)) dL_acts_329 rfl ?_
        refine V_goto (tgt := 399) dL_acts_330 (by decide) ?_
        exact V_zret (fun _ => rfl) rfl (Nat.zero_le _) (Nat.zero_le _) dL_acts_399
      · refine V_iconst (v := (0 : Int32)) dL_acts_333 rfl ?_
        refine V_goto (tgt := 399) dL_acts_334 (by decide) ?_
        exact V_zret (fun _ => rfl) rfl (Nat.zero_le _) (Nat.zero_le _) dL_acts_399
    · refine V_iload (x := r78) dL_acts_337 rfl ?_
      refine V_if_lt (tgt := 398) (x := r78) dL_acts_339 (by decide) (fun hc82 => ?_) (fun hc82 => ?_)
      · refine V_iconst (v := (0 : Int32)) dL_acts_398 rfl ?_
        exact V_zret (fun _ => rfl) rfl (Nat.zero_le _) (Nat.zero_le _) dL_acts_399
      · refine V_aload_n (x := a0) dL_acts_342 rfl ?_
        refine V_iload (x := r78) dL_acts_343 rfl ?_
        refine V_iconst (v := (1 : Int32)) dL_acts_345 rfl ?_
        refine V_callV0 (As := [.int r78, .int (1 : Int32)]) (st0 := []) (stI := [.int (1 : Int32), .int r78, va_rf a0]) (fun _ h => by cases h; exact t_X8_lampOf _ r78 (1 : Int32) σ79) (q := (RX8, TX8, 6)) rfl rfl rfl (Nat.le_of_ble_eq_true rfl) rfl (fun s args hts => cwV 2 hts gL_acts_X8_lampOf rfl rfl rfl (by decide +kernel) ⟨Nat.le_of_ble_eq_true rfl, Nat.le_of_ble_eq_true rfl⟩) rfl rfl dL_acts_346 (fun r83 σ84 _ => ?_)
        refine V_iload_n (x := a1) dL_acts_349 rfl ?_
        refine V_bipush (v := (8 : Int32)) dL_acts_350 rfl ?_
        refine V_ishr (x := a1) (y := (8 : Int32)) dL_acts_352 ?_
        refine V_iconst (v := (4 : Int32)) dL_acts_353 rfl ?_
        refine V_irem (x := (a1 >>> ((8 : Int32) &&& 31))) (y := (4 : Int32)) dL_acts_354 ?_
        refine V_icmp_ne (tgt := 398) (x := r83) (y := ((a1 >>> ((8 : Int32) &&& 31)) - (a1 >>> ((8 : Int32) &&& 31)) / (4 : Int32) * (4 : Int32))) dL_acts_355 (by decide) (fun hc85 => ?_) (fun hc85 => ?_)
        · refine V_aload_n (x := a0) dL_acts_358 rfl ?_
          refine V_iload (x := r78) dL_acts_359 rfl ?_
          refine V_iconst (v := (2 : Int32)) dL_acts_361 rfl ?_
          refine V_callV0 (As := [.int r78, .int (2 : Int32)]) (st0 := []) (stI := [.int (2 : Int32), .int r78, va_rf a0]) (fun _ h => by cases h; exact t_X8_lampOf _ r78 (2 : Int32) σ84) (q := (RX8, TX8, 6)) rfl rfl rfl (Nat.le_of_ble_eq_true rfl) rfl (fun s args hts => cwV 2 hts gL_acts_X8_lampOf rfl rfl rfl (by decide +kernel) ⟨Nat.le_of_ble_eq_true rfl, Nat.le_of_ble_eq_true rfl⟩) rfl rfl dL_acts_362 (fun r86 σ87 _ => ?_)
          refine V_iload_n (x := a1) dL_acts_365 rfl ?_
          refine V_bipush (v := (10 : Int32)) dL_acts_366 rfl ?_
          refine V_ishr (x := a1) (y := (10 : Int32)) dL_acts_368 ?_
          refine V_iconst (v := (4 : Int32)) dL_acts_369 rfl ?_
          refine V_irem (x := (a1 >>> ((10 : Int32) &&& 31))) (y := (4 : Int32)) dL_acts_370 ?_
          refine V_icmp_ne (tgt := 398) (x := r86) (y := ((a1 >>> ((10 : Int32) &&& 31)) - (a1 >>> ((10 : Int32) &&& 31)) / (4 : Int32) * (4 : Int32))) dL_acts_371 (by decide) (fun hc88 => ?_) (fun hc88 => ?_)
          · refine V_aload_n (x := a0) dL_acts_374 rfl ?_
            refine V_iload (x := r78) dL_acts_375 rfl ?_
            refine V_iconst (v := (3 : Int32)) dL_acts_377 rfl ?_
            refine V_callV0 (As := [.int r78, .int (3 : Int32)]) (st0 := []) (stI := [.int (3 : Int32), .int r78, va_rf a0]) (fun _ h => by cases h; exact t_X8_lampOf _ r78 (3 : Int32) σ87) (q := (RX8, TX8, 6)) rfl rfl rfl (Nat.le_of_ble_eq_true rfl) rfl (fun s args hts => cwV 2 hts gL_acts_X8_lampOf rfl rfl rfl (by decide +kernel) ⟨Nat.le_of_ble_eq_true rfl, Nat.le_of_ble_eq_true rfl⟩) rfl rfl dL_acts_378 (fun r89 σ90 _ => ?_)
            refine V_if_ne (tgt := 398) (x := r89) dL_acts_381 (by decide) (fun hc91 => ?_) (fun hc91 => ?_)
            · refine V_aload_n (x := a0) dL_acts_384 rfl ?_
              refine V_iload (x := r78) dL_acts_385 rfl ?_
              refine V_iconst (v := (4 : Int32)) dL_acts_387 rfl ?_
              refine V_callV0 (As := [.int r78, .int (4 : Int32)]) (st0 := []) (stI := [.int (4 : Int32), .int r78, va_rf a0]) (fun _ h => by cases h; exact t_X8_lampOf _ r78 (4 : Int32) σ90) (q := (RX8, TX8, 6)) rfl rfl rfl (Nat.le_of_ble_eq_true rfl) rfl (fun s args hts => cwV 2 hts gL_acts_X8_lampOf rfl rfl rfl (by decide +kernel) ⟨Nat.le_of_ble_eq_true rfl, Nat.le_of_ble_eq_true rfl⟩) rfl rfl dL_acts_388 (fun r92 σ93 _ => ?_)
              refine V_if_ne (tgt := 398) (x := r92) dL_acts_391 (by decide) (fun hc94 => ?_) (fun hc94 => ?_)
              · refine V_iconst (v := (1 : Int32)) dL_acts_394 rfl ?_
                refine V_goto (tgt := 399) dL_acts_395 (by decide) ?_
                exact V_zret (fun _ => rfl) rfl (Nat.zero_le _) (Nat.zero_le _) dL_acts_399
              · refine V_iconst (v := (0 : Int32)) dL_acts_398 rfl ?_
                exact V_zret (fun _ => rfl) rfl (Nat.zero_le _) (Nat.zero_le _) dL_acts_399
            · refine V_iconst (v := (0 : Int32)) dL_acts_398 rfl ?_
              exact V_zret (fun _ => rfl) rfl (Nat.zero_le _) (Nat.zero_le _) dL_acts_399
          · refine V_iconst (v := (0 : Int32)) dL_acts_398 rfl ?_
            exact V_zret (fun _ => rfl) rfl (Nat.zero_le _) (Nat.zero_le _) dL_acts_399
        · refine V_iconst (v := (0 : Int32)) dL_acts_398 rfl ?_
          exact V_zret (fun _ => rfl) rfl (Nat.zero_le _) (Nat.zero_le _) dL_acts_399
  · dsimp only
    refine V_iload_n (x := a1) dL_acts_400 rfl ?_
    refine V_bipush (v := (7 : Int32)) dL_acts_401 rfl ?_
    refine V_ishr (x := a1) (y := (7 : Int32)) dL_acts_403 ?_
    refine V_iconst (v := (3 : Int32)) dL_acts_404 rfl ?_
    refine V_irem (x := (a1 >>> ((7 : Int32) &&& 31))) (y := (3 : Int32)) dL_acts_405 ?_
    refine V_istore (x := ((a1 >>> ((7 : Int32) &&& 31)) - (a1 >>> ((7 : Int32) &&& 31)) / (3 : Int32) * (3 : Int32))) (ls' := [some (va_rf a0), some (.int a1), some (.int ((a1 >>> ((4 : Int32) &&& 31)) - (a1 >>> ((4 : Int32) &&& 31)) / (6 : Int32) * (6 : Int32))), some (.int ((a1 >>> ((4 : Int32) &&& 31)) - (a1 >>> ((4 : Int32) &&& 31)) / (5 : Int32) * (5 : Int32))), none, none, none, none, none, none, some (.int ((a1 >>> ((7 : Int32) &&& 31)) - (a1 >>> ((7 : Int32) &&& 31)) / (3 : Int32) * (3 : Int32))), none, none, none, none, none, none, none, none, none, none, none, none]) dL_acts_406 (by decide) rfl ?_
    refine V_iload (x := ((a1 >>> ((7 : Int32) &&& 31)) - (a1 >>> ((7 : Int32) &&& 31)) / (3 : Int32) * (3 : Int32))) dL_acts_408 rfl ?_
    refine V_if_ne (tgt := 422) (x := ((a1 >>> ((7 : Int32) &&& 31)) - (a1 >>> ((7 : Int32) &&& 31)) / (3 : Int32) * (3 : Int32))) dL_acts_410 (by decide) (fun hc95 => ?_) (fun hc95 => ?_)
    · refine V_aload_n (x := a0) dL_acts_413 rfl ?_
      refine V_iload_n (x := ((a1 >>> ((4 : Int32) &&& 31)) - (a1 >>> ((4 : Int32) &&& 31)) / (5 : Int32) * (5 : Int32))) dL_acts_414 rfl ?_
      refine V_iconst (v := (0 : Int32)) dL_acts_415 rfl ?_
      refine V_callV0 (As := [.int ((a1 >>> ((4 : Int32) &&& 31)) - (a1 >>> ((4 : Int32) &&& 31)) / (5 : Int32) * (5 : Int32)), .int (0 : Int32)]) (st0 := []) (stI := [.int (0 : Int32), .int ((a1 >>> ((4 : Int32) &&& 31)) - (a1 >>> ((4 : Int32) &&& 31)) / (5 : Int32) * (5 : Int32)), va_rf a0]) (fun _ h => by cases h; exact t_X8_senderOf _ ((a1 >>> ((4 : Int32) &&& 31)) - (a1 >>> ((4 : Int32) &&& 31)) / (5 : Int32) * (5 : Int32)) (0 : Int32) σ) (q := (RX8, TX8, 6)) rfl rfl rfl (Nat.le_of_ble_eq_true rfl) rfl (fun s args hts => cwV 2 hts gL_acts_X8_senderOf rfl rfl rfl (by decide +kernel) ⟨Nat.le_of_ble_eq_true rfl, Nat.le_of_ble_eq_true rfl⟩) rfl rfl dL_acts_416 (fun r96 σ97 _ => ?_)
      refine V_goto (tgt := 443) dL_acts_419 (by decide) ?_
      exact V_sub (LE.s (LE.s (LE.n (LE.s (LE.s (LE.s (LE.s (LE.s (LE.s (LE.s (LE.s (LE.s (LE.s (LE.s (LE.s (LE.s (LE.s (LE.s (LE.s (LE.s (LE.s (LE.s (LE.s LE.e))))))))))))))))))))))) (v_L_acts_b443  a0 a1 (((a1 >>> ((4 : Int32) &&& 31)) - (a1 >>> ((4 : Int32) &&& 31)) / (5 : Int32) * (5 : Int32))) (((a1 >>> ((7 : Int32) &&& 31)) - (a1 >>> ((7 : Int32) &&& 31)) / (3 : Int32) * (3 : Int32))) r96 σ97)
    · refine V_iload (x := ((a1 >>> ((7 : Int32) &&& 31)) - (a1 >>> ((7 : Int32) &&& 31)) / (3 : Int32) * (3 : Int32))) dL_acts_422 rfl ?_
      refine V_iconst (v := (1 : Int32)) dL_acts_424 rfl ?_
      refine V_icmp_ne (tgt := 437) (x := ((a1 >>> ((7 : Int32) &&& 31)) - (a1 >>> ((7 : Int32) &&& 31)) / (3 : Int32) * (3 : Int32))) (y := (1 : Int32)) dL_acts_425 (by decide) (fun hc98 => ?_) (fun hc98 => ?_)
      · refine V_aload_n (x := a0) dL_acts_428 rfl ?_
        refine V_iload_n (x := ((a1 >>> ((4 : Int32) &&& 31)) - (a1 >>> ((4 : Int32) &&& 31)) / (5 : Int32) * (5 : Int32))) dL_acts_429 rfl ?_
        refine V_iconst (v := (0 : Int32)) dL_acts_430 rfl ?_
        refine V_callV0 (As := [.int ((a1 >>> ((4 : Int32) &&& 31)) - (a1 >>> ((4 : Int32) &&& 31)) / (5 : Int32) * (5 : Int32)), .int (0 : Int32)]) (st0 := []) (stI := [.int (0 : Int32), .int ((a1 >>> ((4 : Int32) &&& 31)) - (a1 >>> ((4 : Int32) &&& 31)) / (5 : Int32) * (5 : Int32)), va_rf a0]) (fun _ h => by cases h; exact t_X8_machineOf _ ((a1 >>> ((4 : Int32) &&& 31)) - (a1 >>> ((4 : Int32) &&& 31)) / (5 : Int32) * (5 : Int32)) (0 : Int32) σ) (q := (RX8, TX8, 6)) rfl rfl rfl (Nat.le_of_ble_eq_true rfl) rfl (fun s args hts => cwV 2 hts gL_acts_X8_machineOf rfl rfl rfl (by decide +kernel) ⟨Nat.le_of_ble_eq_true rfl, Nat.le_of_ble_eq_true rfl⟩) rfl rfl dL_acts_431 (fun r99 σ100 _ => ?_)
        refine V_goto (tgt := 443) dL_acts_434 (by decide) ?_
        exact V_sub (LE.s (LE.s (LE.n (LE.s (LE.s (LE.s (LE.s (LE.s (LE.s (LE.s (LE.s (LE.s (LE.s (LE.s (LE.s (LE.s (LE.s (LE.s (LE.s (LE.s (LE.s (LE.s (LE.s LE.e))))))))))))))))))))))) (v_L_acts_b443  a0 a1 (((a1 >>> ((4 : Int32) &&& 31)) - (a1 >>> ((4 : Int32) &&& 31)) / (5 : Int32) * (5 : Int32))) (((a1 >>> ((7 : Int32) &&& 31)) - (a1 >>> ((7 : Int32) &&& 31)) / (3 : Int32) * (3 : Int32))) r99 σ100)
      · refine V_aload_n (x := a0) dL_acts_437 rfl ?_
        refine V_iload_n (x := ((a1 >>> ((4 : Int32) &&& 31)) - (a1 >>> ((4 : Int32) &&& 31)) / (5 : Int32) * (5 : Int32))) dL_acts_438 rfl ?_
        refine V_iconst (v := (0 : Int32)) dL_acts_439 rfl ?_
        refine V_callV0 (As := [.int ((a1 >>> ((4 : Int32) &&& 31)) - (a1 >>> ((4 : Int32) &&& 31)) / (5 : Int32) * (5 : Int32)), .int (0 : Int32)]) (st0 := []) (stI := [.int (0 : Int32), .int ((a1 >>> ((4 : Int32) &&& 31)) - (a1 >>> ((4 : Int32) &&& 31)) / (5 : Int32) * (5 : Int32)), va_rf a0]) (fun _ h => by cases h; exact t_X8_lampOf _ ((a1 >>> ((4 : Int32) &&& 31)) - (a1 >>> ((4 : Int32) &&& 31)) / (5 : Int32) * (5 : Int32)) (0 : Int32) σ) (q := (RX8, TX8, 6)) rfl rfl rfl (Nat.le_of_ble_eq_true rfl) rfl (fun s args hts => cwV 2 hts gL_acts_X8_lampOf rfl rfl rfl (by decide +kernel) ⟨Nat.le_of_ble_eq_true rfl, Nat.le_of_ble_eq_true rfl⟩) rfl rfl dL_acts_440 (fun r101 σ102 _ => ?_)
        exact V_sub (LE.s (LE.s (LE.n (LE.s (LE.s (LE.s (LE.s (LE.s (LE.s (LE.s (LE.s (LE.s (LE.s (LE.s (LE.s (LE.s (LE.s (LE.s (LE.s (LE.s (LE.s (LE.s (LE.s LE.e))))))))))))))))))))))) (v_L_acts_b443  a0 a1 (((a1 >>> ((4 : Int32) &&& 31)) - (a1 >>> ((4 : Int32) &&& 31)) / (5 : Int32) * (5 : Int32))) (((a1 >>> ((7 : Int32) &&& 31)) - (a1 >>> ((7 : Int32) &&& 31)) / (3 : Int32) * (3 : Int32))) r101 σ102)
  · dsimp only
    refine V_iload_n (x := a1) dL_acts_540 rfl ?_
    refine V_iconst (v := (4 : Int32)) dL_acts_541 rfl ?_
    refine V_ishr (x := a1) (y := (4 : Int32)) dL_acts_542 ?_
    refine V_iconst (v := (4 : Int32)) dL_acts_543 rfl ?_
    refine V_irem (x := (a1 >>> ((4 : Int32) &&& 31))) (y := (4 : Int32)) dL_acts_544 ?_
    refine V_istore (x := ((a1 >>> ((4 : Int32) &&& 31)) - (a1 >>> ((4 : Int32) &&& 31)) / (4 : Int32) * (4 : Int32))) (ls' := [some (va_rf a0), some (.int a1), some (.int ((a1 >>> ((4 : Int32) &&& 31)) - (a1 >>> ((4 : Int32) &&& 31)) / (6 : Int32) * (6 : Int32))), some (.int ((a1 >>> ((4 : Int32) &&& 31)) - (a1 >>> ((4 : Int32) &&& 31)) / (5 : Int32) * (5 : Int32))), none, none, none, none, none, none, none, none, none, none, some (.int ((a1 >>> ((4 : Int32) &&& 31)) - (a1 >>> ((4 : Int32) &&& 31)) / (4 : Int32) * (4 : Int32))), none, none, none, none, none, none, none, none]) dL_acts_545 (by decide) rfl ?_
    refine V_iload (x := ((a1 >>> ((4 : Int32) &&& 31)) - (a1 >>> ((4 : Int32) &&& 31)) / (4 : Int32) * (4 : Int32))) dL_acts_547 rfl ?_
    refine V_iconst (v := (2 : Int32)) dL_acts_549 rfl ?_
    refine V_icmp_ge (tgt := 563) (x := ((a1 >>> ((4 : Int32) &&& 31)) - (a1 >>> ((4 : Int32) &&& 31)) / (4 : Int32) * (4 : Int32))) (y := (2 : Int32)) dL_acts_550 (by decide) (fun hc103 => ?_) (fun hc103 => ?_)
    · refine V_iload (x := ((a1 >>> ((4 : Int32) &&& 31)) - (a1 >>> ((4 : Int32) &&& 31)) / (4 : Int32) * (4 : Int32))) dL_acts_563 rfl ?_
      refine V_iconst (v := (2 : Int32)) dL_acts_565 rfl ?_
      refine V_icmp_ne (tgt := 581) (x := ((a1 >>> ((4 : Int32) &&& 31)) - (a1 >>> ((4 : Int32) &&& 31)) / (4 : Int32) * (4 : Int32))) (y := (2 : Int32)) dL_acts_566 (by decide) (fun hc104 => ?_) (fun hc104 => ?_)
      · refine V_iconst (v := (1 : Int32)) dL_acts_569 rfl ?_
        refine V_iload_n (x := a1) dL_acts_570 rfl ?_
        refine V_bipush (v := (8 : Int32)) dL_acts_571 rfl ?_
        refine V_ishr (x := a1) (y := (8 : Int32)) dL_acts_573 ?_
        refine V_bipush (v := (9 : Int32)) dL_acts_574 rfl ?_
        refine V_irem (x := (a1 >>> ((8 : Int32) &&& 31))) (y := (9 : Int32)) dL_acts_576 ?_
        refine V_iadd (x := (1 : Int32)) (y := ((a1 >>> ((8 : Int32) &&& 31)) - (a1 >>> ((8 : Int32) &&& 31)) / (9 : Int32) * (9 : Int32))) dL_acts_577 ?_
        refine V_goto (tgt := 589) dL_acts_578 (by decide) ?_
        exact V_sub (LE.s (LE.n (LE.n (LE.n (LE.s (LE.s (LE.s (LE.s (LE.s (LE.s (LE.s (LE.s (LE.s (LE.s (LE.s (LE.s (LE.s (LE.s (LE.s (LE.s (LE.s (LE.s (LE.s LE.e))))))))))))))))))))))) (v_L_acts_b589  a0 (((a1 >>> ((4 : Int32) &&& 31)) - (a1 >>> ((4 : Int32) &&& 31)) / (4 : Int32) * (4 : Int32))) (((1 : Int32) + ((a1 >>> ((8 : Int32) &&& 31)) - (a1 >>> ((8 : Int32) &&& 31)) / (9 : Int32) * (9 : Int32)))) σ)
      · refine V_iconst (v := (1 : Int32)) dL_acts_581 rfl ?_
        refine V_iload_n (x := a1) dL_acts_582 rfl ?_
        refine V_bipush (v := (8 : Int32)) dL_acts_583 rfl ?_
        refine V_ishr (x := a1) (y := (8 : Int32)) dL_acts_585 ?_
        refine V_iconst (v := (3 : Int32)) dL_acts_586 rfl ?_
        refine V_irem (x := (a1 >>> ((8 : Int32) &&& 31))) (y := (3 : Int32)) dL_acts_587 ?_
        refine V_iadd (x := (1 : Int32)) (y := ((a1 >>> ((8 : Int32) &&& 31)) - (a1 >>> ((8 : Int32) &&& 31)) / (3 : Int32) * (3 : Int32))) dL_acts_588 ?_
        exact V_sub (LE.s (LE.n (LE.n (LE.n (LE.s (LE.s (LE.s (LE.s (LE.s (LE.s (LE.s (LE.s (LE.s (LE.s (LE.s (LE.s (LE.s (LE.s (LE.s (LE.s (LE.s (LE.s (LE.s LE.e))))))))))))))))))))))) (v_L_acts_b589  a0 (((a1 >>> ((4 : Int32) &&& 31)) - (a1 >>> ((4 : Int32) &&& 31)) / (4 : Int32) * (4 : Int32))) (((1 : Int32) + ((a1 >>> ((8 : Int32) &&& 31)) - (a1 >>> ((8 : Int32) &&& 31)) / (3 : Int32) * (3 : Int32)))) σ)
    · refine V_iload_n (x := a1) dL_acts_553 rfl ?_
      refine V_bipush (v := (8 : Int32)) dL_acts_554 rfl ?_
      refine V_ishr (x := a1) (y := (8 : Int32)) dL_acts_556 ?_
      refine V_bipush (v := (10 : Int32)) dL_acts_557 rfl ?_
      refine V_irem (x := (a1 >>> ((8 : Int32) &&& 31))) (y := (10 : Int32)) dL_acts_559 ?_
      refine V_goto (tgt := 589) dL_acts_560 (by decide) ?_
      exact V_sub (LE.s (LE.n (LE.n (LE.n (LE.s (LE.s (LE.s (LE.s (LE.s (LE.s (LE.s (LE.s (LE.s (LE.s (LE.s (LE.s (LE.s (LE.s (LE.s (LE.s (LE.s (LE.s (LE.s LE.e))))))))))))))))))))))) (v_L_acts_b589  a0 (((a1 >>> ((4 : Int32) &&& 31)) - (a1 >>> ((4 : Int32) &&& 31)) / (4 : Int32) * (4 : Int32))) (((a1 >>> ((8 : Int32) &&& 31)) - (a1 >>> ((8 : Int32) &&& 31)) / (10 : Int32) * (10 : Int32))) σ)
  · dsimp only
    exact V_sub (LE.s (LE.s (LE.n (LE.s (LE.s (LE.s (LE.s (LE.s (LE.s (LE.s (LE.s (LE.s (LE.s (LE.s (LE.s (LE.s (LE.s (LE.s (LE.s (LE.s (LE.s (LE.s (LE.s LE.e))))))))))))))))))))))) (v_L_acts_b635  a0 a1 (((a1 >>> ((4 : Int32) &&& 31)) - (a1 >>> ((4 : Int32) &&& 31)) / (5 : Int32) * (5 : Int32))) σ)
  · dsimp only
    exact V_sub (LE.s (LE.s (LE.n (LE.s (LE.s (LE.s (LE.s (LE.s (LE.s (LE.s (LE.s (LE.s (LE.s (LE.s (LE.s (LE.s (LE.s (LE.s (LE.s (LE.s (LE.s (LE.s (LE.s LE.e))))))))))))))))))))))) (v_L_acts_b635  a0 a1 (((a1 >>> ((4 : Int32) &&& 31)) - (a1 >>> ((4 : Int32) &&& 31)) / (5 : Int32) * (5 : Int32))) σ)
  · dsimp only
    exact V_sub (LE.s (LE.s (LE.n (LE.s (LE.s (LE.s (LE.s (LE.s (LE.s (LE.s (LE.s (LE.s (LE.s (LE.s (LE.s (LE.s (LE.s (LE.s (LE.s (LE.s (LE.s (LE.s (LE.s LE.e))))))))))))))))))))))) (v_L_acts_b635  a0 a1 (((a1 >>> ((4 : Int32) &&& 31)) - (a1 >>> ((4 : Int32) &&& 31)) / (5 : Int32) * (5 : Int32))) σ)
  · refine V_iconst (v := (1 : Int32)) dL_acts_729 rfl ?_
    refine V_iload_n (x := a1) dL_acts_730 rfl ?_
    refine V_iconst (v := (4 : Int32)) dL_acts_731 rfl ?_
    refine V_ishr (x := a1) (y := (4 : Int32)) dL_acts_732 ?_
    refine V_bipush (v := (60 : Int32)) dL_acts_733 rfl ?_
    refine V_irem (x := (a1 >>> ((4 : Int32) &&& 31))) (y := (60 : Int32)) dL_acts_735 ?_
    refine V_iadd (x := (1 : Int32)) (y := ((a1 >>> ((4 : Int32) &&& 31)) - (a1 >>> ((4 : Int32) &&& 31)) / (60 : Int32) * (60 : Int32))) dL_acts_736 ?_
    refine V_istore (x := ((1 : Int32) + ((a1 >>> ((4 : Int32) &&& 31)) - (a1 >>> ((4 : Int32) &&& 31)) / (60 : Int32) * (60 : Int32)))) (ls' := [some (va_rf a0), some (.int a1), some (.int ((a1 >>> ((4 : Int32) &&& 31)) - (a1 >>> ((4 : Int32) &&& 31)) / (6 : Int32) * (6 : Int32))), some (.int ((a1 >>> ((4 : Int32) &&& 31)) - (a1 >>> ((4 : Int32) &&& 31)) / (5 : Int32) * (5 : Int32))), none, none, none, none, none, none, none, none, none, none, none, none, none, none, none, none, some (.int ((1 : Int32) + ((a1 >>> ((4 : Int32) &&& 31)) - (a1 >>> ((4 : Int32) &&& 31)) / (60 : Int32) * (60 : Int32)))), none, none]) dL_acts_737 (by decide) rfl ?_
    refine V_aload_n (x := a0) dL_acts_739 rfl ?_
    refine V_iconst (v := (0 : Int32)) dL_acts_740 rfl ?_
    refine V_callV0 (As := [.int (0 : Int32)]) (st0 := []) (stI := [.int (0 : Int32), va_rf a0]) (fun _ h => by cases h; exact t_X8_count _ (0 : Int32) σ) (q := (RX8, TX8, 6)) rfl rfl rfl (Nat.le_of_ble_eq_true rfl) rfl (fun s args hts => cwV 1 hts gL_acts_X8_count rfl rfl rfl (by decide +kernel) ⟨Nat.le_of_ble_eq_true rfl, Nat.le_of_ble_eq_true rfl⟩) rfl rfl dL_acts_741 (fun r105 σ106 _ => ?_)
    refine V_istore (x := r105) (ls' := [some (va_rf a0), some (.int a1), some (.int ((a1 >>> ((4 : Int32) &&& 31)) - (a1 >>> ((4 : Int32) &&& 31)) / (6 : Int32) * (6 : Int32))), some (.int ((a1 >>> ((4 : Int32) &&& 31)) - (a1 >>> ((4 : Int32) &&& 31)) / (5 : Int32) * (5 : Int32))), none, none, none, none, none, none, none, none, none, none, none, none, none, none, none, none, some (.int ((1 : Int32) + ((a1 >>> ((4 : Int32) &&& 31)) - (a1 >>> ((4 : Int32) &&& 31)) / (60 : Int32) * (60 : Int32)))), some (.int r105), none]) dL_acts_744 (by decide) rfl ?_
    refine V_aload_n (x := a0) dL_acts_746 rfl ?_
    refine V_iconst (v := (2 : Int32)) dL_acts_747 rfl ?_
    refine V_callV0 (As := [.int (2 : Int32)]) (st0 := []) (stI := [.int (2 : Int32), va_rf a0]) (fun _ h => by cases h; exact t_X8_total _ (2 : Int32) σ106) (q := (RX8, TX8, 6)) rfl rfl rfl (Nat.le_of_ble_eq_true rfl) rfl (fun s args hts => cwV 1 hts gL_acts_X8_total rfl rfl rfl (by decide +kernel) ⟨Nat.le_of_ble_eq_true rfl, Nat.le_of_ble_eq_true rfl⟩) rfl rfl dL_acts_748 (fun r107 σ108 _ => ?_)
    refine V_istore (x := r107) (ls' := [some (va_rf a0), some (.int a1), some (.int ((a1 >>> ((4 : Int32) &&& 31)) - (a1 >>> ((4 : Int32) &&& 31)) / (6 : Int32) * (6 : Int32))), some (.int ((a1 >>> ((4 : Int32) &&& 31)) - (a1 >>> ((4 : Int32) &&& 31)) / (5 : Int32) * (5 : Int32))), none, none, none, none, none, none, none, none, none, none, none, none, none, none, none, none, some (.int ((1 : Int32) + ((a1 >>> ((4 : Int32) &&& 31)) - (a1 >>> ((4 : Int32) &&& 31)) / (60 : Int32) * (60 : Int32)))), some (.int r105), some (.int r107)]) dL_acts_751 (by decide) rfl ?_
    refine V_aload_n (x := a0) dL_acts_753 rfl ?_
    refine V_iload (x := ((1 : Int32) + ((a1 >>> ((4 : Int32) &&& 31)) - (a1 >>> ((4 : Int32) &&& 31)) / (60 : Int32) * (60 : Int32)))) dL_acts_754 rfl ?_
    refine V_callV0 (As := [.int ((1 : Int32) + ((a1 >>> ((4 : Int32) &&& 31)) - (a1 >>> ((4 : Int32) &&& 31)) / (60 : Int32) * (60 : Int32)))]) (st0 := []) (stI := [.int ((1 : Int32) + ((a1 >>> ((4 : Int32) &&& 31)) - (a1 >>> ((4 : Int32) &&& 31)) / (60 : Int32) * (60 : Int32))), va_rf a0]) (fun _ h => by cases h; exact t_X8_pass _ ((1 : Int32) + ((a1 >>> ((4 : Int32) &&& 31)) - (a1 >>> ((4 : Int32) &&& 31)) / (60 : Int32) * (60 : Int32))) σ108) (q := (RX8, TX8, 6)) rfl rfl rfl (Nat.le_of_ble_eq_true rfl) rfl (fun s args hts => cwV 1 hts gL_acts_X8_pass rfl rfl rfl (by decide +kernel) ⟨Nat.le_of_ble_eq_true rfl, Nat.le_of_ble_eq_true rfl⟩) rfl rfl dL_acts_756 (fun r109 σ110 _ => ?_)
    refine V_aload_n (x := a0) dL_acts_759 rfl ?_
    refine V_iconst (v := (2 : Int32)) dL_acts_760 rfl ?_
    refine V_callV0 (As := [.int (2 : Int32)]) (st0 := [.int r109]) (stI := [.int (2 : Int32), va_rf a0, .int r109]) (fun _ h => by cases h; exact t_X8_total _ (2 : Int32) σ110) (q := (RX8, TX8, 6)) rfl rfl rfl (Nat.le_of_ble_eq_true rfl) rfl (fun s args hts => cwV 1 hts gL_acts_X8_total rfl rfl rfl (by decide +kernel) ⟨Nat.le_of_ble_eq_true rfl, Nat.le_of_ble_eq_true rfl⟩) rfl rfl dL_acts_761 (fun r111 σ112 _ => ?_)
    refine V_iload (x := r107) dL_acts_764 rfl ?_
    refine V_isub (x := r111) (y := r107) dL_acts_766 ?_
    refine V_icmp_ne (tgt := 787) (x := r109) (y := (r111 - r107)) dL_acts_767 (by decide) (fun hc113 => ?_) (fun hc113 => ?_)
    · refine V_aload_n (x := a0) dL_acts_770 rfl ?_
      refine V_iconst (v := (0 : Int32)) dL_acts_771 rfl ?_
      refine V_callV0 (As := [.int (0 : Int32)]) (st0 := []) (stI := [.int (0 : Int32), va_rf a0]) (fun _ h => by cases h; exact t_X8_count _ (0 : Int32) σ112) (q := (RX8, TX8, 6)) rfl rfl rfl (Nat.le_of_ble_eq_true rfl) rfl (fun s args hts => cwV 1 hts gL_acts_X8_count rfl rfl rfl (by decide +kernel) ⟨Nat.le_of_ble_eq_true rfl, Nat.le_of_ble_eq_true rfl⟩) rfl rfl dL_acts_772 (fun r114 σ115 _ => ?_)
      refine V_iload (x := r105) dL_acts_775 rfl ?_
      refine V_iload (x := ((1 : Int32) + ((a1 >>> ((4 : Int32) &&& 31)) - (a1 >>> ((4 : Int32) &&& 31)) / (60 : Int32) * (60 : Int32)))) dL_acts_777 rfl ?_
      refine V_iadd (x := r105) (y := ((1 : Int32) + ((a1 >>> ((4 : Int32) &&& 31)) - (a1 >>> ((4 : Int32) &&& 31)) / (60 : Int32) * (60 : Int32)))) dL_acts_779 ?_
      refine V_icmp_ne (tgt := 787) (x := r114) (y := (r105 + ((1 : Int32) + ((a1 >>> ((4 : Int32) &&& 31)) - (a1 >>> ((4 : Int32) &&& 31)) / (60 : Int32) * (60 : Int32))))) dL_acts_780 (by decide) (fun hc116 => ?_) (fun hc116 => ?_)
      · refine V_iconst (v := (1 : Int32)) dL_acts_783 rfl ?_
        refine V_goto (tgt := 788) dL_acts_784 (by decide) ?_
        exact V_zret (fun _ => rfl) rfl (Nat.zero_le _) (Nat.zero_le _) dL_acts_788
      · refine V_iconst (v := (0 : Int32)) dL_acts_787 rfl ?_
        exact V_zret (fun _ => rfl) rfl (Nat.zero_le _) (Nat.zero_le _) dL_acts_788
    · refine V_iconst (v := (0 : Int32)) dL_acts_787 rfl ?_
      exact V_zret (fun _ => rfl) rfl (Nat.zero_le _) (Nat.zero_le _) dL_acts_788
theorem t_L_acts {D : DG} {z0 : Nat} {l : Launch} (a0 : Option Nat) (a1 : Int32) (σ : SG) : MT D z0 l yL_acts wsL_acts rmL_acts tvI [va_rf a0, .int a1] σ (m_L_acts a0 a1 σ) :=
  MT.of (own := RL) (cc := cL_acts) (nL := 23) (ret := (some .boolean)) (ct := false) (by decide) rfl rfl (fun h => by cases h) (Nat.le_of_ble_eq_true rfl) (by intro v hv; simp only [List.mem_cons, List.not_mem_nil, or_false] at hv; first | (rcases hv with rfl | rfl <;> first | rfl | exact va_rf_cat _) | exact absurd hv (fun h => h)) (v_L_acts a0 a1 σ)
