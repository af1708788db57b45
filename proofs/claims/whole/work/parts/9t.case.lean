/-! LEVEL 3: a turn of the law, by the call -/
section LCASE
variable {D : DG} {z0 : Nat} {l : Launch} {σ : SG} {cells slots : Nat} {i : Nat}
/-- the locals of the law at the head of a turn -/
abbrev LSl (D : DG) (z0 : Nat) (i : Nat) : List (Option Value) := [some (.ref D.2.2.1), some (.ref z0), some (.ref (z0 + 257)), some (.int (nI i)), none, none, none, none]
abbrev VL (D : DG) (z0 : Nat) (l : Launch) (pc : Nat) (ls : List (Option Value)) (st : List Value) (σ : SG) (cells slots : Nat) (σ2 : SG) : Prop := V D z0 l RL cL_law 8 wsL_law (some .boolean) room_1 false tvI pc ls st σ cells slots (some ((1 : Int32), σ2))
theorem GR_x (H : GR z0 σ) : sObj (some z0) 7 σ = some () := by
  obtain ⟨W, P, kp, h, tl, tx, r, g, H, O⟩ := H
  simp [sObj, H.2.2.1, cMW]
theorem L_sender (hi : i + 4 ≤ D.2.2.2.1) (hL : D.2.2.2.1 ≤ 2048) (hc : cells ≤ 600000) (hs : slots ≤ 7302250) (H : GR z0 σ) (ih : ∀ τ, GR z0 τ → ∃ τ2, VL D z0 l 913 (LSl D z0 i) [] τ cells slots τ2) : ∃ τ2, VL D z0 l 156 (LSl D z0 i) [] σ cells slots τ2 := by
  obtain ⟨v, σ1, σ2, e1, e2, e3, H2⟩ := P_sender H (D.2.2.2.2 (i + 1)) (D.2.2.2.2 (i + 2))
  obtain ⟨τ2, w⟩ := ih σ2 H2
  refine ⟨τ2, ?_⟩
  refine V_aload_n (x := some z0) dL_law_156 rfl ?_
  refine V_aload_n (x := some D.2.2.1) dL_law_157 rfl ?_
  refine V_iload_n (x := nI i) dL_law_158 rfl ?_
  refine V_iconst (v := nI 1) dL_law_159 rfl ?_
  refine V_iadd dL_law_160 ?_
  rw [nI_add]
  refine V_scrP (i := i + 1) (by omega) hL dL_law_161 ?_
  refine V_aload_n (x := some D.2.2.1) dL_law_162 rfl ?_
  refine V_iload_n (x := nI i) dL_law_163 rfl ?_
  refine V_iconst (v := nI 2) dL_law_164 rfl ?_
  refine V_iadd dL_law_165 ?_
  rw [nI_add]
  refine V_scrP (i := i + 2) (by omega) hL dL_law_166 ?_
  refine V_callP (As := [.int (D.2.2.2.2 (i + 1)), .int (D.2.2.2.2 (i + 2))]) (st0 := []) (stI := [.int (D.2.2.2.2 (i + 2)), .int (D.2.2.2.2 (i + 1)), .ref z0]) (t_X8_sender _ (D.2.2.2.2 (i + 1)) (D.2.2.2.2 (i + 2)) σ) e1 (GR_x H) (q := (RX8, TX8, 6)) rfl rfl rfl (Nat.le_of_ble_eq_true rfl) rfl (fun s args hts => cwV 2 hts gL_law_X8_sender rfl rfl rfl (by decide +kernel) ⟨Nat.le_of_ble_eq_true rfl, Nat.le_of_ble_eq_true rfl⟩) rfl rfl hc hs dL_law_167 ?_
  refine V_aload_n (x := some (z0 + 257)) dL_law_170 rfl ?_
  refine V_aload_n (x := some D.2.2.1) dL_law_171 rfl ?_
  refine V_iload_n (x := nI i) dL_law_172 rfl ?_
  refine V_iconst (v := nI 1) dL_law_173 rfl ?_
  refine V_iadd dL_law_174 ?_
  rw [nI_add]
  refine V_scrP (i := i + 1) (by omega) hL dL_law_175 ?_
  refine V_aload_n (x := some D.2.2.1) dL_law_176 rfl ?_
  refine V_iload_n (x := nI i) dL_law_177 rfl ?_
  refine V_iconst (v := nI 2) dL_law_178 rfl ?_
  refine V_iadd dL_law_179 ?_
  rw [nI_add]
  refine V_scrP (i := i + 2) (by omega) hL dL_law_180 ?_
  refine V_callP (As := [.int (D.2.2.2.2 (i + 1)), .int (D.2.2.2.2 (i + 2))]) (st0 := [.int v]) (stI := [.int (D.2.2.2.2 (i + 2)), .int (D.2.2.2.2 (i + 1)), .ref (z0 + 257), .int v]) (t_X9_sender _ (D.2.2.2.2 (i + 1)) (D.2.2.2.2 (i + 2)) σ1) e2 e3 (q := (RX9, TX9, 15)) rfl rfl rfl (Nat.le_of_ble_eq_true rfl) rfl (fun s args hts => cwV 2 hts gL_law_X9_sender rfl rfl rfl (by decide +kernel) ⟨Nat.le_of_ble_eq_true rfl, Nat.le_of_ble_eq_true rfl⟩) rfl rfl hc hs dL_law_181 ?_
  exact V_icmp_eqT dL_law_184 rfl w
theorem L_machine (hi : i + 4 ≤ D.2.2.2.1) (hL : D.2.2.2.1 ≤ 2048) (hc : cells ≤ 600000) (hs : slots ≤ 7302250) (H : GR z0 σ) (ih : ∀ τ, GR z0 τ → ∃ τ2, VL D z0 l 913 (LSl D z0 i) [] τ cells slots τ2) : ∃ τ2, VL D z0 l 189 (LSl D z0 i) [] σ cells slots τ2 := by
  obtain ⟨v, σ1, σ2, e1, e2, e3, H2⟩ := P_machine H (D.2.2.2.2 (i + 1)) (D.2.2.2.2 (i + 2)) (D.2.2.2.2 (i + 3))
  obtain ⟨τ2, w⟩ := ih σ2 H2
  refine ⟨τ2, ?_⟩
  refine V_aload_n (x := some z0) dL_law_189 rfl ?_
  refine V_aload_n (x := some D.2.2.1) dL_law_190 rfl ?_
  refine V_iload_n (x := nI i) dL_law_191 rfl ?_
  refine V_iconst (v := nI 1) dL_law_192 rfl ?_
  refine V_iadd dL_law_193 ?_
  rw [nI_add]
  refine V_scrP (i := i + 1) (by omega) hL dL_law_194 ?_
  refine V_aload_n (x := some D.2.2.1) dL_law_195 rfl ?_
  refine V_iload_n (x := nI i) dL_law_196 rfl ?_
  refine V_iconst (v := nI 2) dL_law_197 rfl ?_
  refine V_iadd dL_law_198 ?_
  rw [nI_add]
  refine V_scrP (i := i + 2) (by omega) hL dL_law_199 ?_
  refine V_aload_n (x := some D.2.2.1) dL_law_200 rfl ?_
  refine V_iload_n (x := nI i) dL_law_201 rfl ?_
  refine V_iconst (v := nI 3) dL_law_202 rfl ?_
  refine V_iadd dL_law_203 ?_
  rw [nI_add]
  refine V_scrP (i := i + 3) (by omega) hL dL_law_204 ?_
  refine V_callP (As := [.int (D.2.2.2.2 (i + 1)), .int (D.2.2.2.2 (i + 2)), .int (D.2.2.2.2 (i + 3))]) (st0 := []) (stI := [.int (D.2.2.2.2 (i + 3)), .int (D.2.2.2.2 (i + 2)), .int (D.2.2.2.2 (i + 1)), .ref z0]) (t_X8_machine _ (D.2.2.2.2 (i + 1)) (D.2.2.2.2 (i + 2)) (D.2.2.2.2 (i + 3)) σ) e1 (GR_x H) (q := (RX8, TX8, 6)) rfl rfl rfl (Nat.le_of_ble_eq_true rfl) rfl (fun s args hts => cwV 3 hts gL_law_X8_machine rfl rfl rfl (by decide +kernel) ⟨Nat.le_of_ble_eq_true rfl, Nat.le_of_ble_eq_true rfl⟩) rfl rfl hc hs dL_law_205 ?_
  refine V_aload_n (x := some (z0 + 257)) dL_law_208 rfl ?_
  refine V_aload_n (x := some D.2.2.1) dL_law_209 rfl ?_
  refine V_iload_n (x := nI i) dL_law_210 rfl ?_
  refine V_iconst (v := nI 1) dL_law_211 rfl ?_
  refine V_iadd dL_law_212 ?_
  rw [nI_add]
  refine V_scrP (i := i + 1) (by omega) hL dL_law_213 ?_
  refine V_aload_n (x := some D.2.2.1) dL_law_214 rfl ?_
  refine V_iload_n (x := nI i) dL_law_215 rfl ?_
  refine V_iconst (v := nI 2) dL_law_216 rfl ?_
  refine V_iadd dL_law_217 ?_
  rw [nI_add]
  refine V_scrP (i := i + 2) (by omega) hL dL_law_218 ?_
  refine V_aload_n (x := some D.2.2.1) dL_law_219 rfl ?_
  refine V_iload_n (x := nI i) dL_law_220 rfl ?_
  refine V_iconst (v := nI 3) dL_law_221 rfl ?_
  refine V_iadd dL_law_222 ?_
  rw [nI_add]
  refine V_scrP (i := i + 3) (by omega) hL dL_law_223 ?_
  refine V_callP (As := [.int (D.2.2.2.2 (i + 1)), .int (D.2.2.2.2 (i + 2)), .int (D.2.2.2.2 (i + 3))]) (st0 := [.int v]) (stI := [.int (D.2.2.2.2 (i + 3)), .int (D.2.2.2.2 (i + 2)), .int (D.2.2.2.2 (i + 1)), .ref (z0 + 257), .int v]) (t_X9_machine _ (D.2.2.2.2 (i + 1)) (D.2.2.2.2 (i + 2)) (D.2.2.2.2 (i + 3)) σ1) e2 e3 (q := (RX9, TX9, 15)) rfl rfl rfl (Nat.le_of_ble_eq_true rfl) rfl (fun s args hts => cwV 3 hts gL_law_X9_machine rfl rfl rfl (by decide +kernel) ⟨Nat.le_of_ble_eq_true rfl, Nat.le_of_ble_eq_true rfl⟩) rfl rfl hc hs dL_law_224 ?_
  exact V_icmp_eqT dL_law_227 rfl w
theorem L_lamp (hi : i + 4 ≤ D.2.2.2.1) (hL : D.2.2.2.1 ≤ 2048) (hc : cells ≤ 600000) (hs : slots ≤ 7302250) (H : GR z0 σ) (ih : ∀ τ, GR z0 τ → ∃ τ2, VL D z0 l 913 (LSl D z0 i) [] τ cells slots τ2) : ∃ τ2, VL D z0 l 232 (LSl D z0 i) [] σ cells slots τ2 := by
  obtain ⟨v, σ1, σ2, e1, e2, e3, H2⟩ := P_lamp H (D.2.2.2.2 (i + 1)) (D.2.2.2.2 (i + 2)) (D.2.2.2.2 (i + 3))
  obtain ⟨τ2, w⟩ := ih σ2 H2
  refine ⟨τ2, ?_⟩
  refine V_aload_n (x := some z0) dL_law_232 rfl ?_
  refine V_aload_n (x := some D.2.2.1) dL_law_233 rfl ?_
  refine V_iload_n (x := nI i) dL_law_234 rfl ?_
  refine V_iconst (v := nI 1) dL_law_235 rfl ?_
  refine V_iadd dL_law_236 ?_
  rw [nI_add]
  refine V_scrP (i := i + 1) (by omega) hL dL_law_237 ?_
  refine V_aload_n (x := some D.2.2.1) dL_law_238 rfl ?_
  refine V_iload_n (x := nI i) dL_law_239 rfl ?_
  refine V_iconst (v := nI 2) dL_law_240 rfl ?_
  refine V_iadd dL_law_241 ?_
  rw [nI_add]
  refine V_scrP (i := i + 2) (by omega) hL dL_law_242 ?_
  refine V_aload_n (x := some D.2.2.1) dL_law_243 rfl ?_
  refine V_iload_n (x := nI i) dL_law_244 rfl ?_
  refine V_iconst (v := nI 3) dL_law_245 rfl ?_
  refine V_iadd dL_law_246 ?_
  rw [nI_add]
  refine V_scrP (i := i + 3) (by omega) hL dL_law_247 ?_
  refine V_callP (As := [.int (D.2.2.2.2 (i + 1)), .int (D.2.2.2.2 (i + 2)), .int (D.2.2.2.2 (i + 3))]) (st0 := []) (stI := [.int (D.2.2.2.2 (i + 3)), .int (D.2.2.2.2 (i + 2)), .int (D.2.2.2.2 (i + 1)), .ref z0]) (t_X8_lamp _ (D.2.2.2.2 (i + 1)) (D.2.2.2.2 (i + 2)) (D.2.2.2.2 (i + 3)) σ) e1 (GR_x H) (q := (RX8, TX8, 6)) rfl rfl rfl (Nat.le_of_ble_eq_true rfl) rfl (fun s args hts => cwV 3 hts gL_law_X8_lamp rfl rfl rfl (by decide +kernel) ⟨Nat.le_of_ble_eq_true rfl, Nat.le_of_ble_eq_true rfl⟩) rfl rfl hc hs dL_law_248 ?_
  refine V_aload_n (x := some (z0 + 257)) dL_law_251 rfl ?_
  refine V_aload_n (x := some D.2.2.1) dL_law_252 rfl ?_
  refine V_iload_n (x := nI i) dL_law_253 rfl ?_
  refine V_iconst (v := nI 1) dL_law_254 rfl ?_
  refine V_iadd dL_law_255 ?_
  rw [nI_add]
  refine V_scrP (i := i + 1) (by omega) hL dL_law_256 ?_
  refine V_aload_n (x := some D.2.2.1) dL_law_257 rfl ?_
  refine V_iload_n (x := nI i) dL_law_258 rfl ?_
  refine V_iconst (v := nI 2) dL_law_259 rfl ?_
  refine V_iadd dL_law_260 ?_
  rw [nI_add]
  refine V_scrP (i := i + 2) (by omega) hL dL_law_261 ?_
  refine V_aload_n (x := some D.2.2.1) dL_law_262 rfl ?_
  refine V_iload_n (x := nI i) dL_law_263 rfl ?_
  refine V_iconst (v := nI 3) dL_law_264 rfl ?_
  refine V_iadd dL_law_265 ?_
  rw [nI_add]
  refine V_scrP (i := i + 3) (by omega) hL dL_law_266 ?_
  refine V_callP (As := [.int (D.2.2.2.2 (i + 1)), .int (D.2.2.2.2 (i + 2)), .int (D.2.2.2.2 (i + 3))]) (st0 := [.int v]) (stI := [.int (D.2.2.2.2 (i + 3)), .int (D.2.2.2.2 (i + 2)), .int (D.2.2.2.2 (i + 1)), .ref (z0 + 257), .int v]) (t_X9_lamp _ (D.2.2.2.2 (i + 1)) (D.2.2.2.2 (i + 2)) (D.2.2.2.2 (i + 3)) σ1) e2 e3 (q := (RX9, TX9, 15)) rfl rfl rfl (Nat.le_of_ble_eq_true rfl) rfl (fun s args hts => cwV 3 hts gL_law_X9_lamp rfl rfl rfl (by decide +kernel) ⟨Nat.le_of_ble_eq_true rfl, Nat.le_of_ble_eq_true rfl⟩) rfl rfl hc hs dL_law_267 ?_
  exact V_icmp_eqT dL_law_270 rfl w
theorem L_remove (hi : i + 4 ≤ D.2.2.2.1) (hL : D.2.2.2.1 ≤ 2048) (hc : cells ≤ 600000) (hs : slots ≤ 7302250) (H : GR z0 σ) (ih : ∀ τ, GR z0 τ → ∃ τ2, VL D z0 l 913 (LSl D z0 i) [] τ cells slots τ2) : ∃ τ2, VL D z0 l 275 (LSl D z0 i) [] σ cells slots τ2 := by
  obtain ⟨v, σ1, σ2, e1, e2, e3, H2⟩ := P_remove H (D.2.2.2.2 (i + 1)) (D.2.2.2.2 (i + 2))
  obtain ⟨τ2, w⟩ := ih σ2 H2
  refine ⟨τ2, ?_⟩
  refine V_aload_n (x := some z0) dL_law_275 rfl ?_
  refine V_aload_n (x := some D.2.2.1) dL_law_276 rfl ?_
  refine V_iload_n (x := nI i) dL_law_277 rfl ?_
  refine V_iconst (v := nI 1) dL_law_278 rfl ?_
  refine V_iadd dL_law_279 ?_
  rw [nI_add]
  refine V_scrP (i := i + 1) (by omega) hL dL_law_280 ?_
  refine V_aload_n (x := some D.2.2.1) dL_law_281 rfl ?_
  refine V_iload_n (x := nI i) dL_law_282 rfl ?_
  refine V_iconst (v := nI 2) dL_law_283 rfl ?_
  refine V_iadd dL_law_284 ?_
  rw [nI_add]
  refine V_scrP (i := i + 2) (by omega) hL dL_law_285 ?_
  refine V_callP (As := [.int (D.2.2.2.2 (i + 1)), .int (D.2.2.2.2 (i + 2))]) (st0 := []) (stI := [.int (D.2.2.2.2 (i + 2)), .int (D.2.2.2.2 (i + 1)), .ref z0]) (t_X8_remove _ (D.2.2.2.2 (i + 1)) (D.2.2.2.2 (i + 2)) σ) e1 (GR_x H) (q := (RX8, TX8, 6)) rfl rfl rfl (Nat.le_of_ble_eq_true rfl) rfl (fun s args hts => cwV 2 hts gL_law_X8_remove rfl rfl rfl (by decide +kernel) ⟨Nat.le_of_ble_eq_true rfl, Nat.le_of_ble_eq_true rfl⟩) rfl rfl hc hs dL_law_286 ?_
  refine V_aload_n (x := some (z0 + 257)) dL_law_289 rfl ?_
  refine V_aload_n (x := some D.2.2.1) dL_law_290 rfl ?_
  refine V_iload_n (x := nI i) dL_law_291 rfl ?_
  refine V_iconst (v := nI 1) dL_law_292 rfl ?_
  refine V_iadd dL_law_293 ?_
  rw [nI_add]
  refine V_scrP (i := i + 1) (by omega) hL dL_law_294 ?_
  refine V_aload_n (x := some D.2.2.1) dL_law_295 rfl ?_
  refine V_iload_n (x := nI i) dL_law_296 rfl ?_
  refine V_iconst (v := nI 2) dL_law_297 rfl ?_
  refine V_iadd dL_law_298 ?_
  rw [nI_add]
  refine V_scrP (i := i + 2) (by omega) hL dL_law_299 ?_
  refine V_callP (As := [.int (D.2.2.2.2 (i + 1)), .int (D.2.2.2.2 (i + 2))]) (st0 := [.int v]) (stI := [.int (D.2.2.2.2 (i + 2)), .int (D.2.2.2.2 (i + 1)), .ref (z0 + 257), .int v]) (t_X9_remove _ (D.2.2.2.2 (i + 1)) (D.2.2.2.2 (i + 2)) σ1) e2 e3 (q := (RX9, TX9, 15)) rfl rfl rfl (Nat.le_of_ble_eq_true rfl) rfl (fun s args hts => cwV 2 hts gL_law_X9_remove rfl rfl rfl (by decide +kernel) ⟨Nat.le_of_ble_eq_true rfl, Nat.le_of_ble_eq_true rfl⟩) rfl rfl hc hs dL_law_300 ?_
  exact V_icmp_eqT dL_law_303 rfl w
theorem L_say (hi : i + 4 ≤ D.2.2.2.1) (hL : D.2.2.2.1 ≤ 2048) (hc : cells ≤ 600000) (hs : slots ≤ 7302250) (H : GR z0 σ) (ih : ∀ τ, GR z0 τ → ∃ τ2, VL D z0 l 913 (LSl D z0 i) [] τ cells slots τ2) : ∃ τ2, VL D z0 l 308 (LSl D z0 i) [] σ cells slots τ2 := by
  obtain ⟨v, σ1, σ2, e1, e2, e3, H2⟩ := P_say H (D.2.2.2.2 (i + 1)) (D.2.2.2.2 (i + 2))
  obtain ⟨τ2, w⟩ := ih σ2 H2
  refine ⟨τ2, ?_⟩
  refine V_aload_n (x := some z0) dL_law_308 rfl ?_
  refine V_aload_n (x := some D.2.2.1) dL_law_309 rfl ?_
  refine V_iload_n (x := nI i) dL_law_310 rfl ?_
  refine V_iconst (v := nI 1) dL_law_311 rfl ?_
  refine V_iadd dL_law_312 ?_
  rw [nI_add]
  refine V_scrP (i := i + 1) (by omega) hL dL_law_313 ?_
  refine V_aload_n (x := some D.2.2.1) dL_law_314 rfl ?_
  refine V_iload_n (x := nI i) dL_law_315 rfl ?_
  refine V_iconst (v := nI 2) dL_law_316 rfl ?_
  refine V_iadd dL_law_317 ?_
  rw [nI_add]
  refine V_scrP (i := i + 2) (by omega) hL dL_law_318 ?_
  refine V_callP (As := [.int (D.2.2.2.2 (i + 1)), .int (D.2.2.2.2 (i + 2))]) (st0 := []) (stI := [.int (D.2.2.2.2 (i + 2)), .int (D.2.2.2.2 (i + 1)), .ref z0]) (t_X8_say _ (D.2.2.2.2 (i + 1)) (D.2.2.2.2 (i + 2)) σ) e1 (GR_x H) (q := (RX8, TX8, 6)) rfl rfl rfl (Nat.le_of_ble_eq_true rfl) rfl (fun s args hts => cwV 2 hts gL_law_X8_say rfl rfl rfl (by decide +kernel) ⟨Nat.le_of_ble_eq_true rfl, Nat.le_of_ble_eq_true rfl⟩) rfl rfl hc hs dL_law_319 ?_
  refine V_aload_n (x := some (z0 + 257)) dL_law_322 rfl ?_
  refine V_aload_n (x := some D.2.2.1) dL_law_323 rfl ?_
  refine V_iload_n (x := nI i) dL_law_324 rfl ?_
  refine V_iconst (v := nI 1) dL_law_325 rfl ?_
  refine V_iadd dL_law_326 ?_
  rw [nI_add]
  refine V_scrP (i := i + 1) (by omega) hL dL_law_327 ?_
  refine V_aload_n (x := some D.2.2.1) dL_law_328 rfl ?_
  refine V_iload_n (x := nI i) dL_law_329 rfl ?_
  refine V_iconst (v := nI 2) dL_law_330 rfl ?_
  refine V_iadd dL_law_331 ?_
  rw [nI_add]
  refine V_scrP (i := i + 2) (by omega) hL dL_law_332 ?_
  refine V_callP (As := [.int (D.2.2.2.2 (i + 1)), .int (D.2.2.2.2 (i + 2))]) (st0 := [.int v]) (stI := [.int (D.2.2.2.2 (i + 2)), .int (D.2.2.2.2 (i + 1)), .ref (z0 + 257), .int v]) (t_X9_say _ (D.2.2.2.2 (i + 1)) (D.2.2.2.2 (i + 2)) σ1) e2 e3 (q := (RX9, TX9, 15)) rfl rfl rfl (Nat.le_of_ble_eq_true rfl) rfl (fun s args hts => cwV 2 hts gL_law_X9_say rfl rfl rfl (by decide +kernel) ⟨Nat.le_of_ble_eq_true rfl, Nat.le_of_ble_eq_true rfl⟩) rfl rfl hc hs dL_law_333 ?_
  exact V_icmp_eqT dL_law_336 rfl w
theorem L_run (hi : i + 4 ≤ D.2.2.2.1) (hL : D.2.2.2.1 ≤ 2048) (hc : cells ≤ 600000) (hs : slots ≤ 7302250) (H : GR z0 σ) (ih : ∀ τ, GR z0 τ → ∃ τ2, VL D z0 l 913 (LSl D z0 i) [] τ cells slots τ2) : ∃ τ2, VL D z0 l 341 (LSl D z0 i) [] σ cells slots τ2 := by
  obtain ⟨v, σ1, σ2, e1, e2, e3, H2⟩ := P_run H (D.2.2.2.2 (i + 1)) (bz (D.2.2.2.2 (i + 2))) (bz01 _)
  obtain ⟨τ2, w⟩ := ih σ2 H2
  refine ⟨τ2, ?_⟩
  refine V_aload_n (x := some z0) dL_law_341 rfl ?_
  refine V_aload_n (x := some D.2.2.1) dL_law_342 rfl ?_
  refine V_iload_n (x := nI i) dL_law_343 rfl ?_
  refine V_iconst (v := nI 1) dL_law_344 rfl ?_
  refine V_iadd dL_law_345 ?_
  rw [nI_add]
  refine V_scrP (i := i + 1) (by omega) hL dL_law_346 ?_
  refine V_aload_n (x := some D.2.2.1) dL_law_347 rfl ?_
  refine V_iload_n (x := nI i) dL_law_348 rfl ?_
  refine V_iconst (v := nI 2) dL_law_349 rfl ?_
  refine V_iadd dL_law_350 ?_
  rw [nI_add]
  refine V_scrP (i := i + 2) (by omega) hL dL_law_351 ?_
  refine V_bool dL_law_352 dL_law_355 dL_law_356 dL_law_359 ?_
  refine V_callP (As := [.int (D.2.2.2.2 (i + 1)), .int (bz (D.2.2.2.2 (i + 2)))]) (st0 := []) (stI := [.int (bz (D.2.2.2.2 (i + 2))), .int (D.2.2.2.2 (i + 1)), .ref z0]) (t_X8_run _ (D.2.2.2.2 (i + 1)) (bz (D.2.2.2.2 (i + 2))) σ) e1 (GR_x H) (q := (RX8, TX8, 6)) rfl rfl rfl (Nat.le_of_ble_eq_true rfl) rfl (fun s args hts => cwV 2 hts gL_law_X8_run rfl rfl rfl (by decide +kernel) ⟨Nat.le_of_ble_eq_true rfl, Nat.le_of_ble_eq_true rfl⟩) rfl rfl hc hs dL_law_360 ?_
  refine V_aload_n (x := some (z0 + 257)) dL_law_363 rfl ?_
  refine V_aload_n (x := some D.2.2.1) dL_law_364 rfl ?_
  refine V_iload_n (x := nI i) dL_law_365 rfl ?_
  refine V_iconst (v := nI 1) dL_law_366 rfl ?_
  refine V_iadd dL_law_367 ?_
  rw [nI_add]
  refine V_scrP (i := i + 1) (by omega) hL dL_law_368 ?_
  refine V_aload_n (x := some D.2.2.1) dL_law_369 rfl ?_
  refine V_iload_n (x := nI i) dL_law_370 rfl ?_
  refine V_iconst (v := nI 2) dL_law_371 rfl ?_
  refine V_iadd dL_law_372 ?_
  rw [nI_add]
  refine V_scrP (i := i + 2) (by omega) hL dL_law_373 ?_
  refine V_bool dL_law_374 dL_law_377 dL_law_378 dL_law_381 ?_
  refine V_callP (As := [.int (D.2.2.2.2 (i + 1)), .int (bz (D.2.2.2.2 (i + 2)))]) (st0 := [.int v]) (stI := [.int (bz (D.2.2.2.2 (i + 2))), .int (D.2.2.2.2 (i + 1)), .ref (z0 + 257), .int v]) (t_X9_run _ (D.2.2.2.2 (i + 1)) (bz (D.2.2.2.2 (i + 2))) σ1) e2 e3 (q := (RX9, TX9, 15)) rfl rfl rfl (Nat.le_of_ble_eq_true rfl) rfl (fun s args hts => cwV 2 hts gL_law_X9_run rfl rfl rfl (by decide +kernel) ⟨Nat.le_of_ble_eq_true rfl, Nat.le_of_ble_eq_true rfl⟩) rfl rfl hc hs dL_law_382 ?_
  exact V_icmp_eqT dL_law_385 rfl w
theorem L_set (hi : i + 4 ≤ D.2.2.2.1) (hL : D.2.2.2.1 ≤ 2048) (hc : cells ≤ 600000) (hs : slots ≤ 7302250) (H : GR z0 σ) (ih : ∀ τ, GR z0 τ → ∃ τ2, VL D z0 l 913 (LSl D z0 i) [] τ cells slots τ2) : ∃ τ2, VL D z0 l 390 (LSl D z0 i) [] σ cells slots τ2 := by
  obtain ⟨v, σ1, σ2, e1, e2, e3, H2⟩ := P_set H (D.2.2.2.2 (i + 1)) (D.2.2.2.2 (i + 2))
  obtain ⟨τ2, w⟩ := ih σ2 H2
  refine ⟨τ2, ?_⟩
  refine V_aload_n (x := some z0) dL_law_390 rfl ?_
  refine V_aload_n (x := some D.2.2.1) dL_law_391 rfl ?_
  refine V_iload_n (x := nI i) dL_law_392 rfl ?_
  refine V_iconst (v := nI 1) dL_law_393 rfl ?_
  refine V_iadd dL_law_394 ?_
  rw [nI_add]
  refine V_scrP (i := i + 1) (by omega) hL dL_law_395 ?_
  refine V_aload_n (x := some D.2.2.1) dL_law_396 rfl ?_
  refine V_iload_n (x := nI i) dL_law_397 rfl ?_
  refine V_iconst (v := nI 2) dL_law_398 rfl ?_
  refine V_iadd dL_law_399 ?_
  rw [nI_add]
  refine V_scrP (i := i + 2) (by omega) hL dL_law_400 ?_
  refine V_callP (As := [.int (D.2.2.2.2 (i + 1)), .int (D.2.2.2.2 (i + 2))]) (st0 := []) (stI := [.int (D.2.2.2.2 (i + 2)), .int (D.2.2.2.2 (i + 1)), .ref z0]) (t_X8_set _ (D.2.2.2.2 (i + 1)) (D.2.2.2.2 (i + 2)) σ) e1 (GR_x H) (q := (RX8, TX8, 6)) rfl rfl rfl (Nat.le_of_ble_eq_true rfl) rfl (fun s args hts => cwV 2 hts gL_law_X8_set rfl rfl rfl (by decide +kernel) ⟨Nat.le_of_ble_eq_true rfl, Nat.le_of_ble_eq_true rfl⟩) rfl rfl hc hs dL_law_401 ?_
  refine V_aload_n (x := some (z0 + 257)) dL_law_404 rfl ?_
  refine V_aload_n (x := some D.2.2.1) dL_law_405 rfl ?_
  refine V_iload_n (x := nI i) dL_law_406 rfl ?_
  refine V_iconst (v := nI 1) dL_law_407 rfl ?_
  refine V_iadd dL_law_408 ?_
  rw [nI_add]
  refine V_scrP (i := i + 1) (by omega) hL dL_law_409 ?_
  refine V_aload_n (x := some D.2.2.1) dL_law_410 rfl ?_
  refine V_iload_n (x := nI i) dL_law_411 rfl ?_
  refine V_iconst (v := nI 2) dL_law_412 rfl ?_
  refine V_iadd dL_law_413 ?_
  rw [nI_add]
  refine V_scrP (i := i + 2) (by omega) hL dL_law_414 ?_
  refine V_callP (As := [.int (D.2.2.2.2 (i + 1)), .int (D.2.2.2.2 (i + 2))]) (st0 := [.int v]) (stI := [.int (D.2.2.2.2 (i + 2)), .int (D.2.2.2.2 (i + 1)), .ref (z0 + 257), .int v]) (t_X9_set _ (D.2.2.2.2 (i + 1)) (D.2.2.2.2 (i + 2)) σ1) e2 e3 (q := (RX9, TX9, 15)) rfl rfl rfl (Nat.le_of_ble_eq_true rfl) rfl (fun s args hts => cwV 2 hts gL_law_X9_set rfl rfl rfl (by decide +kernel) ⟨Nat.le_of_ble_eq_true rfl, Nat.le_of_ble_eq_true rfl⟩) rfl rfl hc hs dL_law_415 ?_
  exact V_icmp_eqT dL_law_418 rfl w
theorem L_pass (hi : i + 4 ≤ D.2.2.2.1) (hL : D.2.2.2.1 ≤ 2048) (hc : cells ≤ 600000) (hs : slots ≤ 7302250) (H : GR z0 σ) (ih : ∀ τ, GR z0 τ → ∃ τ2, VL D z0 l 913 (LSl D z0 i) [] τ cells slots τ2) : ∃ τ2, VL D z0 l 423 (LSl D z0 i) [] σ cells slots τ2 := by
  obtain ⟨v, σ1, σ2, e1, e2, e3, H2⟩ := P_pass H (D.2.2.2.2 (i + 1))
  obtain ⟨τ2, w⟩ := ih σ2 H2
  refine ⟨τ2, ?_⟩
  refine V_aload_n (x := some z0) dL_law_423 rfl ?_
  refine V_aload_n (x := some D.2.2.1) dL_law_424 rfl ?_
  refine V_iload_n (x := nI i) dL_law_425 rfl ?_
  refine V_iconst (v := nI 1) dL_law_426 rfl ?_
  refine V_iadd dL_law_427 ?_
  rw [nI_add]
  refine V_scrP (i := i + 1) (by omega) hL dL_law_428 ?_
  refine V_callP (As := [.int (D.2.2.2.2 (i + 1))]) (st0 := []) (stI := [.int (D.2.2.2.2 (i + 1)), .ref z0]) (t_X8_pass _ (D.2.2.2.2 (i + 1)) σ) e1 (GR_x H) (q := (RX8, TX8, 6)) rfl rfl rfl (Nat.le_of_ble_eq_true rfl) rfl (fun s args hts => cwV 1 hts gL_law_X8_pass rfl rfl rfl (by decide +kernel) ⟨Nat.le_of_ble_eq_true rfl, Nat.le_of_ble_eq_true rfl⟩) rfl rfl hc hs dL_law_429 ?_
  refine V_aload_n (x := some (z0 + 257)) dL_law_432 rfl ?_
  refine V_aload_n (x := some D.2.2.1) dL_law_433 rfl ?_
  refine V_iload_n (x := nI i) dL_law_434 rfl ?_
  refine V_iconst (v := nI 1) dL_law_435 rfl ?_
  refine V_iadd dL_law_436 ?_
  rw [nI_add]
  refine V_scrP (i := i + 1) (by omega) hL dL_law_437 ?_
  refine V_callP (As := [.int (D.2.2.2.2 (i + 1))]) (st0 := [.int v]) (stI := [.int (D.2.2.2.2 (i + 1)), .ref (z0 + 257), .int v]) (t_X9_pass _ (D.2.2.2.2 (i + 1)) σ1) e2 e3 (q := (RX9, TX9, 15)) rfl rfl rfl (Nat.le_of_ble_eq_true rfl) rfl (fun s args hts => cwV 1 hts gL_law_X9_pass rfl rfl rfl (by decide +kernel) ⟨Nat.le_of_ble_eq_true rfl, Nat.le_of_ble_eq_true rfl⟩) rfl rfl hc hs dL_law_438 ?_
  exact V_icmp_eqT dL_law_441 rfl w
theorem L_append (hi : i + 4 ≤ D.2.2.2.1) (hL : D.2.2.2.1 ≤ 2048) (hc : cells ≤ 600000) (hs : slots ≤ 7302250) (H : GR z0 σ) (ih : ∀ τ, GR z0 τ → ∃ τ2, VL D z0 l 913 (LSl D z0 i) [] τ cells slots τ2) : ∃ τ2, VL D z0 l 446 (LSl D z0 i) [] σ cells slots τ2 := by
  obtain ⟨v, σ1, σ2, e1, e2, e3, H2⟩ := P_append H (D.2.2.2.2 (i + 1))
  obtain ⟨τ2, w⟩ := ih σ2 H2
  refine ⟨τ2, ?_⟩
  refine V_aload_n (x := some z0) dL_law_446 rfl ?_
  refine V_aload_n (x := some D.2.2.1) dL_law_447 rfl ?_
  refine V_iload_n (x := nI i) dL_law_448 rfl ?_
  refine V_iconst (v := nI 1) dL_law_449 rfl ?_
  refine V_iadd dL_law_450 ?_
  rw [nI_add]
  refine V_scrP (i := i + 1) (by omega) hL dL_law_451 ?_
  refine V_callP (As := [.int (D.2.2.2.2 (i + 1))]) (st0 := []) (stI := [.int (D.2.2.2.2 (i + 1)), .ref z0]) (t_X8_append _ (D.2.2.2.2 (i + 1)) σ) e1 (GR_x H) (q := (RX8, TX8, 6)) rfl rfl rfl (Nat.le_of_ble_eq_true rfl) rfl (fun s args hts => cwV 1 hts gL_law_X8_append rfl rfl rfl (by decide +kernel) ⟨Nat.le_of_ble_eq_true rfl, Nat.le_of_ble_eq_true rfl⟩) rfl rfl hc hs dL_law_452 ?_
  refine V_aload_n (x := some (z0 + 257)) dL_law_455 rfl ?_
  refine V_aload_n (x := some D.2.2.1) dL_law_456 rfl ?_
  refine V_iload_n (x := nI i) dL_law_457 rfl ?_
  refine V_iconst (v := nI 1) dL_law_458 rfl ?_
  refine V_iadd dL_law_459 ?_
  rw [nI_add]
  refine V_scrP (i := i + 1) (by omega) hL dL_law_460 ?_
  refine V_callP (As := [.int (D.2.2.2.2 (i + 1))]) (st0 := [.int v]) (stI := [.int (D.2.2.2.2 (i + 1)), .ref (z0 + 257), .int v]) (t_X9_append _ (D.2.2.2.2 (i + 1)) σ1) e2 e3 (q := (RX9, TX9, 15)) rfl rfl rfl (Nat.le_of_ble_eq_true rfl) rfl (fun s args hts => cwV 1 hts gL_law_X9_append rfl rfl rfl (by decide +kernel) ⟨Nat.le_of_ble_eq_true rfl, Nat.le_of_ble_eq_true rfl⟩) rfl rfl hc hs dL_law_461 ?_
  exact V_icmp_eqT dL_law_464 rfl w
theorem L_clearText (hi : i + 4 ≤ D.2.2.2.1) (hL : D.2.2.2.1 ≤ 2048) (hc : cells ≤ 600000) (hs : slots ≤ 7302250) (H : GR z0 σ) (ih : ∀ τ, GR z0 τ → ∃ τ2, VL D z0 l 913 (LSl D z0 i) [] τ cells slots τ2) : ∃ τ2, VL D z0 l 469 (LSl D z0 i) [] σ cells slots τ2 := by
  obtain ⟨v, σ1, σ2, e1, e2, e3, H2⟩ := P_clear H 
  obtain ⟨τ2, w⟩ := ih σ2 H2
  refine ⟨τ2, ?_⟩
  refine V_aload_n (x := some z0) dL_law_469 rfl ?_
  refine V_callP (As := []) (st0 := []) (stI := [.ref z0]) (t_X8_clearText _  σ) e1 (GR_x H) (q := (RX8, TX8, 6)) rfl rfl rfl (Nat.le_of_ble_eq_true rfl) rfl (fun s args hts => cwV 0 hts gL_law_X8_clearText rfl rfl rfl (by decide +kernel) ⟨Nat.le_of_ble_eq_true rfl, Nat.le_of_ble_eq_true rfl⟩) rfl rfl hc hs dL_law_470 ?_
  refine V_aload_n (x := some (z0 + 257)) dL_law_473 rfl ?_
  refine V_callP (As := []) (st0 := [.int v]) (stI := [.ref (z0 + 257), .int v]) (t_X9_clearText _  σ1) e2 e3 (q := (RX9, TX9, 15)) rfl rfl rfl (Nat.le_of_ble_eq_true rfl) rfl (fun s args hts => cwV 0 hts gL_law_X9_clearText rfl rfl rfl (by decide +kernel) ⟨Nat.le_of_ble_eq_true rfl, Nat.le_of_ble_eq_true rfl⟩) rfl rfl hc hs dL_law_474 ?_
  exact V_icmp_eqT dL_law_477 rfl w
theorem L_fault (hi : i + 4 ≤ D.2.2.2.1) (hL : D.2.2.2.1 ≤ 2048) (hc : cells ≤ 600000) (hs : slots ≤ 7302250) (H : GR z0 σ) (ih : ∀ τ, GR z0 τ → ∃ τ2, VL D z0 l 913 (LSl D z0 i) [] τ cells slots τ2) : ∃ τ2, VL D z0 l 482 (LSl D z0 i) [] σ cells slots τ2 := by
  obtain ⟨v, σ1, σ2, e1, e2, e3, H2⟩ := P_fault H 
  obtain ⟨τ2, w⟩ := ih σ2 H2
  refine ⟨τ2, ?_⟩
  refine V_aload_n (x := some z0) dL_law_482 rfl ?_
  refine V_callP (As := []) (st0 := []) (stI := [.ref z0]) (t_X8_fault _  σ) e1 (GR_x H) (q := (RX8, TX8, 6)) rfl rfl rfl (Nat.le_of_ble_eq_true rfl) rfl (fun s args hts => cwV 0 hts gL_law_X8_fault rfl rfl rfl (by decide +kernel) ⟨Nat.le_of_ble_eq_true rfl, Nat.le_of_ble_eq_true rfl⟩) rfl rfl hc hs dL_law_483 ?_
  refine V_aload_n (x := some (z0 + 257)) dL_law_486 rfl ?_
  refine V_callP (As := []) (st0 := [.int v]) (stI := [.ref (z0 + 257), .int v]) (t_X9_fault _  σ1) e2 e3 (q := (RX9, TX9, 15)) rfl rfl rfl (Nat.le_of_ble_eq_true rfl) rfl (fun s args hts => cwV 0 hts gL_law_X9_fault rfl rfl rfl (by decide +kernel) ⟨Nat.le_of_ble_eq_true rfl, Nat.le_of_ble_eq_true rfl⟩) rfl rfl hc hs dL_law_487 ?_
  exact V_icmp_eqT dL_law_490 rfl w
theorem L_perform (hi : i + 4 ≤ D.2.2.2.1) (hL : D.2.2.2.1 ≤ 2048) (hc : cells ≤ 600000) (hs : slots ≤ 7302250) (H : GR z0 σ) (ih : ∀ τ, GR z0 τ → ∃ τ2, VL D z0 l 913 (LSl D z0 i) [] τ cells slots τ2) : ∃ τ2, VL D z0 l 495 (LSl D z0 i) [] σ cells slots τ2 := by
  obtain ⟨v, σ1, σ2, e1, e2, e3, H2⟩ := P_perform H 
  obtain ⟨τ2, w⟩ := ih σ2 H2
  refine ⟨τ2, ?_⟩
  refine V_aload_n (x := some z0) dL_law_495 rfl ?_
  refine V_callP (As := []) (st0 := []) (stI := [.ref z0]) (t_X8_perform _  σ) e1 (GR_x H) (q := (RX8, TX8, 6)) rfl rfl rfl (Nat.le_of_ble_eq_true rfl) rfl (fun s args hts => cwV 0 hts gL_law_X8_perform rfl rfl rfl (by decide +kernel) ⟨Nat.le_of_ble_eq_true rfl, Nat.le_of_ble_eq_true rfl⟩) rfl rfl hc hs dL_law_496 ?_
  refine V_aload_n (x := some (z0 + 257)) dL_law_499 rfl ?_
  refine V_callP (As := []) (st0 := [.int v]) (stI := [.ref (z0 + 257), .int v]) (t_X9_perform _  σ1) e2 e3 (q := (RX9, TX9, 15)) rfl rfl rfl (Nat.le_of_ble_eq_true rfl) rfl (fun s args hts => cwV 0 hts gL_law_X9_perform rfl rfl rfl (by decide +kernel) ⟨Nat.le_of_ble_eq_true rfl, Nat.le_of_ble_eq_true rfl⟩) rfl rfl hc hs dL_law_500 ?_
  exact V_icmp_eqT dL_law_503 rfl w
theorem L_undo (hi : i + 4 ≤ D.2.2.2.1) (hL : D.2.2.2.1 ≤ 2048) (hc : cells ≤ 600000) (hs : slots ≤ 7302250) (H : GR z0 σ) (ih : ∀ τ, GR z0 τ → ∃ τ2, VL D z0 l 913 (LSl D z0 i) [] τ cells slots τ2) : ∃ τ2, VL D z0 l 508 (LSl D z0 i) [] σ cells slots τ2 := by
  obtain ⟨v, σ1, σ2, e1, e2, e3, H2⟩ := P_undo H 
  obtain ⟨τ2, w⟩ := ih σ2 H2
  refine ⟨τ2, ?_⟩
  refine V_aload_n (x := some z0) dL_law_508 rfl ?_
  refine V_callP (As := []) (st0 := []) (stI := [.ref z0]) (t_X8_undo _  σ) e1 (GR_x H) (q := (RX8, TX8, 6)) rfl rfl rfl (Nat.le_of_ble_eq_true rfl) rfl (fun s args hts => cwV 0 hts gL_law_X8_undo rfl rfl rfl (by decide +kernel) ⟨Nat.le_of_ble_eq_true rfl, Nat.le_of_ble_eq_true rfl⟩) rfl rfl hc hs dL_law_509 ?_
  refine V_aload_n (x := some (z0 + 257)) dL_law_512 rfl ?_
  refine V_callP (As := []) (st0 := [.int v]) (stI := [.ref (z0 + 257), .int v]) (t_X9_undo _  σ1) e2 e3 (q := (RX9, TX9, 15)) rfl rfl rfl (Nat.le_of_ble_eq_true rfl) rfl (fun s args hts => cwV 0 hts gL_law_X9_undo rfl rfl rfl (by decide +kernel) ⟨Nat.le_of_ble_eq_true rfl, Nat.le_of_ble_eq_true rfl⟩) rfl rfl hc hs dL_law_513 ?_
  exact V_icmp_eqT dL_law_516 rfl w
theorem L_save (hi : i + 4 ≤ D.2.2.2.1) (hL : D.2.2.2.1 ≤ 2048) (hc : cells ≤ 600000) (hs : slots ≤ 7302250) (H : GR z0 σ) (ih : ∀ τ, GR z0 τ → ∃ τ2, VL D z0 l 913 (LSl D z0 i) [] τ cells slots τ2) : ∃ τ2, VL D z0 l 521 (LSl D z0 i) [] σ cells slots τ2 := by
  obtain ⟨v, σ1, σ2, e1, e2, e3, H2⟩ := P_save H 
  obtain ⟨τ2, w⟩ := ih σ2 H2
  refine ⟨τ2, ?_⟩
  refine V_aload_n (x := some z0) dL_law_521 rfl ?_
  refine V_callP (As := []) (st0 := []) (stI := [.ref z0]) (t_X8_save _  σ) e1 (GR_x H) (q := (RX8, TX8, 6)) rfl rfl rfl (Nat.le_of_ble_eq_true rfl) rfl (fun s args hts => cwV 0 hts gL_law_X8_save rfl rfl rfl (by decide +kernel) ⟨Nat.le_of_ble_eq_true rfl, Nat.le_of_ble_eq_true rfl⟩) rfl rfl hc hs dL_law_522 ?_
  refine V_aload_n (x := some (z0 + 257)) dL_law_525 rfl ?_
  refine V_callP (As := []) (st0 := [.int v]) (stI := [.ref (z0 + 257), .int v]) (t_X9_save _  σ1) e2 e3 (q := (RX9, TX9, 15)) rfl rfl rfl (Nat.le_of_ble_eq_true rfl) rfl (fun s args hts => cwV 0 hts gL_law_X9_save rfl rfl rfl (by decide +kernel) ⟨Nat.le_of_ble_eq_true rfl, Nat.le_of_ble_eq_true rfl⟩) rfl rfl hc hs dL_law_526 ?_
  exact V_icmp_eqT dL_law_529 rfl w
theorem L_restore (hi : i + 4 ≤ D.2.2.2.1) (hL : D.2.2.2.1 ≤ 2048) (hc : cells ≤ 600000) (hs : slots ≤ 7302250) (H : GR z0 σ) (ih : ∀ τ, GR z0 τ → ∃ τ2, VL D z0 l 913 (LSl D z0 i) [] τ cells slots τ2) : ∃ τ2, VL D z0 l 534 (LSl D z0 i) [] σ cells slots τ2 := by
  obtain ⟨v, σ1, σ2, e1, e2, e3, H2⟩ := P_restore H 
  obtain ⟨τ2, w⟩ := ih σ2 H2
  refine ⟨τ2, ?_⟩
  refine V_aload_n (x := some z0) dL_law_534 rfl ?_
  refine V_callP (As := []) (st0 := []) (stI := [.ref z0]) (t_X8_restore _  σ) e1 (GR_x H) (q := (RX8, TX8, 6)) rfl rfl rfl (Nat.le_of_ble_eq_true rfl) rfl (fun s args hts => cwV 0 hts gL_law_X8_restore rfl rfl rfl (by decide +kernel) ⟨Nat.le_of_ble_eq_true rfl, Nat.le_of_ble_eq_true rfl⟩) rfl rfl hc hs dL_law_535 ?_
  refine V_aload_n (x := some (z0 + 257)) dL_law_538 rfl ?_
  refine V_callP (As := []) (st0 := [.int v]) (stI := [.ref (z0 + 257), .int v]) (t_X9_restore _  σ1) e2 e3 (q := (RX9, TX9, 15)) rfl rfl rfl (Nat.le_of_ble_eq_true rfl) rfl (fun s args hts => cwV 0 hts gL_law_X9_restore rfl rfl rfl (by decide +kernel) ⟨Nat.le_of_ble_eq_true rfl, Nat.le_of_ble_eq_true rfl⟩) rfl rfl hc hs dL_law_539 ?_
  exact V_icmp_eqT dL_law_542 rfl w
theorem L_senderOf (hi : i + 4 ≤ D.2.2.2.1) (hL : D.2.2.2.1 ≤ 2048) (hc : cells ≤ 600000) (hs : slots ≤ 7302250) (H : GR z0 σ) (ih : ∀ τ, GR z0 τ → ∃ τ2, VL D z0 l 913 (LSl D z0 i) [] τ cells slots τ2) : ∃ τ2, VL D z0 l 547 (LSl D z0 i) [] σ cells slots τ2 := by
  obtain ⟨v, σ1, σ2, e1, e2, e3, H2⟩ := P_senderOf H (D.2.2.2.2 (i + 1)) (D.2.2.2.2 (i + 2))
  obtain ⟨τ2, w⟩ := ih σ2 H2
  refine ⟨τ2, ?_⟩
  refine V_aload_n (x := some z0) dL_law_547 rfl ?_
  refine V_aload_n (x := some D.2.2.1) dL_law_548 rfl ?_
  refine V_iload_n (x := nI i) dL_law_549 rfl ?_
  refine V_iconst (v := nI 1) dL_law_550 rfl ?_
  refine V_iadd dL_law_551 ?_
  rw [nI_add]
  refine V_scrP (i := i + 1) (by omega) hL dL_law_552 ?_
  refine V_aload_n (x := some D.2.2.1) dL_law_553 rfl ?_
  refine V_iload_n (x := nI i) dL_law_554 rfl ?_
  refine V_iconst (v := nI 2) dL_law_555 rfl ?_
  refine V_iadd dL_law_556 ?_
  rw [nI_add]
  refine V_scrP (i := i + 2) (by omega) hL dL_law_557 ?_
  refine V_callP (As := [.int (D.2.2.2.2 (i + 1)), .int (D.2.2.2.2 (i + 2))]) (st0 := []) (stI := [.int (D.2.2.2.2 (i + 2)), .int (D.2.2.2.2 (i + 1)), .ref z0]) (t_X8_senderOf _ (D.2.2.2.2 (i + 1)) (D.2.2.2.2 (i + 2)) σ) e1 (GR_x H) (q := (RX8, TX8, 6)) rfl rfl rfl (Nat.le_of_ble_eq_true rfl) rfl (fun s args hts => cwV 2 hts gL_law_X8_senderOf rfl rfl rfl (by decide +kernel) ⟨Nat.le_of_ble_eq_true rfl, Nat.le_of_ble_eq_true rfl⟩) rfl rfl hc hs dL_law_558 ?_
  refine V_aload_n (x := some (z0 + 257)) dL_law_561 rfl ?_
  refine V_aload_n (x := some D.2.2.1) dL_law_562 rfl ?_
  refine V_iload_n (x := nI i) dL_law_563 rfl ?_
  refine V_iconst (v := nI 1) dL_law_564 rfl ?_
  refine V_iadd dL_law_565 ?_
  rw [nI_add]
  refine V_scrP (i := i + 1) (by omega) hL dL_law_566 ?_
  refine V_aload_n (x := some D.2.2.1) dL_law_567 rfl ?_
  refine V_iload_n (x := nI i) dL_law_568 rfl ?_
  refine V_iconst (v := nI 2) dL_law_569 rfl ?_
  refine V_iadd dL_law_570 ?_
  rw [nI_add]
  refine V_scrP (i := i + 2) (by omega) hL dL_law_571 ?_
  refine V_callP (As := [.int (D.2.2.2.2 (i + 1)), .int (D.2.2.2.2 (i + 2))]) (st0 := [.int v]) (stI := [.int (D.2.2.2.2 (i + 2)), .int (D.2.2.2.2 (i + 1)), .ref (z0 + 257), .int v]) (t_X9_senderOf _ (D.2.2.2.2 (i + 1)) (D.2.2.2.2 (i + 2)) σ1) e2 e3 (q := (RX9, TX9, 15)) rfl rfl rfl (Nat.le_of_ble_eq_true rfl) rfl (fun s args hts => cwV 2 hts gL_law_X9_senderOf rfl rfl rfl (by decide +kernel) ⟨Nat.le_of_ble_eq_true rfl, Nat.le_of_ble_eq_true rfl⟩) rfl rfl hc hs dL_law_572 ?_
  exact V_icmp_eqT dL_law_575 rfl w
theorem L_queued (hi : i + 4 ≤ D.2.2.2.1) (hL : D.2.2.2.1 ≤ 2048) (hc : cells ≤ 600000) (hs : slots ≤ 7302250) (H : GR z0 σ) (ih : ∀ τ, GR z0 τ → ∃ τ2, VL D z0 l 913 (LSl D z0 i) [] τ cells slots τ2) : ∃ τ2, VL D z0 l 580 (LSl D z0 i) [] σ cells slots τ2 := by
  obtain ⟨v, σ1, σ2, e1, e2, e3, H2⟩ := P_queued H (D.2.2.2.2 (i + 1)) (D.2.2.2.2 (i + 2))
  obtain ⟨τ2, w⟩ := ih σ2 H2
  refine ⟨τ2, ?_⟩
  refine V_aload_n (x := some z0) dL_law_580 rfl ?_
  refine V_aload_n (x := some D.2.2.1) dL_law_581 rfl ?_
  refine V_iload_n (x := nI i) dL_law_582 rfl ?_
  refine V_iconst (v := nI 1) dL_law_583 rfl ?_
  refine V_iadd dL_law_584 ?_
  rw [nI_add]
  refine V_scrP (i := i + 1) (by omega) hL dL_law_585 ?_
  refine V_aload_n (x := some D.2.2.1) dL_law_586 rfl ?_
  refine V_iload_n (x := nI i) dL_law_587 rfl ?_
  refine V_iconst (v := nI 2) dL_law_588 rfl ?_
  refine V_iadd dL_law_589 ?_
  rw [nI_add]
  refine V_scrP (i := i + 2) (by omega) hL dL_law_590 ?_
  refine V_callP (As := [.int (D.2.2.2.2 (i + 1)), .int (D.2.2.2.2 (i + 2))]) (st0 := []) (stI := [.int (D.2.2.2.2 (i + 2)), .int (D.2.2.2.2 (i + 1)), .ref z0]) (t_X8_queued _ (D.2.2.2.2 (i + 1)) (D.2.2.2.2 (i + 2)) σ) e1 (GR_x H) (q := (RX8, TX8, 6)) rfl rfl rfl (Nat.le_of_ble_eq_true rfl) rfl (fun s args hts => cwV 2 hts gL_law_X8_queued rfl rfl rfl (by decide +kernel) ⟨Nat.le_of_ble_eq_true rfl, Nat.le_of_ble_eq_true rfl⟩) rfl rfl hc hs dL_law_591 ?_
  refine V_aload_n (x := some (z0 + 257)) dL_law_594 rfl ?_
  refine V_aload_n (x := some D.2.2.1) dL_law_595 rfl ?_
  refine V_iload_n (x := nI i) dL_law_596 rfl ?_
  refine V_iconst (v := nI 1) dL_law_597 rfl ?_
  refine V_iadd dL_law_598 ?_
  rw [nI_add]
  refine V_scrP (i := i + 1) (by omega) hL dL_law_599 ?_
  refine V_aload_n (x := some D.2.2.1) dL_law_600 rfl ?_
  refine V_iload_n (x := nI i) dL_law_601 rfl ?_
  refine V_iconst (v := nI 2) dL_law_602 rfl ?_
  refine V_iadd dL_law_603 ?_
  rw [nI_add]
  refine V_scrP (i := i + 2) (by omega) hL dL_law_604 ?_
  refine V_callP (As := [.int (D.2.2.2.2 (i + 1)), .int (D.2.2.2.2 (i + 2))]) (st0 := [.int v]) (stI := [.int (D.2.2.2.2 (i + 2)), .int (D.2.2.2.2 (i + 1)), .ref (z0 + 257), .int v]) (t_X9_queued _ (D.2.2.2.2 (i + 1)) (D.2.2.2.2 (i + 2)) σ1) e2 e3 (q := (RX9, TX9, 15)) rfl rfl rfl (Nat.le_of_ble_eq_true rfl) rfl (fun s args hts => cwV 2 hts gL_law_X9_queued rfl rfl rfl (by decide +kernel) ⟨Nat.le_of_ble_eq_true rfl, Nat.le_of_ble_eq_true rfl⟩) rfl rfl hc hs dL_law_605 ?_
  exact V_icmp_eqT dL_law_608 rfl w
theorem L_machineOf (hi : i + 4 ≤ D.2.2.2.1) (hL : D.2.2.2.1 ≤ 2048) (hc : cells ≤ 600000) (hs : slots ≤ 7302250) (H : GR z0 σ) (ih : ∀ τ, GR z0 τ → ∃ τ2, VL D z0 l 913 (LSl D z0 i) [] τ cells slots τ2) : ∃ τ2, VL D z0 l 613 (LSl D z0 i) [] σ cells slots τ2 := by
  obtain ⟨v, σ1, σ2, e1, e2, e3, H2⟩ := P_machineOf H (D.2.2.2.2 (i + 1)) (D.2.2.2.2 (i + 2))
  obtain ⟨τ2, w⟩ := ih σ2 H2
  refine ⟨τ2, ?_⟩
  refine V_aload_n (x := some z0) dL_law_613 rfl ?_
  refine V_aload_n (x := some D.2.2.1) dL_law_614 rfl ?_
  refine V_iload_n (x := nI i) dL_law_615 rfl ?_
  refine V_iconst (v := nI 1) dL_law_616 rfl ?_
  refine V_iadd dL_law_617 ?_
  rw [nI_add]
  refine V_scrP (i := i + 1) (by omega) hL dL_law_618 ?_
  refine V_aload_n (x := some D.2.2.1) dL_law_619 rfl ?_
  refine V_iload_n (x := nI i) dL_law_620 rfl ?_
  refine V_iconst (v := nI 2) dL_law_621 rfl ?_
  refine V_iadd dL_law_622 ?_
  rw [nI_add]
  refine V_scrP (i := i + 2) (by omega) hL dL_law_623 ?_
  refine V_callP (As := [.int (D.2.2.2.2 (i + 1)), .int (D.2.2.2.2 (i + 2))]) (st0 := []) (stI := [.int (D.2.2.2.2 (i + 2)), .int (D.2.2.2.2 (i + 1)), .ref z0]) (t_X8_machineOf _ (D.2.2.2.2 (i + 1)) (D.2.2.2.2 (i + 2)) σ) e1 (GR_x H) (q := (RX8, TX8, 6)) rfl rfl rfl (Nat.le_of_ble_eq_true rfl) rfl (fun s args hts => cwV 2 hts gL_law_X8_machineOf rfl rfl rfl (by decide +kernel) ⟨Nat.le_of_ble_eq_true rfl, Nat.le_of_ble_eq_true rfl⟩) rfl rfl hc hs dL_law_624 ?_
  refine V_aload_n (x := some (z0 + 257)) dL_law_627 rfl ?_
  refine V_aload_n (x := some D.2.2.1) dL_law_628 rfl ?_
  refine V_iload_n (x := nI i) dL_law_629 rfl ?_
  refine V_iconst (v := nI 1) dL_law_630 rfl ?_
  refine V_iadd dL_law_631 ?_
  rw [nI_add]
  refine V_scrP (i := i + 1) (by omega) hL dL_law_632 ?_
  refine V_aload_n (x := some D.2.2.1) dL_law_633 rfl ?_
  refine V_iload_n (x := nI i) dL_law_634 rfl ?_
  refine V_iconst (v := nI 2) dL_law_635 rfl ?_
  refine V_iadd dL_law_636 ?_
  rw [nI_add]
  refine V_scrP (i := i + 2) (by omega) hL dL_law_637 ?_
  refine V_callP (As := [.int (D.2.2.2.2 (i + 1)), .int (D.2.2.2.2 (i + 2))]) (st0 := [.int v]) (stI := [.int (D.2.2.2.2 (i + 2)), .int (D.2.2.2.2 (i + 1)), .ref (z0 + 257), .int v]) (t_X9_machineOf _ (D.2.2.2.2 (i + 1)) (D.2.2.2.2 (i + 2)) σ1) e2 e3 (q := (RX9, TX9, 15)) rfl rfl rfl (Nat.le_of_ble_eq_true rfl) rfl (fun s args hts => cwV 2 hts gL_law_X9_machineOf rfl rfl rfl (by decide +kernel) ⟨Nat.le_of_ble_eq_true rfl, Nat.le_of_ble_eq_true rfl⟩) rfl rfl hc hs dL_law_638 ?_
  exact V_icmp_eqT dL_law_641 rfl w
theorem L_lampOf (hi : i + 4 ≤ D.2.2.2.1) (hL : D.2.2.2.1 ≤ 2048) (hc : cells ≤ 600000) (hs : slots ≤ 7302250) (H : GR z0 σ) (ih : ∀ τ, GR z0 τ → ∃ τ2, VL D z0 l 913 (LSl D z0 i) [] τ cells slots τ2) : ∃ τ2, VL D z0 l 646 (LSl D z0 i) [] σ cells slots τ2 := by
  obtain ⟨v, σ1, σ2, e1, e2, e3, H2⟩ := P_lampOf H (D.2.2.2.2 (i + 1)) (D.2.2.2.2 (i + 2))
  obtain ⟨τ2, w⟩ := ih σ2 H2
  refine ⟨τ2, ?_⟩
  refine V_aload_n (x := some z0) dL_law_646 rfl ?_
  refine V_aload_n (x := some D.2.2.1) dL_law_647 rfl ?_
  refine V_iload_n (x := nI i) dL_law_648 rfl ?_
  refine V_iconst (v := nI 1) dL_law_649 rfl ?_
  refine V_iadd dL_law_650 ?_
  rw [nI_add]
  refine V_scrP (i := i + 1) (by omega) hL dL_law_651 ?_
  refine V_aload_n (x := some D.2.2.1) dL_law_652 rfl ?_
  refine V_iload_n (x := nI i) dL_law_653 rfl ?_
  refine V_iconst (v := nI 2) dL_law_654 rfl ?_
  refine V_iadd dL_law_655 ?_
  rw [nI_add]
  refine V_scrP (i := i + 2) (by omega) hL dL_law_656 ?_
  refine V_callP (As := [.int (D.2.2.2.2 (i + 1)), .int (D.2.2.2.2 (i + 2))]) (st0 := []) (stI := [.int (D.2.2.2.2 (i + 2)), .int (D.2.2.2.2 (i + 1)), .ref z0]) (t_X8_lampOf _ (D.2.2.2.2 (i + 1)) (D.2.2.2.2 (i + 2)) σ) e1 (GR_x H) (q := (RX8, TX8, 6)) rfl rfl rfl (Nat.le_of_ble_eq_true rfl) rfl (fun s args hts => cwV 2 hts gL_law_X8_lampOf rfl rfl rfl (by decide +kernel) ⟨Nat.le_of_ble_eq_true rfl, Nat.le_of_ble_eq_true rfl⟩) rfl rfl hc hs dL_law_657 ?_
  refine V_aload_n (x := some (z0 + 257)) dL_law_660 rfl ?_
  refine V_aload_n (x := some D.2.2.1) dL_law_661 rfl ?_
  refine V_iload_n (x := nI i) dL_law_662 rfl ?_
  refine V_iconst (v := nI 1) dL_law_663 rfl ?_
  refine V_iadd dL_law_664 ?_
  rw [nI_add]
  refine V_scrP (i := i + 1) (by omega) hL dL_law_665 ?_
  refine V_aload_n (x := some D.2.2.1) dL_law_666 rfl ?_
  refine V_iload_n (x := nI i) dL_law_667 rfl ?_
  refine V_iconst (v := nI 2) dL_law_668 rfl ?_
  refine V_iadd dL_law_669 ?_
  rw [nI_add]
  refine V_scrP (i := i + 2) (by omega) hL dL_law_670 ?_
  refine V_callP (As := [.int (D.2.2.2.2 (i + 1)), .int (D.2.2.2.2 (i + 2))]) (st0 := [.int v]) (stI := [.int (D.2.2.2.2 (i + 2)), .int (D.2.2.2.2 (i + 1)), .ref (z0 + 257), .int v]) (t_X9_lampOf _ (D.2.2.2.2 (i + 1)) (D.2.2.2.2 (i + 2)) σ1) e2 e3 (q := (RX9, TX9, 15)) rfl rfl rfl (Nat.le_of_ble_eq_true rfl) rfl (fun s args hts => cwV 2 hts gL_law_X9_lampOf rfl rfl rfl (by decide +kernel) ⟨Nat.le_of_ble_eq_true rfl, Nat.le_of_ble_eq_true rfl⟩) rfl rfl hc hs dL_law_671 ?_
  exact V_icmp_eqT dL_law_674 rfl w
theorem L_receiver (hi : i + 4 ≤ D.2.2.2.1) (hL : D.2.2.2.1 ≤ 2048) (hc : cells ≤ 600000) (hs : slots ≤ 7302250) (H : GR z0 σ) (ih : ∀ τ, GR z0 τ → ∃ τ2, VL D z0 l 913 (LSl D z0 i) [] τ cells slots τ2) : ∃ τ2, VL D z0 l 679 (LSl D z0 i) [] σ cells slots τ2 := by
  obtain ⟨v, σ1, σ2, e1, e2, e3, H2⟩ := P_receiver H (D.2.2.2.2 (i + 1)) (D.2.2.2.2 (i + 2))
  obtain ⟨τ2, w⟩ := ih σ2 H2
  refine ⟨τ2, ?_⟩
  refine V_aload_n (x := some z0) dL_law_679 rfl ?_
  refine V_aload_n (x := some D.2.2.1) dL_law_680 rfl ?_
  refine V_iload_n (x := nI i) dL_law_681 rfl ?_
  refine V_iconst (v := nI 1) dL_law_682 rfl ?_
  refine V_iadd dL_law_683 ?_
  rw [nI_add]
  refine V_scrP (i := i + 1) (by omega) hL dL_law_684 ?_
  refine V_aload_n (x := some D.2.2.1) dL_law_685 rfl ?_
  refine V_iload_n (x := nI i) dL_law_686 rfl ?_
  refine V_iconst (v := nI 2) dL_law_687 rfl ?_
  refine V_iadd dL_law_688 ?_
  rw [nI_add]
  refine V_scrP (i := i + 2) (by omega) hL dL_law_689 ?_
  refine V_callP (As := [.int (D.2.2.2.2 (i + 1)), .int (D.2.2.2.2 (i + 2))]) (st0 := []) (stI := [.int (D.2.2.2.2 (i + 2)), .int (D.2.2.2.2 (i + 1)), .ref z0]) (t_X8_receiver _ (D.2.2.2.2 (i + 1)) (D.2.2.2.2 (i + 2)) σ) e1 (GR_x H) (q := (RX8, TX8, 6)) rfl rfl rfl (Nat.le_of_ble_eq_true rfl) rfl (fun s args hts => cwV 2 hts gL_law_X8_receiver rfl rfl rfl (by decide +kernel) ⟨Nat.le_of_ble_eq_true rfl, Nat.le_of_ble_eq_true rfl⟩) rfl rfl hc hs dL_law_690 ?_
  refine V_aload_n (x := some (z0 + 257)) dL_law_693 rfl ?_
  refine V_aload_n (x := some D.2.2.1) dL_law_694 rfl ?_
  refine V_iload_n (x := nI i) dL_law_695 rfl ?_
  refine V_iconst (v := nI 1) dL_law_696 rfl ?_
  refine V_iadd dL_law_697 ?_
  rw [nI_add]
  refine V_scrP (i := i + 1) (by omega) hL dL_law_698 ?_
  refine V_aload_n (x := some D.2.2.1) dL_law_699 rfl ?_
  refine V_iload_n (x := nI i) dL_law_700 rfl ?_
  refine V_iconst (v := nI 2) dL_law_701 rfl ?_
  refine V_iadd dL_law_702 ?_
  rw [nI_add]
  refine V_scrP (i := i + 2) (by omega) hL dL_law_703 ?_
  refine V_callP (As := [.int (D.2.2.2.2 (i + 1)), .int (D.2.2.2.2 (i + 2))]) (st0 := [.int v]) (stI := [.int (D.2.2.2.2 (i + 2)), .int (D.2.2.2.2 (i + 1)), .ref (z0 + 257), .int v]) (t_X9_receiver _ (D.2.2.2.2 (i + 1)) (D.2.2.2.2 (i + 2)) σ1) e2 e3 (q := (RX9, TX9, 15)) rfl rfl rfl (Nat.le_of_ble_eq_true rfl) rfl (fun s args hts => cwV 2 hts gL_law_X9_receiver rfl rfl rfl (by decide +kernel) ⟨Nat.le_of_ble_eq_true rfl, Nat.le_of_ble_eq_true rfl⟩) rfl rfl hc hs dL_law_704 ?_
  exact V_icmp_eqT dL_law_707 rfl w
theorem L_frame (hi : i + 4 ≤ D.2.2.2.1) (hL : D.2.2.2.1 ≤ 2048) (hc : cells ≤ 600000) (hs : slots ≤ 7302250) (H : GR z0 σ) (ih : ∀ τ, GR z0 τ → ∃ τ2, VL D z0 l 913 (LSl D z0 i) [] τ cells slots τ2) : ∃ τ2, VL D z0 l 712 (LSl D z0 i) [] σ cells slots τ2 := by
  obtain ⟨v, σ1, σ2, e1, e2, e3, H2⟩ := P_frame H (D.2.2.2.2 (i + 1)) (D.2.2.2.2 (i + 2))
  obtain ⟨τ2, w⟩ := ih σ2 H2
  refine ⟨τ2, ?_⟩
  refine V_aload_n (x := some z0) dL_law_712 rfl ?_
  refine V_aload_n (x := some D.2.2.1) dL_law_713 rfl ?_
  refine V_iload_n (x := nI i) dL_law_714 rfl ?_
  refine V_iconst (v := nI 1) dL_law_715 rfl ?_
  refine V_iadd dL_law_716 ?_
  rw [nI_add]
  refine V_scrP (i := i + 1) (by omega) hL dL_law_717 ?_
  refine V_aload_n (x := some D.2.2.1) dL_law_718 rfl ?_
  refine V_iload_n (x := nI i) dL_law_719 rfl ?_
  refine V_iconst (v := nI 2) dL_law_720 rfl ?_
  refine V_iadd dL_law_721 ?_
  rw [nI_add]
  refine V_scrP (i := i + 2) (by omega) hL dL_law_722 ?_
  refine V_callP (As := [.int (D.2.2.2.2 (i + 1)), .int (D.2.2.2.2 (i + 2))]) (st0 := []) (stI := [.int (D.2.2.2.2 (i + 2)), .int (D.2.2.2.2 (i + 1)), .ref z0]) (t_X8_frame _ (D.2.2.2.2 (i + 1)) (D.2.2.2.2 (i + 2)) σ) e1 (GR_x H) (q := (RX8, TX8, 6)) rfl rfl rfl (Nat.le_of_ble_eq_true rfl) rfl (fun s args hts => cwV 2 hts gL_law_X8_frame rfl rfl rfl (by decide +kernel) ⟨Nat.le_of_ble_eq_true rfl, Nat.le_of_ble_eq_true rfl⟩) rfl rfl hc hs dL_law_723 ?_
  refine V_aload_n (x := some (z0 + 257)) dL_law_726 rfl ?_
  refine V_aload_n (x := some D.2.2.1) dL_law_727 rfl ?_
  refine V_iload_n (x := nI i) dL_law_728 rfl ?_
  refine V_iconst (v := nI 1) dL_law_729 rfl ?_
  refine V_iadd dL_law_730 ?_
  rw [nI_add]
  refine V_scrP (i := i + 1) (by omega) hL dL_law_731 ?_
  refine V_aload_n (x := some D.2.2.1) dL_law_732 rfl ?_
  refine V_iload_n (x := nI i) dL_law_733 rfl ?_
  refine V_iconst (v := nI 2) dL_law_734 rfl ?_
  refine V_iadd dL_law_735 ?_
  rw [nI_add]
  refine V_scrP (i := i + 2) (by omega) hL dL_law_736 ?_
  refine V_callP (As := [.int (D.2.2.2.2 (i + 1)), .int (D.2.2.2.2 (i + 2))]) (st0 := [.int v]) (stI := [.int (D.2.2.2.2 (i + 2)), .int (D.2.2.2.2 (i + 1)), .ref (z0 + 257), .int v]) (t_X9_frame _ (D.2.2.2.2 (i + 1)) (D.2.2.2.2 (i + 2)) σ1) e2 e3 (q := (RX9, TX9, 15)) rfl rfl rfl (Nat.le_of_ble_eq_true rfl) rfl (fun s args hts => cwV 2 hts gL_law_X9_frame rfl rfl rfl (by decide +kernel) ⟨Nat.le_of_ble_eq_true rfl, Nat.le_of_ble_eq_true rfl⟩) rfl rfl hc hs dL_law_737 ?_
  exact V_icmp_eqT dL_law_740 rfl w
theorem L_loss (hi : i + 4 ≤ D.2.2.2.1) (hL : D.2.2.2.1 ≤ 2048) (hc : cells ≤ 600000) (hs : slots ≤ 7302250) (H : GR z0 σ) (ih : ∀ τ, GR z0 τ → ∃ τ2, VL D z0 l 913 (LSl D z0 i) [] τ cells slots τ2) : ∃ τ2, VL D z0 l 745 (LSl D z0 i) [] σ cells slots τ2 := by
  obtain ⟨v, σ1, σ2, e1, e2, e3, H2⟩ := P_loss H (D.2.2.2.2 (i + 1)) (D.2.2.2.2 (i + 2))
  obtain ⟨τ2, w⟩ := ih σ2 H2
  refine ⟨τ2, ?_⟩
  refine V_aload_n (x := some z0) dL_law_745 rfl ?_
  refine V_aload_n (x := some D.2.2.1) dL_law_746 rfl ?_
  refine V_iload_n (x := nI i) dL_law_747 rfl ?_
  refine V_iconst (v := nI 1) dL_law_748 rfl ?_
  refine V_iadd dL_law_749 ?_
  rw [nI_add]
  refine V_scrP (i := i + 1) (by omega) hL dL_law_750 ?_
  refine V_aload_n (x := some D.2.2.1) dL_law_751 rfl ?_
  refine V_iload_n (x := nI i) dL_law_752 rfl ?_
  refine V_iconst (v := nI 2) dL_law_753 rfl ?_
  refine V_iadd dL_law_754 ?_
  rw [nI_add]
  refine V_scrP (i := i + 2) (by omega) hL dL_law_755 ?_
  refine V_callP (As := [.int (D.2.2.2.2 (i + 1)), .int (D.2.2.2.2 (i + 2))]) (st0 := []) (stI := [.int (D.2.2.2.2 (i + 2)), .int (D.2.2.2.2 (i + 1)), .ref z0]) (t_X8_loss _ (D.2.2.2.2 (i + 1)) (D.2.2.2.2 (i + 2)) σ) e1 (GR_x H) (q := (RX8, TX8, 6)) rfl rfl rfl (Nat.le_of_ble_eq_true rfl) rfl (fun s args hts => cwV 2 hts gL_law_X8_loss rfl rfl rfl (by decide +kernel) ⟨Nat.le_of_ble_eq_true rfl, Nat.le_of_ble_eq_true rfl⟩) rfl rfl hc hs dL_law_756 ?_
  refine V_aload_n (x := some (z0 + 257)) dL_law_759 rfl ?_
  refine V_aload_n (x := some D.2.2.1) dL_law_760 rfl ?_
  refine V_iload_n (x := nI i) dL_law_761 rfl ?_
  refine V_iconst (v := nI 1) dL_law_762 rfl ?_
  refine V_iadd dL_law_763 ?_
  rw [nI_add]
  refine V_scrP (i := i + 1) (by omega) hL dL_law_764 ?_
  refine V_aload_n (x := some D.2.2.1) dL_law_765 rfl ?_
  refine V_iload_n (x := nI i) dL_law_766 rfl ?_
  refine V_iconst (v := nI 2) dL_law_767 rfl ?_
  refine V_iadd dL_law_768 ?_
  rw [nI_add]
  refine V_scrP (i := i + 2) (by omega) hL dL_law_769 ?_
  refine V_callP (As := [.int (D.2.2.2.2 (i + 1)), .int (D.2.2.2.2 (i + 2))]) (st0 := [.int v]) (stI := [.int (D.2.2.2.2 (i + 2)), .int (D.2.2.2.2 (i + 1)), .ref (z0 + 257), .int v]) (t_X9_loss _ (D.2.2.2.2 (i + 1)) (D.2.2.2.2 (i + 2)) σ1) e2 e3 (q := (RX9, TX9, 15)) rfl rfl rfl (Nat.le_of_ble_eq_true rfl) rfl (fun s args hts => cwV 2 hts gL_law_X9_loss rfl rfl rfl (by decide +kernel) ⟨Nat.le_of_ble_eq_true rfl, Nat.le_of_ble_eq_true rfl⟩) rfl rfl hc hs dL_law_770 ?_
  exact V_icmp_eqT dL_law_773 rfl w
theorem L_count (hi : i + 4 ≤ D.2.2.2.1) (hL : D.2.2.2.1 ≤ 2048) (hc : cells ≤ 600000) (hs : slots ≤ 7302250) (H : GR z0 σ) (ih : ∀ τ, GR z0 τ → ∃ τ2, VL D z0 l 913 (LSl D z0 i) [] τ cells slots τ2) : ∃ τ2, VL D z0 l 778 (LSl D z0 i) [] σ cells slots τ2 := by
  obtain ⟨v, σ1, σ2, e1, e2, e3, H2⟩ := P_count H (D.2.2.2.2 (i + 1))
  obtain ⟨τ2, w⟩ := ih σ2 H2
  refine ⟨τ2, ?_⟩
  refine V_aload_n (x := some z0) dL_law_778 rfl ?_
  refine V_aload_n (x := some D.2.2.1) dL_law_779 rfl ?_
  refine V_iload_n (x := nI i) dL_law_780 rfl ?_
  refine V_iconst (v := nI 1) dL_law_781 rfl ?_
  refine V_iadd dL_law_782 ?_
  rw [nI_add]
  refine V_scrP (i := i + 1) (by omega) hL dL_law_783 ?_
  refine V_callP (As := [.int (D.2.2.2.2 (i + 1))]) (st0 := []) (stI := [.int (D.2.2.2.2 (i + 1)), .ref z0]) (t_X8_count _ (D.2.2.2.2 (i + 1)) σ) e1 (GR_x H) (q := (RX8, TX8, 6)) rfl rfl rfl (Nat.le_of_ble_eq_true rfl) rfl (fun s args hts => cwV 1 hts gL_law_X8_count rfl rfl rfl (by decide +kernel) ⟨Nat.le_of_ble_eq_true rfl, Nat.le_of_ble_eq_true rfl⟩) rfl rfl hc hs dL_law_784 ?_
  refine V_aload_n (x := some (z0 + 257)) dL_law_787 rfl ?_
  refine V_aload_n (x := some D.2.2.1) dL_law_788 rfl ?_
  refine V_iload_n (x := nI i) dL_law_789 rfl ?_
  refine V_iconst (v := nI 1) dL_law_790 rfl ?_
  refine V_iadd dL_law_791 ?_
  rw [nI_add]
  refine V_scrP (i := i + 1) (by omega) hL dL_law_792 ?_
  refine V_callP (As := [.int (D.2.2.2.2 (i + 1))]) (st0 := [.int v]) (stI := [.int (D.2.2.2.2 (i + 1)), .ref (z0 + 257), .int v]) (t_X9_count _ (D.2.2.2.2 (i + 1)) σ1) e2 e3 (q := (RX9, TX9, 15)) rfl rfl rfl (Nat.le_of_ble_eq_true rfl) rfl (fun s args hts => cwV 1 hts gL_law_X9_count rfl rfl rfl (by decide +kernel) ⟨Nat.le_of_ble_eq_true rfl, Nat.le_of_ble_eq_true rfl⟩) rfl rfl hc hs dL_law_793 ?_
  exact V_icmp_eqT dL_law_796 rfl w
theorem L_total (hi : i + 4 ≤ D.2.2.2.1) (hL : D.2.2.2.1 ≤ 2048) (hc : cells ≤ 600000) (hs : slots ≤ 7302250) (H : GR z0 σ) (ih : ∀ τ, GR z0 τ → ∃ τ2, VL D z0 l 913 (LSl D z0 i) [] τ cells slots τ2) : ∃ τ2, VL D z0 l 801 (LSl D z0 i) [] σ cells slots τ2 := by
  obtain ⟨v, σ1, σ2, e1, e2, e3, H2⟩ := P_total H (D.2.2.2.2 (i + 1))
  obtain ⟨τ2, w⟩ := ih σ2 H2
  refine ⟨τ2, ?_⟩
  refine V_aload_n (x := some z0) dL_law_801 rfl ?_
  refine V_aload_n (x := some D.2.2.1) dL_law_802 rfl ?_
  refine V_iload_n (x := nI i) dL_law_803 rfl ?_
  refine V_iconst (v := nI 1) dL_law_804 rfl ?_
  refine V_iadd dL_law_805 ?_
  rw [nI_add]
  refine V_scrP (i := i + 1) (by omega) hL dL_law_806 ?_
  refine V_callP (As := [.int (D.2.2.2.2 (i + 1))]) (st0 := []) (stI := [.int (D.2.2.2.2 (i + 1)), .ref z0]) (t_X8_total _ (D.2.2.2.2 (i + 1)) σ) e1 (GR_x H) (q := (RX8, TX8, 6)) rfl rfl rfl (Nat.le_of_ble_eq_true rfl) rfl (fun s args hts => cwV 1 hts gL_law_X8_total rfl rfl rfl (by decide +kernel) ⟨Nat.le_of_ble_eq_true rfl, Nat.le_of_ble_eq_true rfl⟩) rfl rfl hc hs dL_law_807 ?_
  refine V_aload_n (x := some (z0 + 257)) dL_law_810 rfl ?_
  refine V_aload_n (x := some D.2.2.1) dL_law_811 rfl ?_
  refine V_iload_n (x := nI i) dL_law_812 rfl ?_
  refine V_iconst (v := nI 1) dL_law_813 rfl ?_
  refine V_iadd dL_law_814 ?_
  rw [nI_add]
  refine V_scrP (i := i + 1) (by omega) hL dL_law_815 ?_
  refine V_callP (As := [.int (D.2.2.2.2 (i + 1))]) (st0 := [.int v]) (stI := [.int (D.2.2.2.2 (i + 1)), .ref (z0 + 257), .int v]) (t_X9_total _ (D.2.2.2.2 (i + 1)) σ1) e2 e3 (q := (RX9, TX9, 15)) rfl rfl rfl (Nat.le_of_ble_eq_true rfl) rfl (fun s args hts => cwV 1 hts gL_law_X9_total rfl rfl rfl (by decide +kernel) ⟨Nat.le_of_ble_eq_true rfl, Nat.le_of_ble_eq_true rfl⟩) rfl rfl hc hs dL_law_816 ?_
  exact V_icmp_eqT dL_law_819 rfl w
theorem L_silentIn (hi : i + 4 ≤ D.2.2.2.1) (hL : D.2.2.2.1 ≤ 2048) (hc : cells ≤ 600000) (hs : slots ≤ 7302250) (H : GR z0 σ) (ih : ∀ τ, GR z0 τ → ∃ τ2, VL D z0 l 913 (LSl D z0 i) [] τ cells slots τ2) : ∃ τ2, VL D z0 l 824 (LSl D z0 i) [] σ cells slots τ2 := by
  obtain ⟨v, σ1, σ2, e1, e2, e3, H2⟩ := P_silentIn H 
  obtain ⟨τ2, w⟩ := ih σ2 H2
  refine ⟨τ2, ?_⟩
  refine V_aload_n (x := some z0) dL_law_824 rfl ?_
  refine V_callP (As := []) (st0 := []) (stI := [.ref z0]) (t_X8_silentIn _  σ) e1 (GR_x H) (q := (RX8, TX8, 6)) rfl rfl rfl (Nat.le_of_ble_eq_true rfl) rfl (fun s args hts => cwV 0 hts gL_law_X8_silentIn rfl rfl rfl (by decide +kernel) ⟨Nat.le_of_ble_eq_true rfl, Nat.le_of_ble_eq_true rfl⟩) rfl rfl hc hs dL_law_825 ?_
  refine V_aload_n (x := some (z0 + 257)) dL_law_828 rfl ?_
  refine V_callP (As := []) (st0 := [.int v]) (stI := [.ref (z0 + 257), .int v]) (t_X9_silentIn _  σ1) e2 e3 (q := (RX9, TX9, 15)) rfl rfl rfl (Nat.le_of_ble_eq_true rfl) rfl (fun s args hts => cwV 0 hts gL_law_X9_silentIn rfl rfl rfl (by decide +kernel) ⟨Nat.le_of_ble_eq_true rfl, Nat.le_of_ble_eq_true rfl⟩) rfl rfl hc hs dL_law_829 ?_
  exact V_icmp_eqT dL_law_832 rfl w
theorem L_levelIn (hi : i + 4 ≤ D.2.2.2.1) (hL : D.2.2.2.1 ≤ 2048) (hc : cells ≤ 600000) (hs : slots ≤ 7302250) (H : GR z0 σ) (ih : ∀ τ, GR z0 τ → ∃ τ2, VL D z0 l 913 (LSl D z0 i) [] τ cells slots τ2) : ∃ τ2, VL D z0 l 837 (LSl D z0 i) [] σ cells slots τ2 := by
  obtain ⟨v, σ1, σ2, e1, e2, e3, H2⟩ := P_levelIn H (D.2.2.2.2 (i + 1)) (D.2.2.2.2 (i + 2))
  obtain ⟨τ2, w⟩ := ih σ2 H2
  refine ⟨τ2, ?_⟩
  refine V_aload_n (x := some z0) dL_law_837 rfl ?_
  refine V_aload_n (x := some D.2.2.1) dL_law_838 rfl ?_
  refine V_iload_n (x := nI i) dL_law_839 rfl ?_
  refine V_iconst (v := nI 1) dL_law_840 rfl ?_
  refine V_iadd dL_law_841 ?_
  rw [nI_add]
  refine V_scrP (i := i + 1) (by omega) hL dL_law_842 ?_
  refine V_aload_n (x := some D.2.2.1) dL_law_843 rfl ?_
  refine V_iload_n (x := nI i) dL_law_844 rfl ?_
  refine V_iconst (v := nI 2) dL_law_845 rfl ?_
  refine V_iadd dL_law_846 ?_
  rw [nI_add]
  refine V_scrP (i := i + 2) (by omega) hL dL_law_847 ?_
  refine V_callP (As := [.int (D.2.2.2.2 (i + 1)), .int (D.2.2.2.2 (i + 2))]) (st0 := []) (stI := [.int (D.2.2.2.2 (i + 2)), .int (D.2.2.2.2 (i + 1)), .ref z0]) (t_X8_levelIn _ (D.2.2.2.2 (i + 1)) (D.2.2.2.2 (i + 2)) σ) e1 (GR_x H) (q := (RX8, TX8, 6)) rfl rfl rfl (Nat.le_of_ble_eq_true rfl) rfl (fun s args hts => cwV 2 hts gL_law_X8_levelIn rfl rfl rfl (by decide +kernel) ⟨Nat.le_of_ble_eq_true rfl, Nat.le_of_ble_eq_true rfl⟩) rfl rfl hc hs dL_law_848 ?_
  refine V_aload_n (x := some (z0 + 257)) dL_law_851 rfl ?_
  refine V_aload_n (x := some D.2.2.1) dL_law_852 rfl ?_
  refine V_iload_n (x := nI i) dL_law_853 rfl ?_
  refine V_iconst (v := nI 1) dL_law_854 rfl ?_
  refine V_iadd dL_law_855 ?_
  rw [nI_add]
  refine V_scrP (i := i + 1) (by omega) hL dL_law_856 ?_
  refine V_aload_n (x := some D.2.2.1) dL_law_857 rfl ?_
  refine V_iload_n (x := nI i) dL_law_858 rfl ?_
  refine V_iconst (v := nI 2) dL_law_859 rfl ?_
  refine V_iadd dL_law_860 ?_
  rw [nI_add]
  refine V_scrP (i := i + 2) (by omega) hL dL_law_861 ?_
  refine V_callP (As := [.int (D.2.2.2.2 (i + 1)), .int (D.2.2.2.2 (i + 2))]) (st0 := [.int v]) (stI := [.int (D.2.2.2.2 (i + 2)), .int (D.2.2.2.2 (i + 1)), .ref (z0 + 257), .int v]) (t_X9_levelIn _ (D.2.2.2.2 (i + 1)) (D.2.2.2.2 (i + 2)) σ1) e2 e3 (q := (RX9, TX9, 15)) rfl rfl rfl (Nat.le_of_ble_eq_true rfl) rfl (fun s args hts => cwV 2 hts gL_law_X9_levelIn rfl rfl rfl (by decide +kernel) ⟨Nat.le_of_ble_eq_true rfl, Nat.le_of_ble_eq_true rfl⟩) rfl rfl hc hs dL_law_862 ?_
  exact V_icmp_eqT dL_law_865 rfl w
theorem GR_xa (H : GR z0 σ) : ∃ fs, σ.1 z0 = some (.inl (7, fs)) := by
  obtain ⟨W, P, kp, h, tl, tx, r, g, H, O⟩ := H
  exact ⟨_, H.2.2.1⟩
theorem GR_ma (H : GR z0 σ) : ∃ fs, σ.1 (z0 + 257) = some (.inl (8, fs)) := by
  obtain ⟨W, P, kp, h, tl, tx, r, g, H, O⟩ := H
  exact ⟨_, H.2.2.2.2.2.2.2 0 (by decide)⟩
theorem L_freshness (hi : i + 4 ≤ D.2.2.2.1) (hL : D.2.2.2.1 ≤ 2048) (hc : cells ≤ 600000) (hs : slots ≤ 7302250) (H : GR z0 σ) (ih : ∀ τ, GR z0 τ → ∃ τ2, VL D z0 l 913 (LSl D z0 i) [] τ cells slots τ2) : ∃ τ2, VL D z0 l 870 (LSl D z0 i) [] σ cells slots τ2 := by
  obtain ⟨f, e1, e2, hn⟩ := P_freshness H
  obtain ⟨τ2, w⟩ := ih σ H
  obtain ⟨fs, hxa⟩ := GR_xa H
  obtain ⟨gs, hma⟩ := GR_ma H
  refine ⟨τ2, ?_⟩
  intro p e s m args below meth cd Hp locs arr r σ' X hz hR hS hLv hK
  obtain ⟨hx, hb, hml, hown, hts, hrt, hlk, hct, hE, hSF, hz0⟩ := id X
  refine lv_aload_n hx hb dL_law_870 rfl (hLv.at (i := 1) (v := .ref z0) rfl) ?_
  refine W_call (D := D) (z0 := z0) (toV' := tvF) (v := f) (σ1 := σ) (st0 := []) (va_runV (b := z0) (As := []) (rest := []) ⟨hx, hb, hml, hown, hts⟩ (t_X8_freshness z0 σ f σ e1) (cwV 0 hts gL_law_X8_freshness rfl rfl rfl (by decide +kernel) ⟨Nat.le_of_ble_eq_true rfl, Nat.le_of_ble_eq_true rfl⟩) ⟨PC.blind, hR.cls hE (q := (RX8, TX8, 6)) rfl hxa, PC.at hz hR hE hSF hS⟩ rfl rfl hLv.1.1 rfl (lv_room (Nat.le_of_ble_eq_true rfl)) dL_law_871 ⟨hc, hs⟩) hS rfl rfl (fun H1 L1 hz1 hR1 hS1 => ?_)
  refine lv_f2d hx hb dL_law_874 (fd_f2d hn) ?_
  have hl : lv_has arr 8 [(0, .ref D.2.2.1), (1, .ref z0), (2, .ref (z0 + 257)), (3, .int (nI i))] := hLv.1
  refine lv_dstore (lv' := [(4, .double (FP.f2d f)), (0, .ref D.2.2.1), (1, .ref z0), (2, .ref (z0 + 257)), (3, .int (nI i))]) hx hb dL_law_875 hl (by decide) rfl (fun ls1 hl1 => ?_)
  refine lv_aload_n hx hb dL_law_877 rfl (lv_at hl1 3 rfl) ?_
  refine W_call (D := D) (z0 := z0) (toV' := tvF) (v := f) (σ1 := σ) (st0 := []) (va_runV (b := z0 + 257) (As := []) (rest := []) ⟨hx, hb, hml, hown, hts⟩ (t_X9_freshness (z0 + 257) σ f σ e2) (cwV 0 hts gL_law_X9_freshness rfl rfl rfl (by decide +kernel) ⟨Nat.le_of_ble_eq_true rfl, Nat.le_of_ble_eq_true rfl⟩) ⟨PC.blind, hR1.cls hE (q := (RX9, TX9, 15)) rfl hma, PC.at hz1 hR1 hE hSF hS1⟩ rfl rfl hl1.1 rfl (lv_room (Nat.le_of_ble_eq_true rfl)) dL_law_878 ⟨hc, hs⟩) hS1 rfl rfl (fun H2 L2 hz2 hR2 hS2 => ?_)
  refine lv_f2d hx hb dL_law_881 (fd_f2d hn) ?_
  refine lv_dstore (lv' := [(6, .double (FP.f2d f)), (4, .double (FP.f2d f)), (0, .ref D.2.2.1), (1, .ref z0), (2, .ref (z0 + 257)), (3, .int (nI i))]) hx hb dL_law_882 hl1 (by decide) rfl (fun ls2 hl2 => ?_)
  refine lv_dload hx hb dL_law_884 (lv_at hl2 1 rfl) ?_
  refine lv_dload hx hb dL_law_886 (lv_at hl2 0 rfl) ?_
  refine lv_dcmp hx hb dL_law_888 ?_
  rw [fd_cmp (fd_f2d hn)]
  refine lv_if_eq hx hb dL_law_889 (tgt := 910) rfl (fun _ => ?_) (fun hn => absurd rfl hn)
  refine lv_goto hx hb dL_law_910 (tgt := 913) rfl ?_
  have hl3 : lv_has ls2 8 [(0, .ref D.2.2.1), (1, .ref z0), (2, .ref (z0 + 257)), (3, .int (nI i))] := lv_sub hl2 [2, 3, 4, 5] rfl
  exact w p e s m args below meth cd H2 _ ls2 r σ' X hz2 hR2 hS2 ⟨hl3, rfl, hLv.2.2⟩ hK
end LCASE
