theorem q124_188 : decode (zb 124) 188 = .ok (.aload_n 0, 1) := by decide +kernel
theorem q124_189 : decode (zb 124) 189 = .ok (.invokevirtual 59, 3) := by decide +kernel
theorem q124_192 : decode (zb 124) 192 = .ok (.return_, 1) := by decide +kernel
theorem q217_12 : decode (zb 217) 12 = .ok (.invokespecial 12, 3) := by decide +kernel
theorem q217_15 : decode (zb 217) 15 = .ok (.astore_n 2, 1) := by decide +kernel
theorem q217_16 : decode (zb 217) 16 = .ok (.iconst 0, 1) := by decide +kernel
theorem q217_17 : decode (zb 217) 17 = .ok (.istore_n 3, 1) := by decide +kernel
theorem zo_124 : zo 124 = 11 := by decide +kernel
theorem zret_124 : zret 124 = none := by decide +kernel
theorem gI_99 {I : Nat → Int → Int} {j : Int} : kI_0 I 99 j = 0 := rfl
/-! ===== the law's loop ===== -/
section A74
variable {I : Nat → Int → Int} {b : Bool} {S : Nat} {N i : Int} {J0 : Nat → Int → Int}
theorem w_keep {m : Nat} {as : List zV} {r : Option zV} {I1 : Nat → Int → Int} {b1 : Bool} (h : zrun m as (I, zRs b, 103, S) = some (r, (I1, zRs b1, 103, S))) : I1 899 = I 899 := by
  obtain ⟨n, hn⟩ := zX_some.mp h
  exact ((zev_kp n (Nat.le_refl _) hn).2.2.2 899 (Nat.le_refl _)).1
theorem w_0 (op : opOk 92 127 [vI (I 899 (i + 1))] I b S N J0) (h0 : 0 ≤ i) (h1 : i + 5 ≤ S) (hS : S ≤ 2560) : ∃ I2 b2, zX 217 156 [vR 899, vR 1, vR 87, vI i] [] (I, zRs b, 103, S) = zX 217 857 [vR 899, vR 1, vR 87, vI i] [] (I2, zRs b2, 103, S) ∧ Inv I2 b2 (N + 30000) J0 := by
  obtain ⟨r, I1, b1, I2, c1, c2, c3⟩ := op
  have ke := w_keep c1
  refine ⟨I2, b1, ?_, c3⟩
  refine (xAload_n d217_156 rfl).trans ?_
  refine (xAload_n d217_157 rfl).trans ?_
  refine (xIload_n d217_158 rfl).trans ?_
  refine (xIconst d217_159).trans ?_
  refine (xIadd d217_160).trans ?_
  rw [wr_id (a := i + 1) (by omega) (by omega)]
  refine (xIald (N := S) (I 899 (i + 1)) rfl d217_161 rfl (Or.inr (Nat.le_of_ble_eq_true rfl)) rfl).trans ?_
  rw [if_pos (by omega)]
  refine (xInvV [vR 1, vI (I 899 (i + 1))] [] d217_162 zo_217 zml_12_13 rfl rfl rfl (Or.inl ⟨rfl, (Nat.le_of_ble_eq_true rfl)⟩)).trans ?_
  rw [c1, Option.bind_some]
  simp only [zpush_s]
  refine (xAload_n d217_165 rfl).trans ?_
  refine (xAload_n d217_166 rfl).trans ?_
  refine (xIload_n d217_167 rfl).trans ?_
  refine (xIconst d217_168).trans ?_
  refine (xIadd d217_169).trans ?_
  rw [wr_id (a := i + 1) (by omega) (by omega)]
  refine (xIald (N := S) (I 899 (i + 1)) (by rw [ke]) d217_170 rfl (Or.inr (Nat.le_of_ble_eq_true rfl)) rfl).trans ?_
  rw [if_pos (by omega)]
  refine (xInvV [vR 87, vI (I 899 (i + 1))] [vI r] d217_171 zo_217 zml_12_17 rfl rfl rfl (Or.inl ⟨rfl, (Nat.le_of_ble_eq_true rfl)⟩)).trans ?_
  rw [c2, Option.bind_some]
  simp only [zpush_s]
  refine (xIcmpEq (t := 857) d217_174 rfl).trans ?_
  rw [if_pos rfl]
theorem w_1 (op : opOk 93 128 [vI (I 899 (i + 1))] I b S N J0) (h0 : 0 ≤ i) (h1 : i + 5 ≤ S) (hS : S ≤ 2560) : ∃ I2 b2, zX 217 179 [vR 899, vR 1, vR 87, vI i] [] (I, zRs b, 103, S) = zX 217 857 [vR 899, vR 1, vR 87, vI i] [] (I2, zRs b2, 103, S) ∧ Inv I2 b2 (N + 30000) J0 := by
  obtain ⟨r, I1, b1, I2, c1, c2, c3⟩ := op
  have ke := w_keep c1
  refine ⟨I2, b1, ?_, c3⟩
  refine (xAload_n d217_179 rfl).trans ?_
  refine (xAload_n d217_180 rfl).trans ?_
  refine (xIload_n d217_181 rfl).trans ?_
  refine (xIconst d217_182).trans ?_
  refine (xIadd d217_183).trans ?_
  rw [wr_id (a := i + 1) (by omega) (by omega)]
  refine (xIald (N := S) (I 899 (i + 1)) rfl d217_184 rfl (Or.inr (Nat.le_of_ble_eq_true rfl)) rfl).trans ?_
  rw [if_pos (by omega)]
  refine (xInvV [vR 1, vI (I 899 (i + 1))] [] d217_185 zo_217 zml_12_18 rfl rfl rfl (Or.inl ⟨rfl, (Nat.le_of_ble_eq_true rfl)⟩)).trans ?_
  rw [c1, Option.bind_some]
  simp only [zpush_s]
  refine (xAload_n d217_188 rfl).trans ?_
  refine (xAload_n d217_189 rfl).trans ?_
  refine (xIload_n d217_190 rfl).trans ?_
  refine (xIconst d217_191).trans ?_
  refine (xIadd d217_192).trans ?_
  rw [wr_id (a := i + 1) (by omega) (by omega)]
  refine (xIald (N := S) (I 899 (i + 1)) (by rw [ke]) d217_193 rfl (Or.inr (Nat.le_of_ble_eq_true rfl)) rfl).trans ?_
  rw [if_pos (by omega)]
  refine (xInvV [vR 87, vI (I 899 (i + 1))] [vI r] d217_194 zo_217 zml_12_21 rfl rfl rfl (Or.inl ⟨rfl, (Nat.le_of_ble_eq_true rfl)⟩)).trans ?_
  rw [c2, Option.bind_some]
  simp only [zpush_s]
  refine (xIcmpEq (t := 857) d217_197 rfl).trans ?_
  rw [if_pos rfl]
theorem w_2 (op : opOk 94 145 [] I b S N J0) (h0 : 0 ≤ i) (h1 : i + 5 ≤ S) (hS : S ≤ 2560) : ∃ I2 b2, zX 217 202 [vR 899, vR 1, vR 87, vI i] [] (I, zRs b, 103, S) = zX 217 857 [vR 899, vR 1, vR 87, vI i] [] (I2, zRs b2, 103, S) ∧ Inv I2 b2 (N + 30000) J0 := by
  obtain ⟨r, I1, b1, I2, c1, c2, c3⟩ := op
  have ke := w_keep c1
  refine ⟨I2, b1, ?_, c3⟩
  refine (xAload_n d217_202 rfl).trans ?_
  refine (xInvV [vR 1] [] d217_203 zo_217 zml_12_22 rfl rfl rfl (Or.inl ⟨rfl, (Nat.le_of_ble_eq_true rfl)⟩)).trans ?_
  rw [c1, Option.bind_some]
  simp only [zpush_s]
  refine (xAload_n d217_206 rfl).trans ?_
  refine (xInvV [vR 87] [vI r] d217_207 zo_217 zml_12_26 rfl rfl rfl (Or.inl ⟨rfl, (Nat.le_of_ble_eq_true rfl)⟩)).trans ?_
  rw [c2, Option.bind_some]
  simp only [zpush_s]
  refine (xIcmpEq (t := 857) d217_210 rfl).trans ?_
  rw [if_pos rfl]
theorem w_3 (op : opOk 95 147 [] I b S N J0) (h0 : 0 ≤ i) (h1 : i + 5 ≤ S) (hS : S ≤ 2560) : ∃ I2 b2, zX 217 215 [vR 899, vR 1, vR 87, vI i] [] (I, zRs b, 103, S) = zX 217 857 [vR 899, vR 1, vR 87, vI i] [] (I2, zRs b2, 103, S) ∧ Inv I2 b2 (N + 30000) J0 := by
  obtain ⟨r, I1, b1, I2, c1, c2, c3⟩ := op
  have ke := w_keep c1
  refine ⟨I2, b1, ?_, c3⟩
  refine (xAload_n d217_215 rfl).trans ?_
  refine (xInvV [vR 1] [] d217_216 zo_217 zml_12_27 rfl rfl rfl (Or.inl ⟨rfl, (Nat.le_of_ble_eq_true rfl)⟩)).trans ?_
  rw [c1, Option.bind_some]
  simp only [zpush_s]
  refine (xAload_n d217_219 rfl).trans ?_
  refine (xInvV [vR 87] [vI r] d217_220 zo_217 zml_12_30 rfl rfl rfl (Or.inl ⟨rfl, (Nat.le_of_ble_eq_true rfl)⟩)).trans ?_
  rw [c2, Option.bind_some]
  simp only [zpush_s]
  refine (xIcmpEq (t := 857) d217_223 rfl).trans ?_
  rw [if_pos rfl]
theorem w_4 (op : opOk 96 154 [vI (I 899 (i + 1))] I b S N J0) (h0 : 0 ≤ i) (h1 : i + 5 ≤ S) (hS : S ≤ 2560) : ∃ I2 b2, zX 217 228 [vR 899, vR 1, vR 87, vI i] [] (I, zRs b, 103, S) = zX 217 857 [vR 899, vR 1, vR 87, vI i] [] (I2, zRs b2, 103, S) ∧ Inv I2 b2 (N + 30000) J0 := by
  obtain ⟨r, I1, b1, I2, c1, c2, c3⟩ := op
  have ke := w_keep c1
  refine ⟨I2, b1, ?_, c3⟩
  refine (xAload_n d217_228 rfl).trans ?_
  refine (xAload_n d217_229 rfl).trans ?_
  refine (xIload_n d217_230 rfl).trans ?_
  refine (xIconst d217_231).trans ?_
  refine (xIadd d217_232).trans ?_
  rw [wr_id (a := i + 1) (by omega) (by omega)]
  refine (xIald (N := S) (I 899 (i + 1)) rfl d217_233 rfl (Or.inr (Nat.le_of_ble_eq_true rfl)) rfl).trans ?_
  rw [if_pos (by omega)]
  refine (xInvV [vR 1, vI (I 899 (i + 1))] [] d217_234 zo_217 zml_12_31 rfl rfl rfl (Or.inl ⟨rfl, (Nat.le_of_ble_eq_true rfl)⟩)).trans ?_
  rw [c1, Option.bind_some]
  simp only [zpush_s]
  refine (xAload_n d217_237 rfl).trans ?_
  refine (xAload_n d217_238 rfl).trans ?_
  refine (xIload_n d217_239 rfl).trans ?_
  refine (xIconst d217_240).trans ?_
  refine (xIadd d217_241).trans ?_
  rw [wr_id (a := i + 1) (by omega) (by omega)]
  refine (xIald (N := S) (I 899 (i + 1)) (by rw [ke]) d217_242 rfl (Or.inr (Nat.le_of_ble_eq_true rfl)) rfl).trans ?_
  rw [if_pos (by omega)]
  refine (xInvV [vR 87, vI (I 899 (i + 1))] [vI r] d217_243 zo_217 zml_12_34 rfl rfl rfl (Or.inl ⟨rfl, (Nat.le_of_ble_eq_true rfl)⟩)).trans ?_
  rw [c2, Option.bind_some]
  simp only [zpush_s]
  refine (xIcmpEq (t := 857) d217_246 rfl).trans ?_
  rw [if_pos rfl]
theorem w_5 (op : opOk 97 155 [vI (I 899 (i + 1))] I b S N J0) (h0 : 0 ≤ i) (h1 : i + 5 ≤ S) (hS : S ≤ 2560) : ∃ I2 b2, zX 217 251 [vR 899, vR 1, vR 87, vI i] [] (I, zRs b, 103, S) = zX 217 857 [vR 899, vR 1, vR 87, vI i] [] (I2, zRs b2, 103, S) ∧ Inv I2 b2 (N + 30000) J0 := by
  obtain ⟨r, I1, b1, I2, c1, c2, c3⟩ := op
  have ke := w_keep c1
  refine ⟨I2, b1, ?_, c3⟩
  refine (xAload_n d217_251 rfl).trans ?_
  refine (xAload_n d217_252 rfl).trans ?_
  refine (xIload_n d217_253 rfl).trans ?_
  refine (xIconst d217_254).trans ?_
  refine (xIadd d217_255).trans ?_
  rw [wr_id (a := i + 1) (by omega) (by omega)]
  refine (xIald (N := S) (I 899 (i + 1)) rfl d217_256 rfl (Or.inr (Nat.le_of_ble_eq_true rfl)) rfl).trans ?_
  rw [if_pos (by omega)]
  refine (xInvV [vR 1, vI (I 899 (i + 1))] [] d217_257 zo_217 zml_12_35 rfl rfl rfl (Or.inl ⟨rfl, (Nat.le_of_ble_eq_true rfl)⟩)).trans ?_
  rw [c1, Option.bind_some]
  simp only [zpush_s]
  refine (xAload_n d217_260 rfl).trans ?_
  refine (xAload_n d217_261 rfl).trans ?_
  refine (xIload_n d217_262 rfl).trans ?_
  refine (xIconst d217_263).trans ?_
  refine (xIadd d217_264).trans ?_
  rw [wr_id (a := i + 1) (by omega) (by omega)]
  refine (xIald (N := S) (I 899 (i + 1)) (by rw [ke]) d217_265 rfl (Or.inr (Nat.le_of_ble_eq_true rfl)) rfl).trans ?_
  rw [if_pos (by omega)]
  refine (xInvV [vR 87, vI (I 899 (i + 1))] [vI r] d217_266 zo_217 zml_12_38 rfl rfl rfl (Or.inl ⟨rfl, (Nat.le_of_ble_eq_true rfl)⟩)).trans ?_
  rw [c2, Option.bind_some]
  simp only [zpush_s]
  refine (xIcmpEq (t := 857) d217_269 rfl).trans ?_
  rw [if_pos rfl]
theorem w_6 (op : opOk 98 156 [vI (I 899 (i + 1)), vI (I 899 (i + 2))] I b S N J0) (h0 : 0 ≤ i) (h1 : i + 5 ≤ S) (hS : S ≤ 2560) : ∃ I2 b2, zX 217 274 [vR 899, vR 1, vR 87, vI i] [] (I, zRs b, 103, S) = zX 217 857 [vR 899, vR 1, vR 87, vI i] [] (I2, zRs b2, 103, S) ∧ Inv I2 b2 (N + 30000) J0 := by
  obtain ⟨r, I1, b1, I2, c1, c2, c3⟩ := op
  have ke := w_keep c1
  refine ⟨I2, b1, ?_, c3⟩
  refine (xAload_n d217_274 rfl).trans ?_
  refine (xAload_n d217_275 rfl).trans ?_
  refine (xIload_n d217_276 rfl).trans ?_
  refine (xIconst d217_277).trans ?_
  refine (xIadd d217_278).trans ?_
  rw [wr_id (a := i + 1) (by omega) (by omega)]
  refine (xIald (N := S) (I 899 (i + 1)) rfl d217_279 rfl (Or.inr (Nat.le_of_ble_eq_true rfl)) rfl).trans ?_
  rw [if_pos (by omega)]
  refine (xAload_n d217_280 rfl).trans ?_
  refine (xIload_n d217_281 rfl).trans ?_
  refine (xIconst d217_282).trans ?_
  refine (xIadd d217_283).trans ?_
  rw [wr_id (a := i + 2) (by omega) (by omega)]
  refine (xIald (N := S) (I 899 (i + 2)) rfl d217_284 rfl (Or.inr (Nat.le_of_ble_eq_true rfl)) rfl).trans ?_
  rw [if_pos (by omega)]
  refine (xInvV [vR 1, vI (I 899 (i + 1)), vI (I 899 (i + 2))] [] d217_285 zo_217 zml_12_39 rfl rfl rfl (Or.inl ⟨rfl, (Nat.le_of_ble_eq_true rfl)⟩)).trans ?_
  rw [c1, Option.bind_some]
  simp only [zpush_s]
  refine (xAload_n d217_288 rfl).trans ?_
  refine (xAload_n d217_289 rfl).trans ?_
  refine (xIload_n d217_290 rfl).trans ?_
  refine (xIconst d217_291).trans ?_
  refine (xIadd d217_292).trans ?_
  rw [wr_id (a := i + 1) (by omega) (by omega)]
  refine (xIald (N := S) (I 899 (i + 1)) (by rw [ke]) d217_293 rfl (Or.inr (Nat.le_of_ble_eq_true rfl)) rfl).trans ?_
  rw [if_pos (by omega)]
  refine (xAload_n d217_294 rfl).trans ?_
  refine (xIload_n d217_295 rfl).trans ?_
  refine (xIconst d217_296).trans ?_
  refine (xIadd d217_297).trans ?_
  rw [wr_id (a := i + 2) (by omega) (by omega)]
  refine (xIald (N := S) (I 899 (i + 2)) (by rw [ke]) d217_298 rfl (Or.inr (Nat.le_of_ble_eq_true rfl)) rfl).trans ?_
  rw [if_pos (by omega)]
  refine (xInvV [vR 87, vI (I 899 (i + 1)), vI (I 899 (i + 2))] [vI r] d217_299 zo_217 zml_12_43 rfl rfl rfl (Or.inl ⟨rfl, (Nat.le_of_ble_eq_true rfl)⟩)).trans ?_
  rw [c2, Option.bind_some]
  simp only [zpush_s]
  refine (xIcmpEq (t := 857) d217_302 rfl).trans ?_
  rw [if_pos rfl]
theorem w_7 (op : opOk 99 159 [vI (I 899 (i + 1)), vI (I 899 (i + 2))] I b S N J0) (h0 : 0 ≤ i) (h1 : i + 5 ≤ S) (hS : S ≤ 2560) : ∃ I2 b2, zX 217 307 [vR 899, vR 1, vR 87, vI i] [] (I, zRs b, 103, S) = zX 217 857 [vR 899, vR 1, vR 87, vI i] [] (I2, zRs b2, 103, S) ∧ Inv I2 b2 (N + 30000) J0 := by
  obtain ⟨r, I1, b1, I2, c1, c2, c3⟩ := op
  have ke := w_keep c1
  refine ⟨I2, b1, ?_, c3⟩
  refine (xAload_n d217_307 rfl).trans ?_
  refine (xAload_n d217_308 rfl).trans ?_
  refine (xIload_n d217_309 rfl).trans ?_
  refine (xIconst d217_310).trans ?_
  refine (xIadd d217_311).trans ?_
  rw [wr_id (a := i + 1) (by omega) (by omega)]
  refine (xIald (N := S) (I 899 (i + 1)) rfl d217_312 rfl (Or.inr (Nat.le_of_ble_eq_true rfl)) rfl).trans ?_
  rw [if_pos (by omega)]
  refine (xAload_n d217_313 rfl).trans ?_
  refine (xIload_n d217_314 rfl).trans ?_
  refine (xIconst d217_315).trans ?_
  refine (xIadd d217_316).trans ?_
  rw [wr_id (a := i + 2) (by omega) (by omega)]
  refine (xIald (N := S) (I 899 (i + 2)) rfl d217_317 rfl (Or.inr (Nat.le_of_ble_eq_true rfl)) rfl).trans ?_
  rw [if_pos (by omega)]
  refine (xInvV [vR 1, vI (I 899 (i + 1)), vI (I 899 (i + 2))] [] d217_318 zo_217 zml_12_44 rfl rfl rfl (Or.inl ⟨rfl, (Nat.le_of_ble_eq_true rfl)⟩)).trans ?_
  rw [c1, Option.bind_some]
  simp only [zpush_s]
  refine (xAload_n d217_321 rfl).trans ?_
  refine (xAload_n d217_322 rfl).trans ?_
  refine (xIload_n d217_323 rfl).trans ?_
  refine (xIconst d217_324).trans ?_
  refine (xIadd d217_325).trans ?_
  rw [wr_id (a := i + 1) (by omega) (by omega)]
  refine (xIald (N := S) (I 899 (i + 1)) (by rw [ke]) d217_326 rfl (Or.inr (Nat.le_of_ble_eq_true rfl)) rfl).trans ?_
  rw [if_pos (by omega)]
  refine (xAload_n d217_327 rfl).trans ?_
  refine (xIload_n d217_328 rfl).trans ?_
  refine (xIconst d217_329).trans ?_
  refine (xIadd d217_330).trans ?_
  rw [wr_id (a := i + 2) (by omega) (by omega)]
  refine (xIald (N := S) (I 899 (i + 2)) (by rw [ke]) d217_331 rfl (Or.inr (Nat.le_of_ble_eq_true rfl)) rfl).trans ?_
  rw [if_pos (by omega)]
  refine (xInvV [vR 87, vI (I 899 (i + 1)), vI (I 899 (i + 2))] [vI r] d217_332 zo_217 zml_12_47 rfl rfl rfl (Or.inl ⟨rfl, (Nat.le_of_ble_eq_true rfl)⟩)).trans ?_
  rw [c2, Option.bind_some]
  simp only [zpush_s]
  refine (xIcmpEq (t := 857) d217_335 rfl).trans ?_
  rw [if_pos rfl]
theorem w_8 (op : opOk 100 182 [vI (I 899 (i + 1))] I b S N J0) (h0 : 0 ≤ i) (h1 : i + 5 ≤ S) (hS : S ≤ 2560) : ∃ I2 b2, zX 217 340 [vR 899, vR 1, vR 87, vI i] [] (I, zRs b, 103, S) = zX 217 857 [vR 899, vR 1, vR 87, vI i] [] (I2, zRs b2, 103, S) ∧ Inv I2 b2 (N + 30000) J0 := by
  obtain ⟨r, I1, b1, I2, c1, c2, c3⟩ := op
  have ke := w_keep c1
  refine ⟨I2, b1, ?_, c3⟩
  refine (xAload_n d217_340 rfl).trans ?_
  refine (xAload_n d217_341 rfl).trans ?_
  refine (xIload_n d217_342 rfl).trans ?_
  refine (xIconst d217_343).trans ?_
  refine (xIadd d217_344).trans ?_
  rw [wr_id (a := i + 1) (by omega) (by omega)]
  refine (xIald (N := S) (I 899 (i + 1)) rfl d217_345 rfl (Or.inr (Nat.le_of_ble_eq_true rfl)) rfl).trans ?_
  rw [if_pos (by omega)]
  refine (xInvV [vR 1, vI (I 899 (i + 1))] [] d217_346 zo_217 zml_12_48 rfl rfl rfl (Or.inl ⟨rfl, (Nat.le_of_ble_eq_true rfl)⟩)).trans ?_
  rw [c1, Option.bind_some]
  simp only [zpush_s]
  refine (xAload_n d217_349 rfl).trans ?_
  refine (xAload_n d217_350 rfl).trans ?_
  refine (xIload_n d217_351 rfl).trans ?_
  refine (xIconst d217_352).trans ?_
  refine (xIadd d217_353).trans ?_
  rw [wr_id (a := i + 1) (by omega) (by omega)]
  refine (xIald (N := S) (I 899 (i + 1)) (by rw [ke]) d217_354 rfl (Or.inr (Nat.le_of_ble_eq_true rfl)) rfl).trans ?_
  rw [if_pos (by omega)]
  refine (xInvV [vR 87, vI (I 899 (i + 1))] [vI r] d217_355 zo_217 zml_12_51 rfl rfl rfl (Or.inl ⟨rfl, (Nat.le_of_ble_eq_true rfl)⟩)).trans ?_
  rw [c2, Option.bind_some]
  simp only [zpush_s]
  refine (xIcmpEq (t := 857) d217_358 rfl).trans ?_
  rw [if_pos rfl]
theorem w_9 (op : opOk 101 183 [] I b S N J0) (h0 : 0 ≤ i) (h1 : i + 5 ≤ S) (hS : S ≤ 2560) : ∃ I2 b2, zX 217 363 [vR 899, vR 1, vR 87, vI i] [] (I, zRs b, 103, S) = zX 217 857 [vR 899, vR 1, vR 87, vI i] [] (I2, zRs b2, 103, S) ∧ Inv I2 b2 (N + 30000) J0 := by
  obtain ⟨r, I1, b1, I2, c1, c2, c3⟩ := op
  have ke := w_keep c1
  refine ⟨I2, b1, ?_, c3⟩
  refine (xAload_n d217_363 rfl).trans ?_
  refine (xInvV [vR 1] [] d217_364 zo_217 zml_12_52 rfl rfl rfl (Or.inl ⟨rfl, (Nat.le_of_ble_eq_true rfl)⟩)).trans ?_
  rw [c1, Option.bind_some]
  simp only [zpush_s]
  refine (xAload_n d217_367 rfl).trans ?_
  refine (xInvV [vR 87] [vI r] d217_368 zo_217 zml_12_55 rfl rfl rfl (Or.inl ⟨rfl, (Nat.le_of_ble_eq_true rfl)⟩)).trans ?_
  rw [c2, Option.bind_some]
  simp only [zpush_s]
  refine (xIcmpEq (t := 857) d217_371 rfl).trans ?_
  rw [if_pos rfl]
theorem w_10 (op : opOk 102 185 [vI (I 899 (i + 1))] I b S N J0) (h0 : 0 ≤ i) (h1 : i + 5 ≤ S) (hS : S ≤ 2560) : ∃ I2 b2, zX 217 376 [vR 899, vR 1, vR 87, vI i] [] (I, zRs b, 103, S) = zX 217 857 [vR 899, vR 1, vR 87, vI i] [] (I2, zRs b2, 103, S) ∧ Inv I2 b2 (N + 30000) J0 := by
  obtain ⟨r, I1, b1, I2, c1, c2, c3⟩ := op
  have ke := w_keep c1
  refine ⟨I2, b1, ?_, c3⟩
  refine (xAload_n d217_376 rfl).trans ?_
  refine (xAload_n d217_377 rfl).trans ?_
  refine (xIload_n d217_378 rfl).trans ?_
  refine (xIconst d217_379).trans ?_
  refine (xIadd d217_380).trans ?_
  rw [wr_id (a := i + 1) (by omega) (by omega)]
  refine (xIald (N := S) (I 899 (i + 1)) rfl d217_381 rfl (Or.inr (Nat.le_of_ble_eq_true rfl)) rfl).trans ?_
  rw [if_pos (by omega)]
  refine (xInvV [vR 1, vI (I 899 (i + 1))] [] d217_382 zo_217 zml_12_56 rfl rfl rfl (Or.inl ⟨rfl, (Nat.le_of_ble_eq_true rfl)⟩)).trans ?_
  rw [c1, Option.bind_some]
  simp only [zpush_s]
  refine (xAload_n d217_385 rfl).trans ?_
  refine (xAload_n d217_386 rfl).trans ?_
  refine (xIload_n d217_387 rfl).trans ?_
  refine (xIconst d217_388).trans ?_
  refine (xIadd d217_389).trans ?_
  rw [wr_id (a := i + 1) (by omega) (by omega)]
  refine (xIald (N := S) (I 899 (i + 1)) (by rw [ke]) d217_390 rfl (Or.inr (Nat.le_of_ble_eq_true rfl)) rfl).trans ?_
  rw [if_pos (by omega)]
  refine (xInvV [vR 87, vI (I 899 (i + 1))] [vI r] d217_391 zo_217 zml_12_59 rfl rfl rfl (Or.inl ⟨rfl, (Nat.le_of_ble_eq_true rfl)⟩)).trans ?_
  rw [c2, Option.bind_some]
  simp only [zpush_s]
  refine (xIcmpEq (t := 857) d217_394 rfl).trans ?_
  rw [if_pos rfl]
theorem w_11 (op : opOk 103 186 [vI (I 899 (i + 1))] I b S N J0) (h0 : 0 ≤ i) (h1 : i + 5 ≤ S) (hS : S ≤ 2560) : ∃ I2 b2, zX 217 399 [vR 899, vR 1, vR 87, vI i] [] (I, zRs b, 103, S) = zX 217 857 [vR 899, vR 1, vR 87, vI i] [] (I2, zRs b2, 103, S) ∧ Inv I2 b2 (N + 30000) J0 := by
  obtain ⟨r, I1, b1, I2, c1, c2, c3⟩ := op
  have ke := w_keep c1
  refine ⟨I2, b1, ?_, c3⟩
  refine (xAload_n d217_399 rfl).trans ?_
  refine (xAload_n d217_400 rfl).trans ?_
  refine (xIload_n d217_401 rfl).trans ?_
  refine (xIconst d217_402).trans ?_
  refine (xIadd d217_403).trans ?_
  rw [wr_id (a := i + 1) (by omega) (by omega)]
  refine (xIald (N := S) (I 899 (i + 1)) rfl d217_404 rfl (Or.inr (Nat.le_of_ble_eq_true rfl)) rfl).trans ?_
  rw [if_pos (by omega)]
  refine (xInvV [vR 1, vI (I 899 (i + 1))] [] d217_405 zo_217 zml_12_60 rfl rfl rfl (Or.inl ⟨rfl, (Nat.le_of_ble_eq_true rfl)⟩)).trans ?_
  rw [c1, Option.bind_some]
  simp only [zpush_s]
  refine (xAload_n d217_408 rfl).trans ?_
  refine (xAload_n d217_409 rfl).trans ?_
  refine (xIload_n d217_410 rfl).trans ?_
  refine (xIconst d217_411).trans ?_
  refine (xIadd d217_412).trans ?_
  rw [wr_id (a := i + 1) (by omega) (by omega)]
  refine (xIald (N := S) (I 899 (i + 1)) (by rw [ke]) d217_413 rfl (Or.inr (Nat.le_of_ble_eq_true rfl)) rfl).trans ?_
  rw [if_pos (by omega)]
  refine (xInvV [vR 87, vI (I 899 (i + 1))] [vI r] d217_414 zo_217 zml_12_63 rfl rfl rfl (Or.inl ⟨rfl, (Nat.le_of_ble_eq_true rfl)⟩)).trans ?_
  rw [c2, Option.bind_some]
  simp only [zpush_s]
  refine (xIcmpEq (t := 857) d217_417 rfl).trans ?_
  rw [if_pos rfl]
theorem w_12 (op : opOk 104 187 [vI (I 899 (i + 1))] I b S N J0) (h0 : 0 ≤ i) (h1 : i + 5 ≤ S) (hS : S ≤ 2560) : ∃ I2 b2, zX 217 422 [vR 899, vR 1, vR 87, vI i] [] (I, zRs b, 103, S) = zX 217 857 [vR 899, vR 1, vR 87, vI i] [] (I2, zRs b2, 103, S) ∧ Inv I2 b2 (N + 30000) J0 := by
  obtain ⟨r, I1, b1, I2, c1, c2, c3⟩ := op
  have ke := w_keep c1
  refine ⟨I2, b1, ?_, c3⟩
  refine (xAload_n d217_422 rfl).trans ?_
  refine (xAload_n d217_423 rfl).trans ?_
  refine (xIload_n d217_424 rfl).trans ?_
  refine (xIconst d217_425).trans ?_
  refine (xIadd d217_426).trans ?_
  rw [wr_id (a := i + 1) (by omega) (by omega)]
  refine (xIald (N := S) (I 899 (i + 1)) rfl d217_427 rfl (Or.inr (Nat.le_of_ble_eq_true rfl)) rfl).trans ?_
  rw [if_pos (by omega)]
  refine (xInvV [vR 1, vI (I 899 (i + 1))] [] d217_428 zo_217 zml_12_64 rfl rfl rfl (Or.inl ⟨rfl, (Nat.le_of_ble_eq_true rfl)⟩)).trans ?_
  rw [c1, Option.bind_some]
  simp only [zpush_s]
  refine (xAload_n d217_431 rfl).trans ?_
  refine (xAload_n d217_432 rfl).trans ?_
  refine (xIload_n d217_433 rfl).trans ?_
  refine (xIconst d217_434).trans ?_
  refine (xIadd d217_435).trans ?_
  rw [wr_id (a := i + 1) (by omega) (by omega)]
  refine (xIald (N := S) (I 899 (i + 1)) (by rw [ke]) d217_436 rfl (Or.inr (Nat.le_of_ble_eq_true rfl)) rfl).trans ?_
  rw [if_pos (by omega)]
  refine (xInvV [vR 87, vI (I 899 (i + 1))] [vI r] d217_437 zo_217 zml_12_67 rfl rfl rfl (Or.inl ⟨rfl, (Nat.le_of_ble_eq_true rfl)⟩)).trans ?_
  rw [c2, Option.bind_some]
  simp only [zpush_s]
  refine (xIcmpEq (t := 857) d217_440 rfl).trans ?_
  rw [if_pos rfl]
theorem w_13 (op : opOk 105 188 [vI (I 899 (i + 1))] I b S N J0) (h0 : 0 ≤ i) (h1 : i + 5 ≤ S) (hS : S ≤ 2560) : ∃ I2 b2, zX 217 445 [vR 899, vR 1, vR 87, vI i] [] (I, zRs b, 103, S) = zX 217 857 [vR 899, vR 1, vR 87, vI i] [] (I2, zRs b2, 103, S) ∧ Inv I2 b2 (N + 30000) J0 := by
  obtain ⟨r, I1, b1, I2, c1, c2, c3⟩ := op
  have ke := w_keep c1
  refine ⟨I2, b1, ?_, c3⟩
  refine (xAload_n d217_445 rfl).trans ?_
  refine (xAload_n d217_446 rfl).trans ?_
  refine (xIload_n d217_447 rfl).trans ?_
  refine (xIconst d217_448).trans ?_
  refine (xIadd d217_449).trans ?_
  rw [wr_id (a := i + 1) (by omega) (by omega)]
  refine (xIald (N := S) (I 899 (i + 1)) rfl d217_450 rfl (Or.inr (Nat.le_of_ble_eq_true rfl)) rfl).trans ?_
  rw [if_pos (by omega)]
  refine (xInvV [vR 1, vI (I 899 (i + 1))] [] d217_451 zo_217 zml_12_68 rfl rfl rfl (Or.inl ⟨rfl, (Nat.le_of_ble_eq_true rfl)⟩)).trans ?_
  rw [c1, Option.bind_some]
  simp only [zpush_s]
  refine (xAload_n d217_454 rfl).trans ?_
  refine (xAload_n d217_455 rfl).trans ?_
  refine (xIload_n d217_456 rfl).trans ?_
  refine (xIconst d217_457).trans ?_
  refine (xIadd d217_458).trans ?_
  rw [wr_id (a := i + 1) (by omega) (by omega)]
  refine (xIald (N := S) (I 899 (i + 1)) (by rw [ke]) d217_459 rfl (Or.inr (Nat.le_of_ble_eq_true rfl)) rfl).trans ?_
  rw [if_pos (by omega)]
  refine (xInvV [vR 87, vI (I 899 (i + 1))] [vI r] d217_460 zo_217 zml_12_71 rfl rfl rfl (Or.inl ⟨rfl, (Nat.le_of_ble_eq_true rfl)⟩)).trans ?_
  rw [c2, Option.bind_some]
  simp only [zpush_s]
  refine (xIcmpEq (t := 857) d217_463 rfl).trans ?_
  rw [if_pos rfl]
theorem w_14 (op : opOk 106 189 [vI (I 899 (i + 1)), vI (I 899 (i + 2))] I b S N J0) (h0 : 0 ≤ i) (h1 : i + 5 ≤ S) (hS : S ≤ 2560) : ∃ I2 b2, zX 217 468 [vR 899, vR 1, vR 87, vI i] [] (I, zRs b, 103, S) = zX 217 857 [vR 899, vR 1, vR 87, vI i] [] (I2, zRs b2, 103, S) ∧ Inv I2 b2 (N + 30000) J0 := by
  obtain ⟨r, I1, b1, I2, c1, c2, c3⟩ := op
  have ke := w_keep c1
  refine ⟨I2, b1, ?_, c3⟩
  refine (xAload_n d217_468 rfl).trans ?_
  refine (xAload_n d217_469 rfl).trans ?_
  refine (xIload_n d217_470 rfl).trans ?_
  refine (xIconst d217_471).trans ?_
  refine (xIadd d217_472).trans ?_
  rw [wr_id (a := i + 1) (by omega) (by omega)]
  refine (xIald (N := S) (I 899 (i + 1)) rfl d217_473 rfl (Or.inr (Nat.le_of_ble_eq_true rfl)) rfl).trans ?_
  rw [if_pos (by omega)]
  refine (xAload_n d217_474 rfl).trans ?_
  refine (xIload_n d217_475 rfl).trans ?_
  refine (xIconst d217_476).trans ?_
  refine (xIadd d217_477).trans ?_
  rw [wr_id (a := i + 2) (by omega) (by omega)]
  refine (xIald (N := S) (I 899 (i + 2)) rfl d217_478 rfl (Or.inr (Nat.le_of_ble_eq_true rfl)) rfl).trans ?_
  rw [if_pos (by omega)]
  refine (xInvV [vR 1, vI (I 899 (i + 1)), vI (I 899 (i + 2))] [] d217_479 zo_217 zml_12_72 rfl rfl rfl (Or.inl ⟨rfl, (Nat.le_of_ble_eq_true rfl)⟩)).trans ?_
  rw [c1, Option.bind_some]
  simp only [zpush_s]
  refine (xAload_n d217_482 rfl).trans ?_
  refine (xAload_n d217_483 rfl).trans ?_
  refine (xIload_n d217_484 rfl).trans ?_
  refine (xIconst d217_485).trans ?_
  refine (xIadd d217_486).trans ?_
  rw [wr_id (a := i + 1) (by omega) (by omega)]
  refine (xIald (N := S) (I 899 (i + 1)) (by rw [ke]) d217_487 rfl (Or.inr (Nat.le_of_ble_eq_true rfl)) rfl).trans ?_
  rw [if_pos (by omega)]
  refine (xAload_n d217_488 rfl).trans ?_
  refine (xIload_n d217_489 rfl).trans ?_
  refine (xIconst d217_490).trans ?_
  refine (xIadd d217_491).trans ?_
  rw [wr_id (a := i + 2) (by omega) (by omega)]
  refine (xIald (N := S) (I 899 (i + 2)) (by rw [ke]) d217_492 rfl (Or.inr (Nat.le_of_ble_eq_true rfl)) rfl).trans ?_
  rw [if_pos (by omega)]
  refine (xInvV [vR 87, vI (I 899 (i + 1)), vI (I 899 (i + 2))] [vI r] d217_493 zo_217 zml_12_75 rfl rfl rfl (Or.inl ⟨rfl, (Nat.le_of_ble_eq_true rfl)⟩)).trans ?_
  rw [c2, Option.bind_some]
  simp only [zpush_s]
  refine (xIcmpEq (t := 857) d217_496 rfl).trans ?_
  rw [if_pos rfl]
theorem w_15 (op : opOk 107 190 [vI (I 899 (i + 1)), vI (I 899 (i + 2))] I b S N J0) (h0 : 0 ≤ i) (h1 : i + 5 ≤ S) (hS : S ≤ 2560) : ∃ I2 b2, zX 217 501 [vR 899, vR 1, vR 87, vI i] [] (I, zRs b, 103, S) = zX 217 857 [vR 899, vR 1, vR 87, vI i] [] (I2, zRs b2, 103, S) ∧ Inv I2 b2 (N + 30000) J0 := by
  obtain ⟨r, I1, b1, I2, c1, c2, c3⟩ := op
  have ke := w_keep c1
  refine ⟨I2, b1, ?_, c3⟩
  refine (xAload_n d217_501 rfl).trans ?_
  refine (xAload_n d217_502 rfl).trans ?_
  refine (xIload_n d217_503 rfl).trans ?_
  refine (xIconst d217_504).trans ?_
  refine (xIadd d217_505).trans ?_
  rw [wr_id (a := i + 1) (by omega) (by omega)]
  refine (xIald (N := S) (I 899 (i + 1)) rfl d217_506 rfl (Or.inr (Nat.le_of_ble_eq_true rfl)) rfl).trans ?_
  rw [if_pos (by omega)]
  refine (xAload_n d217_507 rfl).trans ?_
  refine (xIload_n d217_508 rfl).trans ?_
  refine (xIconst d217_509).trans ?_
  refine (xIadd d217_510).trans ?_
  rw [wr_id (a := i + 2) (by omega) (by omega)]
  refine (xIald (N := S) (I 899 (i + 2)) rfl d217_511 rfl (Or.inr (Nat.le_of_ble_eq_true rfl)) rfl).trans ?_
  rw [if_pos (by omega)]
  refine (xInvV [vR 1, vI (I 899 (i + 1)), vI (I 899 (i + 2))] [] d217_512 zo_217 zml_12_76 rfl rfl rfl (Or.inl ⟨rfl, (Nat.le_of_ble_eq_true rfl)⟩)).trans ?_
  rw [c1, Option.bind_some]
  simp only [zpush_s]
  refine (xAload_n d217_515 rfl).trans ?_
  refine (xAload_n d217_516 rfl).trans ?_
  refine (xIload_n d217_517 rfl).trans ?_
  refine (xIconst d217_518).trans ?_
  refine (xIadd d217_519).trans ?_
  rw [wr_id (a := i + 1) (by omega) (by omega)]
  refine (xIald (N := S) (I 899 (i + 1)) (by rw [ke]) d217_520 rfl (Or.inr (Nat.le_of_ble_eq_true rfl)) rfl).trans ?_
  rw [if_pos (by omega)]
  refine (xAload_n d217_521 rfl).trans ?_
  refine (xIload_n d217_522 rfl).trans ?_
  refine (xIconst d217_523).trans ?_
  refine (xIadd d217_524).trans ?_
  rw [wr_id (a := i + 2) (by omega) (by omega)]
  refine (xIald (N := S) (I 899 (i + 2)) (by rw [ke]) d217_525 rfl (Or.inr (Nat.le_of_ble_eq_true rfl)) rfl).trans ?_
  rw [if_pos (by omega)]
  refine (xInvV [vR 87, vI (I 899 (i + 1)), vI (I 899 (i + 2))] [vI r] d217_526 zo_217 zml_12_79 rfl rfl rfl (Or.inl ⟨rfl, (Nat.le_of_ble_eq_true rfl)⟩)).trans ?_
  rw [c2, Option.bind_some]
  simp only [zpush_s]
  refine (xIcmpEq (t := 857) d217_529 rfl).trans ?_
  rw [if_pos rfl]
theorem w_16 (op : opOk 108 191 [vI (I 899 (i + 1))] I b S N J0) (h0 : 0 ≤ i) (h1 : i + 5 ≤ S) (hS : S ≤ 2560) : ∃ I2 b2, zX 217 534 [vR 899, vR 1, vR 87, vI i] [] (I, zRs b, 103, S) = zX 217 857 [vR 899, vR 1, vR 87, vI i] [] (I2, zRs b2, 103, S) ∧ Inv I2 b2 (N + 30000) J0 := by
  obtain ⟨r, I1, b1, I2, c1, c2, c3⟩ := op
  have ke := w_keep c1
  refine ⟨I2, b1, ?_, c3⟩
  refine (xAload_n d217_534 rfl).trans ?_
  refine (xAload_n d217_535 rfl).trans ?_
  refine (xIload_n d217_536 rfl).trans ?_
  refine (xIconst d217_537).trans ?_
  refine (xIadd d217_538).trans ?_
  rw [wr_id (a := i + 1) (by omega) (by omega)]
  refine (xIald (N := S) (I 899 (i + 1)) rfl d217_539 rfl (Or.inr (Nat.le_of_ble_eq_true rfl)) rfl).trans ?_
  rw [if_pos (by omega)]
  refine (xInvV [vR 1, vI (I 899 (i + 1))] [] d217_540 zo_217 zml_12_80 rfl rfl rfl (Or.inl ⟨rfl, (Nat.le_of_ble_eq_true rfl)⟩)).trans ?_
  rw [c1, Option.bind_some]
  simp only [zpush_s]
  refine (xAload_n d217_543 rfl).trans ?_
  refine (xAload_n d217_544 rfl).trans ?_
  refine (xIload_n d217_545 rfl).trans ?_
  refine (xIconst d217_546).trans ?_
  refine (xIadd d217_547).trans ?_
  rw [wr_id (a := i + 1) (by omega) (by omega)]
  refine (xIald (N := S) (I 899 (i + 1)) (by rw [ke]) d217_548 rfl (Or.inr (Nat.le_of_ble_eq_true rfl)) rfl).trans ?_
  rw [if_pos (by omega)]
  refine (xInvV [vR 87, vI (I 899 (i + 1))] [vI r] d217_549 zo_217 zml_12_83 rfl rfl rfl (Or.inl ⟨rfl, (Nat.le_of_ble_eq_true rfl)⟩)).trans ?_
  rw [c2, Option.bind_some]
  simp only [zpush_s]
  refine (xIcmpEq (t := 857) d217_552 rfl).trans ?_
  rw [if_pos rfl]
theorem w_17 (op : opOk 109 194 [vI (I 899 (i + 1)), vI (I 899 (i + 2))] I b S N J0) (h0 : 0 ≤ i) (h1 : i + 5 ≤ S) (hS : S ≤ 2560) : ∃ I2 b2, zX 217 557 [vR 899, vR 1, vR 87, vI i] [] (I, zRs b, 103, S) = zX 217 857 [vR 899, vR 1, vR 87, vI i] [] (I2, zRs b2, 103, S) ∧ Inv I2 b2 (N + 30000) J0 := by
  obtain ⟨r, I1, b1, I2, c1, c2, c3⟩ := op
  have ke := w_keep c1
  refine ⟨I2, b1, ?_, c3⟩
  refine (xAload_n d217_557 rfl).trans ?_
  refine (xAload_n d217_558 rfl).trans ?_
  refine (xIload_n d217_559 rfl).trans ?_
  refine (xIconst d217_560).trans ?_
  refine (xIadd d217_561).trans ?_
  rw [wr_id (a := i + 1) (by omega) (by omega)]
  refine (xIald (N := S) (I 899 (i + 1)) rfl d217_562 rfl (Or.inr (Nat.le_of_ble_eq_true rfl)) rfl).trans ?_
  rw [if_pos (by omega)]
  refine (xAload_n d217_563 rfl).trans ?_
  refine (xIload_n d217_564 rfl).trans ?_
  refine (xIconst d217_565).trans ?_
  refine (xIadd d217_566).trans ?_
  rw [wr_id (a := i + 2) (by omega) (by omega)]
  refine (xIald (N := S) (I 899 (i + 2)) rfl d217_567 rfl (Or.inr (Nat.le_of_ble_eq_true rfl)) rfl).trans ?_
  rw [if_pos (by omega)]
  refine (xInvV [vR 1, vI (I 899 (i + 1)), vI (I 899 (i + 2))] [] d217_568 zo_217 zml_12_84 rfl rfl rfl (Or.inl ⟨rfl, (Nat.le_of_ble_eq_true rfl)⟩)).trans ?_
  rw [c1, Option.bind_some]
  simp only [zpush_s]
  refine (xAload_n d217_571 rfl).trans ?_
  refine (xAload_n d217_572 rfl).trans ?_
  refine (xIload_n d217_573 rfl).trans ?_
  refine (xIconst d217_574).trans ?_
  refine (xIadd d217_575).trans ?_
  rw [wr_id (a := i + 1) (by omega) (by omega)]
  refine (xIald (N := S) (I 899 (i + 1)) (by rw [ke]) d217_576 rfl (Or.inr (Nat.le_of_ble_eq_true rfl)) rfl).trans ?_
  rw [if_pos (by omega)]
  refine (xAload_n d217_577 rfl).trans ?_
  refine (xIload_n d217_578 rfl).trans ?_
  refine (xIconst d217_579).trans ?_
  refine (xIadd d217_580).trans ?_
  rw [wr_id (a := i + 2) (by omega) (by omega)]
  refine (xIald (N := S) (I 899 (i + 2)) (by rw [ke]) d217_581 rfl (Or.inr (Nat.le_of_ble_eq_true rfl)) rfl).trans ?_
  rw [if_pos (by omega)]
  refine (xInvV [vR 87, vI (I 899 (i + 1)), vI (I 899 (i + 2))] [vI r] d217_582 zo_217 zml_12_87 rfl rfl rfl (Or.inl ⟨rfl, (Nat.le_of_ble_eq_true rfl)⟩)).trans ?_
  rw [c2, Option.bind_some]
  simp only [zpush_s]
  refine (xIcmpEq (t := 857) d217_585 rfl).trans ?_
  rw [if_pos rfl]
theorem w_18 (op : opOk 110 195 [] I b S N J0) (h0 : 0 ≤ i) (h1 : i + 5 ≤ S) (hS : S ≤ 2560) : ∃ I2 b2, zX 217 590 [vR 899, vR 1, vR 87, vI i] [] (I, zRs b, 103, S) = zX 217 857 [vR 899, vR 1, vR 87, vI i] [] (I2, zRs b2, 103, S) ∧ Inv I2 b2 (N + 30000) J0 := by
  obtain ⟨r, I1, b1, I2, c1, c2, c3⟩ := op
  have ke := w_keep c1
  refine ⟨I2, b1, ?_, c3⟩
  refine (xAload_n d217_590 rfl).trans ?_
  refine (xInvV [vR 1] [] d217_591 zo_217 zml_12_88 rfl rfl rfl (Or.inl ⟨rfl, (Nat.le_of_ble_eq_true rfl)⟩)).trans ?_
  rw [c1, Option.bind_some]
  simp only [zpush_s]
  refine (xAload_n d217_594 rfl).trans ?_
  refine (xInvV [vR 87] [vI r] d217_595 zo_217 zml_12_91 rfl rfl rfl (Or.inl ⟨rfl, (Nat.le_of_ble_eq_true rfl)⟩)).trans ?_
  rw [c2, Option.bind_some]
  simp only [zpush_s]
  refine (xIcmpEq (t := 857) d217_598 rfl).trans ?_
  rw [if_pos rfl]
theorem w_19 (op : opOk 111 198 [vI (I 899 (i + 1)), vI (I 899 (i + 2))] I b S N J0) (h0 : 0 ≤ i) (h1 : i + 5 ≤ S) (hS : S ≤ 2560) : ∃ I2 b2, zX 217 603 [vR 899, vR 1, vR 87, vI i] [] (I, zRs b, 103, S) = zX 217 857 [vR 899, vR 1, vR 87, vI i] [] (I2, zRs b2, 103, S) ∧ Inv I2 b2 (N + 30000) J0 := by
  obtain ⟨r, I1, b1, I2, c1, c2, c3⟩ := op
  have ke := w_keep c1
  refine ⟨I2, b1, ?_, c3⟩
  refine (xAload_n d217_603 rfl).trans ?_
  refine (xAload_n d217_604 rfl).trans ?_
  refine (xIload_n d217_605 rfl).trans ?_
  refine (xIconst d217_606).trans ?_
  refine (xIadd d217_607).trans ?_
  rw [wr_id (a := i + 1) (by omega) (by omega)]
  refine (xIald (N := S) (I 899 (i + 1)) rfl d217_608 rfl (Or.inr (Nat.le_of_ble_eq_true rfl)) rfl).trans ?_
  rw [if_pos (by omega)]
  refine (xAload_n d217_609 rfl).trans ?_
  refine (xIload_n d217_610 rfl).trans ?_
  refine (xIconst d217_611).trans ?_
  refine (xIadd d217_612).trans ?_
  rw [wr_id (a := i + 2) (by omega) (by omega)]
  refine (xIald (N := S) (I 899 (i + 2)) rfl d217_613 rfl (Or.inr (Nat.le_of_ble_eq_true rfl)) rfl).trans ?_
  rw [if_pos (by omega)]
  refine (xInvV [vR 1, vI (I 899 (i + 1)), vI (I 899 (i + 2))] [] d217_614 zo_217 zml_12_92 rfl rfl rfl (Or.inl ⟨rfl, (Nat.le_of_ble_eq_true rfl)⟩)).trans ?_
  rw [c1, Option.bind_some]
  simp only [zpush_s]
  refine (xAload_n d217_617 rfl).trans ?_
  refine (xAload_n d217_618 rfl).trans ?_
  refine (xIload_n d217_619 rfl).trans ?_
  refine (xIconst d217_620).trans ?_
  refine (xIadd d217_621).trans ?_
  rw [wr_id (a := i + 1) (by omega) (by omega)]
  refine (xIald (N := S) (I 899 (i + 1)) (by rw [ke]) d217_622 rfl (Or.inr (Nat.le_of_ble_eq_true rfl)) rfl).trans ?_
  rw [if_pos (by omega)]
  refine (xAload_n d217_623 rfl).trans ?_
  refine (xIload_n d217_624 rfl).trans ?_
  refine (xIconst d217_625).trans ?_
  refine (xIadd d217_626).trans ?_
  rw [wr_id (a := i + 2) (by omega) (by omega)]
  refine (xIald (N := S) (I 899 (i + 2)) (by rw [ke]) d217_627 rfl (Or.inr (Nat.le_of_ble_eq_true rfl)) rfl).trans ?_
  rw [if_pos (by omega)]
  refine (xInvV [vR 87, vI (I 899 (i + 1)), vI (I 899 (i + 2))] [vI r] d217_628 zo_217 zml_12_95 rfl rfl rfl (Or.inl ⟨rfl, (Nat.le_of_ble_eq_true rfl)⟩)).trans ?_
  rw [c2, Option.bind_some]
  simp only [zpush_s]
  refine (xIcmpEq (t := 857) d217_631 rfl).trans ?_
  rw [if_pos rfl]
theorem w_20 (op : opOk 112 199 [vI (I 899 (i + 1))] I b S N J0) (h0 : 0 ≤ i) (h1 : i + 5 ≤ S) (hS : S ≤ 2560) : ∃ I2 b2, zX 217 636 [vR 899, vR 1, vR 87, vI i] [] (I, zRs b, 103, S) = zX 217 857 [vR 899, vR 1, vR 87, vI i] [] (I2, zRs b2, 103, S) ∧ Inv I2 b2 (N + 30000) J0 := by
  obtain ⟨r, I1, b1, I2, c1, c2, c3⟩ := op
  have ke := w_keep c1
  refine ⟨I2, b1, ?_, c3⟩
  refine (xAload_n d217_636 rfl).trans ?_
  refine (xAload_n d217_637 rfl).trans ?_
  refine (xIload_n d217_638 rfl).trans ?_
  refine (xIconst d217_639).trans ?_
  refine (xIadd d217_640).trans ?_
  rw [wr_id (a := i + 1) (by omega) (by omega)]
  refine (xIald (N := S) (I 899 (i + 1)) rfl d217_641 rfl (Or.inr (Nat.le_of_ble_eq_true rfl)) rfl).trans ?_
  rw [if_pos (by omega)]
  refine (xInvV [vR 1, vI (I 899 (i + 1))] [] d217_642 zo_217 zml_12_96 rfl rfl rfl (Or.inl ⟨rfl, (Nat.le_of_ble_eq_true rfl)⟩)).trans ?_
  rw [c1, Option.bind_some]
  simp only [zpush_s]
  refine (xAload_n d217_645 rfl).trans ?_
  refine (xAload_n d217_646 rfl).trans ?_
  refine (xIload_n d217_647 rfl).trans ?_
  refine (xIconst d217_648).trans ?_
  refine (xIadd d217_649).trans ?_
  rw [wr_id (a := i + 1) (by omega) (by omega)]
  refine (xIald (N := S) (I 899 (i + 1)) (by rw [ke]) d217_650 rfl (Or.inr (Nat.le_of_ble_eq_true rfl)) rfl).trans ?_
  rw [if_pos (by omega)]
  refine (xInvV [vR 87, vI (I 899 (i + 1))] [vI r] d217_651 zo_217 zml_12_99 rfl rfl rfl (Or.inl ⟨rfl, (Nat.le_of_ble_eq_true rfl)⟩)).trans ?_
  rw [c2, Option.bind_some]
  simp only [zpush_s]
  refine (xIcmpEq (t := 857) d217_654 rfl).trans ?_
  rw [if_pos rfl]
theorem w_21 (op : opOk 113 200 [vI (I 899 (i + 1))] I b S N J0) (h0 : 0 ≤ i) (h1 : i + 5 ≤ S) (hS : S ≤ 2560) : ∃ I2 b2, zX 217 659 [vR 899, vR 1, vR 87, vI i] [] (I, zRs b, 103, S) = zX 217 857 [vR 899, vR 1, vR 87, vI i] [] (I2, zRs b2, 103, S) ∧ Inv I2 b2 (N + 30000) J0 := by
  obtain ⟨r, I1, b1, I2, c1, c2, c3⟩ := op
  have ke := w_keep c1
  refine ⟨I2, b1, ?_, c3⟩
  refine (xAload_n d217_659 rfl).trans ?_
  refine (xAload_n d217_660 rfl).trans ?_
  refine (xIload_n d217_661 rfl).trans ?_
  refine (xIconst d217_662).trans ?_
  refine (xIadd d217_663).trans ?_
  rw [wr_id (a := i + 1) (by omega) (by omega)]
  refine (xIald (N := S) (I 899 (i + 1)) rfl d217_664 rfl (Or.inr (Nat.le_of_ble_eq_true rfl)) rfl).trans ?_
  rw [if_pos (by omega)]
  refine (xInvV [vR 1, vI (I 899 (i + 1))] [] d217_665 zo_217 zml_12_100 rfl rfl rfl (Or.inl ⟨rfl, (Nat.le_of_ble_eq_true rfl)⟩)).trans ?_
  rw [c1, Option.bind_some]
  simp only [zpush_s]
  refine (xAload_n d217_668 rfl).trans ?_
  refine (xAload_n d217_669 rfl).trans ?_
  refine (xIload_n d217_670 rfl).trans ?_
  refine (xIconst d217_671).trans ?_
  refine (xIadd d217_672).trans ?_
  rw [wr_id (a := i + 1) (by omega) (by omega)]
  refine (xIald (N := S) (I 899 (i + 1)) (by rw [ke]) d217_673 rfl (Or.inr (Nat.le_of_ble_eq_true rfl)) rfl).trans ?_
  rw [if_pos (by omega)]
  refine (xInvV [vR 87, vI (I 899 (i + 1))] [vI r] d217_674 zo_217 zml_12_103 rfl rfl rfl (Or.inl ⟨rfl, (Nat.le_of_ble_eq_true rfl)⟩)).trans ?_
  rw [c2, Option.bind_some]
  simp only [zpush_s]
  refine (xIcmpEq (t := 857) d217_677 rfl).trans ?_
  rw [if_pos rfl]
theorem w_22 (op : opOk 114 202 [vI (I 899 (i + 1)), vI (I 899 (i + 2)), vI (I 899 (i + 3))] I b S N J0) (h0 : 0 ≤ i) (h1 : i + 5 ≤ S) (hS : S ≤ 2560) : ∃ I2 b2, zX 217 682 [vR 899, vR 1, vR 87, vI i] [] (I, zRs b, 103, S) = zX 217 857 [vR 899, vR 1, vR 87, vI i] [] (I2, zRs b2, 103, S) ∧ Inv I2 b2 (N + 30000) J0 := by
  obtain ⟨r, I1, b1, I2, c1, c2, c3⟩ := op
  have ke := w_keep c1
  refine ⟨I2, b1, ?_, c3⟩
  refine (xAload_n d217_682 rfl).trans ?_
  refine (xAload_n d217_683 rfl).trans ?_
  refine (xIload_n d217_684 rfl).trans ?_
  refine (xIconst d217_685).trans ?_
  refine (xIadd d217_686).trans ?_
  rw [wr_id (a := i + 1) (by omega) (by omega)]
  refine (xIald (N := S) (I 899 (i + 1)) rfl d217_687 rfl (Or.inr (Nat.le_of_ble_eq_true rfl)) rfl).trans ?_
  rw [if_pos (by omega)]
  refine (xAload_n d217_688 rfl).trans ?_
  refine (xIload_n d217_689 rfl).trans ?_
  refine (xIconst d217_690).trans ?_
  refine (xIadd d217_691).trans ?_
  rw [wr_id (a := i + 2) (by omega) (by omega)]
  refine (xIald (N := S) (I 899 (i + 2)) rfl d217_692 rfl (Or.inr (Nat.le_of_ble_eq_true rfl)) rfl).trans ?_
  rw [if_pos (by omega)]
  refine (xAload_n d217_693 rfl).trans ?_
  refine (xIload_n d217_694 rfl).trans ?_
  refine (xIconst d217_695).trans ?_
  refine (xIadd d217_696).trans ?_
  rw [wr_id (a := i + 3) (by omega) (by omega)]
  refine (xIald (N := S) (I 899 (i + 3)) rfl d217_697 rfl (Or.inr (Nat.le_of_ble_eq_true rfl)) rfl).trans ?_
  rw [if_pos (by omega)]
  refine (xInvV [vR 1, vI (I 899 (i + 1)), vI (I 899 (i + 2)), vI (I 899 (i + 3))] [] d217_698 zo_217 zml_12_104 rfl rfl rfl (Or.inl ⟨rfl, (Nat.le_of_ble_eq_true rfl)⟩)).trans ?_
  rw [c1, Option.bind_some]
  simp only [zpush_s]
  refine (xAload_n d217_701 rfl).trans ?_
  refine (xAload_n d217_702 rfl).trans ?_
  refine (xIload_n d217_703 rfl).trans ?_
  refine (xIconst d217_704).trans ?_
  refine (xIadd d217_705).trans ?_
  rw [wr_id (a := i + 1) (by omega) (by omega)]
  refine (xIald (N := S) (I 899 (i + 1)) (by rw [ke]) d217_706 rfl (Or.inr (Nat.le_of_ble_eq_true rfl)) rfl).trans ?_
  rw [if_pos (by omega)]
  refine (xAload_n d217_707 rfl).trans ?_
  refine (xIload_n d217_708 rfl).trans ?_
  refine (xIconst d217_709).trans ?_
  refine (xIadd d217_710).trans ?_
  rw [wr_id (a := i + 2) (by omega) (by omega)]
  refine (xIald (N := S) (I 899 (i + 2)) (by rw [ke]) d217_711 rfl (Or.inr (Nat.le_of_ble_eq_true rfl)) rfl).trans ?_
  rw [if_pos (by omega)]
  refine (xAload_n d217_712 rfl).trans ?_
  refine (xIload_n d217_713 rfl).trans ?_
  refine (xIconst d217_714).trans ?_
  refine (xIadd d217_715).trans ?_
  rw [wr_id (a := i + 3) (by omega) (by omega)]
  refine (xIald (N := S) (I 899 (i + 3)) (by rw [ke]) d217_716 rfl (Or.inr (Nat.le_of_ble_eq_true rfl)) rfl).trans ?_
  rw [if_pos (by omega)]
  refine (xInvV [vR 87, vI (I 899 (i + 1)), vI (I 899 (i + 2)), vI (I 899 (i + 3))] [vI r] d217_717 zo_217 zml_12_108 rfl rfl rfl (Or.inl ⟨rfl, (Nat.le_of_ble_eq_true rfl)⟩)).trans ?_
  rw [c2, Option.bind_some]
  simp only [zpush_s]
  refine (xIcmpEq (t := 857) d217_720 rfl).trans ?_
  rw [if_pos rfl]
theorem w_23 (op : opOk 115 203 [vI (I 899 (i + 1)), vI (I 899 (i + 2)), vI (I 899 (i + 3))] I b S N J0) (h0 : 0 ≤ i) (h1 : i + 5 ≤ S) (hS : S ≤ 2560) : ∃ I2 b2, zX 217 725 [vR 899, vR 1, vR 87, vI i] [] (I, zRs b, 103, S) = zX 217 857 [vR 899, vR 1, vR 87, vI i] [] (I2, zRs b2, 103, S) ∧ Inv I2 b2 (N + 30000) J0 := by
  obtain ⟨r, I1, b1, I2, c1, c2, c3⟩ := op
  have ke := w_keep c1
  refine ⟨I2, b1, ?_, c3⟩
  refine (xAload_n d217_725 rfl).trans ?_
  refine (xAload_n d217_726 rfl).trans ?_
  refine (xIload_n d217_727 rfl).trans ?_
  refine (xIconst d217_728).trans ?_
  refine (xIadd d217_729).trans ?_
  rw [wr_id (a := i + 1) (by omega) (by omega)]
  refine (xIald (N := S) (I 899 (i + 1)) rfl d217_730 rfl (Or.inr (Nat.le_of_ble_eq_true rfl)) rfl).trans ?_
  rw [if_pos (by omega)]
  refine (xAload_n d217_731 rfl).trans ?_
  refine (xIload_n d217_732 rfl).trans ?_
  refine (xIconst d217_733).trans ?_
  refine (xIadd d217_734).trans ?_
  rw [wr_id (a := i + 2) (by omega) (by omega)]
  refine (xIald (N := S) (I 899 (i + 2)) rfl d217_735 rfl (Or.inr (Nat.le_of_ble_eq_true rfl)) rfl).trans ?_
  rw [if_pos (by omega)]
  refine (xAload_n d217_736 rfl).trans ?_
  refine (xIload_n d217_737 rfl).trans ?_
  refine (xIconst d217_738).trans ?_
  refine (xIadd d217_739).trans ?_
  rw [wr_id (a := i + 3) (by omega) (by omega)]
  refine (xIald (N := S) (I 899 (i + 3)) rfl d217_740 rfl (Or.inr (Nat.le_of_ble_eq_true rfl)) rfl).trans ?_
  rw [if_pos (by omega)]
  refine (xInvV [vR 1, vI (I 899 (i + 1)), vI (I 899 (i + 2)), vI (I 899 (i + 3))] [] d217_741 zo_217 zml_12_109 rfl rfl rfl (Or.inl ⟨rfl, (Nat.le_of_ble_eq_true rfl)⟩)).trans ?_
  rw [c1, Option.bind_some]
  simp only [zpush_s]
  refine (xAload_n d217_744 rfl).trans ?_
  refine (xAload_n d217_745 rfl).trans ?_
  refine (xIload_n d217_746 rfl).trans ?_
  refine (xIconst d217_747).trans ?_
  refine (xIadd d217_748).trans ?_
  rw [wr_id (a := i + 1) (by omega) (by omega)]
  refine (xIald (N := S) (I 899 (i + 1)) (by rw [ke]) d217_749 rfl (Or.inr (Nat.le_of_ble_eq_true rfl)) rfl).trans ?_
  rw [if_pos (by omega)]
  refine (xAload_n d217_750 rfl).trans ?_
  refine (xIload_n d217_751 rfl).trans ?_
  refine (xIconst d217_752).trans ?_
  refine (xIadd d217_753).trans ?_
  rw [wr_id (a := i + 2) (by omega) (by omega)]
  refine (xIald (N := S) (I 899 (i + 2)) (by rw [ke]) d217_754 rfl (Or.inr (Nat.le_of_ble_eq_true rfl)) rfl).trans ?_
  rw [if_pos (by omega)]
  refine (xAload_n d217_755 rfl).trans ?_
  refine (xIload_n d217_756 rfl).trans ?_
  refine (xIconst d217_757).trans ?_
  refine (xIadd d217_758).trans ?_
  rw [wr_id (a := i + 3) (by omega) (by omega)]
  refine (xIald (N := S) (I 899 (i + 3)) (by rw [ke]) d217_759 rfl (Or.inr (Nat.le_of_ble_eq_true rfl)) rfl).trans ?_
  rw [if_pos (by omega)]
  refine (xInvV [vR 87, vI (I 899 (i + 1)), vI (I 899 (i + 2)), vI (I 899 (i + 3))] [vI r] d217_760 zo_217 zml_12_112 rfl rfl rfl (Or.inl ⟨rfl, (Nat.le_of_ble_eq_true rfl)⟩)).trans ?_
  rw [c2, Option.bind_some]
  simp only [zpush_s]
  refine (xIcmpEq (t := 857) d217_763 rfl).trans ?_
  rw [if_pos rfl]
theorem w_24 (op : opOk 116 204 [vI (I 899 (i + 1)), vI (I 899 (i + 2)), vI (I 899 (i + 3)), vI (I 899 (i + 4))] I b S N J0) (h0 : 0 ≤ i) (h1 : i + 5 ≤ S) (hS : S ≤ 2560) : ∃ I2 b2, zX 217 768 [vR 899, vR 1, vR 87, vI i] [] (I, zRs b, 103, S) = zX 217 857 [vR 899, vR 1, vR 87, vI i] [] (I2, zRs b2, 103, S) ∧ Inv I2 b2 (N + 30000) J0 := by
  obtain ⟨r, I1, b1, I2, c1, c2, c3⟩ := op
  have ke := w_keep c1
  refine ⟨I2, b1, ?_, c3⟩
  refine (xAload_n d217_768 rfl).trans ?_
  refine (xAload_n d217_769 rfl).trans ?_
  refine (xIload_n d217_770 rfl).trans ?_
  refine (xIconst d217_771).trans ?_
  refine (xIadd d217_772).trans ?_
  rw [wr_id (a := i + 1) (by omega) (by omega)]
  refine (xIald (N := S) (I 899 (i + 1)) rfl d217_773 rfl (Or.inr (Nat.le_of_ble_eq_true rfl)) rfl).trans ?_
  rw [if_pos (by omega)]
  refine (xAload_n d217_774 rfl).trans ?_
  refine (xIload_n d217_775 rfl).trans ?_
  refine (xIconst d217_776).trans ?_
  refine (xIadd d217_777).trans ?_
  rw [wr_id (a := i + 2) (by omega) (by omega)]
  refine (xIald (N := S) (I 899 (i + 2)) rfl d217_778 rfl (Or.inr (Nat.le_of_ble_eq_true rfl)) rfl).trans ?_
  rw [if_pos (by omega)]
  refine (xAload_n d217_779 rfl).trans ?_
  refine (xIload_n d217_780 rfl).trans ?_
  refine (xIconst d217_781).trans ?_
  refine (xIadd d217_782).trans ?_
  rw [wr_id (a := i + 3) (by omega) (by omega)]
  refine (xIald (N := S) (I 899 (i + 3)) rfl d217_783 rfl (Or.inr (Nat.le_of_ble_eq_true rfl)) rfl).trans ?_
  rw [if_pos (by omega)]
  refine (xAload_n d217_784 rfl).trans ?_
  refine (xIload_n d217_785 rfl).trans ?_
  refine (xIconst d217_786).trans ?_
  refine (xIadd d217_787).trans ?_
  rw [wr_id (a := i + 4) (by omega) (by omega)]
  refine (xIald (N := S) (I 899 (i + 4)) rfl d217_788 rfl (Or.inr (Nat.le_of_ble_eq_true rfl)) rfl).trans ?_
  rw [if_pos (by omega)]
  refine (xInvV [vR 1, vI (I 899 (i + 1)), vI (I 899 (i + 2)), vI (I 899 (i + 3)), vI (I 899 (i + 4))] [] d217_789 zo_217 zml_12_113 rfl rfl rfl (Or.inl ⟨rfl, (Nat.le_of_ble_eq_true rfl)⟩)).trans ?_
  rw [c1, Option.bind_some]
  simp only [zpush_s]
  refine (xAload_n d217_792 rfl).trans ?_
  refine (xAload_n d217_793 rfl).trans ?_
  refine (xIload_n d217_794 rfl).trans ?_
  refine (xIconst d217_795).trans ?_
  refine (xIadd d217_796).trans ?_
  rw [wr_id (a := i + 1) (by omega) (by omega)]
  refine (xIald (N := S) (I 899 (i + 1)) (by rw [ke]) d217_797 rfl (Or.inr (Nat.le_of_ble_eq_true rfl)) rfl).trans ?_
  rw [if_pos (by omega)]
  refine (xAload_n d217_798 rfl).trans ?_
  refine (xIload_n d217_799 rfl).trans ?_
  refine (xIconst d217_800).trans ?_
  refine (xIadd d217_801).trans ?_
  rw [wr_id (a := i + 2) (by omega) (by omega)]
  refine (xIald (N := S) (I 899 (i + 2)) (by rw [ke]) d217_802 rfl (Or.inr (Nat.le_of_ble_eq_true rfl)) rfl).trans ?_
  rw [if_pos (by omega)]
  refine (xAload_n d217_803 rfl).trans ?_
  refine (xIload_n d217_804 rfl).trans ?_
  refine (xIconst d217_805).trans ?_
  refine (xIadd d217_806).trans ?_
  rw [wr_id (a := i + 3) (by omega) (by omega)]
  refine (xIald (N := S) (I 899 (i + 3)) (by rw [ke]) d217_807 rfl (Or.inr (Nat.le_of_ble_eq_true rfl)) rfl).trans ?_
  rw [if_pos (by omega)]
  refine (xAload_n d217_808 rfl).trans ?_
  refine (xIload_n d217_809 rfl).trans ?_
  refine (xIconst d217_810).trans ?_
  refine (xIadd d217_811).trans ?_
  rw [wr_id (a := i + 4) (by omega) (by omega)]
  refine (xIald (N := S) (I 899 (i + 4)) (by rw [ke]) d217_812 rfl (Or.inr (Nat.le_of_ble_eq_true rfl)) rfl).trans ?_
  rw [if_pos (by omega)]
  refine (xInvV [vR 87, vI (I 899 (i + 1)), vI (I 899 (i + 2)), vI (I 899 (i + 3)), vI (I 899 (i + 4))] [vI r] d217_813 zo_217 zml_12_117 rfl rfl rfl (Or.inl ⟨rfl, (Nat.le_of_ble_eq_true rfl)⟩)).trans ?_
  rw [c2, Option.bind_some]
  simp only [zpush_s]
  refine (xIcmpEq (t := 857) d217_816 rfl).trans ?_
  rw [if_pos rfl]
theorem w_25 (op : opOk 117 205 [] I b S N J0) (h0 : 0 ≤ i) (h1 : i + 5 ≤ S) (hS : S ≤ 2560) : ∃ I2 b2, zX 217 821 [vR 899, vR 1, vR 87, vI i] [] (I, zRs b, 103, S) = zX 217 857 [vR 899, vR 1, vR 87, vI i] [] (I2, zRs b2, 103, S) ∧ Inv I2 b2 (N + 30000) J0 := by
  obtain ⟨r, I1, b1, I2, c1, c2, c3⟩ := op
  have ke := w_keep c1
  refine ⟨I2, b1, ?_, c3⟩
  refine (xAload_n d217_821 rfl).trans ?_
  refine (xInvV [vR 1] [] d217_822 zo_217 zml_12_118 rfl rfl rfl (Or.inl ⟨rfl, (Nat.le_of_ble_eq_true rfl)⟩)).trans ?_
  rw [c1, Option.bind_some]
  simp only [zpush_s]
  refine (xAload_n d217_825 rfl).trans ?_
  refine (xInvV [vR 87] [vI r] d217_826 zo_217 zml_12_121 rfl rfl rfl (Or.inl ⟨rfl, (Nat.le_of_ble_eq_true rfl)⟩)).trans ?_
  rw [c2, Option.bind_some]
  simp only [zpush_s]
  refine (xIcmpEq (t := 857) d217_829 rfl).trans ?_
  rw [if_pos rfl]
theorem w_26 (op : opOk 118 206 [vI (I 899 (i + 1))] I b S N J0) (h0 : 0 ≤ i) (h1 : i + 5 ≤ S) (hS : S ≤ 2560) : ∃ I2 b2, zX 217 834 [vR 899, vR 1, vR 87, vI i] [] (I, zRs b, 103, S) = zX 217 857 [vR 899, vR 1, vR 87, vI i] [] (I2, zRs b2, 103, S) ∧ Inv I2 b2 (N + 30000) J0 := by
  obtain ⟨r, I1, b1, I2, c1, c2, c3⟩ := op
  have ke := w_keep c1
  refine ⟨I2, b1, ?_, c3⟩
  refine (xAload_n d217_834 rfl).trans ?_
  refine (xAload_n d217_835 rfl).trans ?_
  refine (xIload_n d217_836 rfl).trans ?_
  refine (xIconst d217_837).trans ?_
  refine (xIadd d217_838).trans ?_
  rw [wr_id (a := i + 1) (by omega) (by omega)]
  refine (xIald (N := S) (I 899 (i + 1)) rfl d217_839 rfl (Or.inr (Nat.le_of_ble_eq_true rfl)) rfl).trans ?_
  rw [if_pos (by omega)]
  refine (xInvV [vR 1, vI (I 899 (i + 1))] [] d217_840 zo_217 zml_12_122 rfl rfl rfl (Or.inl ⟨rfl, (Nat.le_of_ble_eq_true rfl)⟩)).trans ?_
  rw [c1, Option.bind_some]
  simp only [zpush_s]
  refine (xAload_n d217_843 rfl).trans ?_
  refine (xAload_n d217_844 rfl).trans ?_
  refine (xIload_n d217_845 rfl).trans ?_
  refine (xIconst d217_846).trans ?_
  refine (xIadd d217_847).trans ?_
  rw [wr_id (a := i + 1) (by omega) (by omega)]
  refine (xIald (N := S) (I 899 (i + 1)) (by rw [ke]) d217_848 rfl (Or.inr (Nat.le_of_ble_eq_true rfl)) rfl).trans ?_
  rw [if_pos (by omega)]
  refine (xInvV [vR 87, vI (I 899 (i + 1))] [vI r] d217_849 zo_217 zml_12_125 rfl rfl rfl (Or.inl ⟨rfl, (Nat.le_of_ble_eq_true rfl)⟩)).trans ?_
  rw [c2, Option.bind_some]
  simp only [zpush_s]
  refine (xIcmpEq (t := 857) d217_852 rfl).trans ?_
  rw [if_pos rfl]
theorem w_head (h0 : 0 ≤ i) (hi : i ≤ 3000) (hS : S ≤ 2560) : zX 217 18 [vR 899, vR 1, vR 87, vI i] [] (I, zRs b, 103, S) = if (S : Int) - 5 < i then some (some (vI 1), (I, zRs b, 103, S)) else zsw [(0, 156), (1, 179), (2, 202), (3, 215), (4, 228), (5, 251), (6, 274), (7, 307), (8, 340), (9, 363), (10, 376), (11, 399), (12, 422), (13, 445), (14, 468), (15, 501), (16, 534), (17, 557), (18, 590), (19, 603), (20, 636), (21, 659), (22, 682), (23, 725), (24, 768), (25, 821), (26, 834)] 857 (w2 (· &&& ·) (I 899 i) 31) (fun t => zX 217 t [vR 899, vR 1, vR 87, vI i] [] (I, zRs b, 103, S)) := by
  refine (xIload_n d217_18 rfl).trans ?_
  refine (xAload_n d217_19 rfl).trans ?_
  refine (xAlen (N := S) d217_20 (by decide) (Or.inr (Nat.le_of_ble_eq_true rfl)) rfl (by omega)).trans ?_
  refine (xIconst d217_21).trans ?_
  refine (xIsub d217_22).trans ?_
  rw [wr_id (by omega) (by omega)]
  refine (xIcmpGt (t := 863) d217_23 rfl).trans ?_
  by_cases h : (S : Int) - 5 < i
  · rw [if_pos h, if_pos h]
    refine (xIconst d217_863).trans ?_
    exact xZret d217_864 zret_217 (by decide)
  · rw [if_neg h, if_neg h]
    refine (xAload_n d217_26 rfl).trans ?_
    refine (xIload_n d217_27 rfl).trans ?_
    refine (xIald (N := S) (I 899 i) rfl d217_28 rfl (Or.inr (Nat.le_of_ble_eq_true rfl)) rfl).trans ?_
    rw [if_pos (by omega)]
    refine (xBipush d217_29).trans ?_
    refine (xIand d217_31).trans ?_
    exact xTab [(0, 156), (1, 179), (2, 202), (3, 215), (4, 228), (5, 251), (6, 274), (7, 307), (8, 340), (9, 363), (10, 376), (11, 399), (12, 422), (13, 445), (14, 468), (15, 501), (16, 534), (17, 557), (18, 590), (19, 603), (20, 636), (21, 659), (22, 682), (23, 725), (24, 768), (25, 821), (26, 834)] 857 d217_32 rfl
theorem w_back (hi : 0 ≤ i ∧ i ≤ 3000) : zX 217 857 [vR 899, vR 1, vR 87, vI i] [] (I, zRs b, 103, S) = zX 217 18 [vR 899, vR 1, vR 87, vI (i + 5)] [] (I, zRs b, 103, S) := by
  refine (xIinc (L' := [vR 899, vR 1, vR 87, vI (i + 5)]) d217_857 rfl rfl (by rw [wr_id (by omega) (by omega)]; rfl)).trans ?_
  exact xGoto (t := 18) d217_860 rfl
theorem ifP {α : Type} {P : α → Prop} {c : Prop} {inst : Decidable c} {x y : α} (h1 : P x) (h2 : P y) : P (if c then x else y) := by split; exact h1; exact h2
theorem w_loop (hS : S ≤ 2560) (hJ : stJ J0) (hxJ : ∀ j, -2147483648 ≤ J0 899 j ∧ J0 899 j ≤ 2147483647) : ∀ (m : Nat) (i N : Int) (I : Nat → Int → Int) (b : Bool), Inv I b N J0 → 0 ≤ i → i ≤ 2600 → (S : Int) - i ≤ 5 * m → N + 30000 * m ≤ 2000000000 → ∃ hf, zX 217 18 [vR 899, vR 1, vR 87, vI i] [] (I, zRs b, 103, S) = some (some (vI 1), hf) := by
  intro m
  induction m with
  | zero =>
    intro i N I b hI h0 hi h1 hN
    exact ⟨_, by rw [w_head h0 (by omega) hS, if_pos (by omega)]⟩
  | succ m ih =>
    intro i N I b hI h0 hi h1 hN
    have hx : ∀ j, -2147483648 ≤ I 899 j ∧ I 899 j ≤ 2147483647 := fun j => by rw [hI.2.2.2.2.2.2 899 (by decide)]; exact hxJ j
    by_cases h : (S : Int) - 5 < i
    · exact ⟨_, by rw [w_head h0 (by omega) hS, if_pos h]⟩
    · have nx : ∀ t, (∃ I2 b2, zX 217 t [vR 899, vR 1, vR 87, vI i] [] (I, zRs b, 103, S) = zX 217 857 [vR 899, vR 1, vR 87, vI i] [] (I2, zRs b2, 103, S) ∧ Inv I2 b2 (N + 30000) J0) → ∃ hf, zX 217 t [vR 899, vR 1, vR 87, vI i] [] (I, zRs b, 103, S) = some (some (vI 1), hf) := by
        rintro t ⟨I2, b2, e1, e2⟩
        obtain ⟨hf, e3⟩ := ih (i + 5) (N + 30000) I2 b2 e2 (by omega) (by omega) (by omega) (by omega)
        exact ⟨hf, by rw [e1, w_back (by omega), e3]⟩
      rw [w_head h0 (by omega) hS, if_neg h]
      have i5 : i + 5 ≤ S := by omega
      simp only [zsw]
      refine ifP (P := fun z => ∃ hf, z = some (some (vI 1), hf)) (nx 156 (w_0 (op_feed hI) h0 i5 hS)) ?_
      refine ifP (P := fun z => ∃ hf, z = some (some (vI 1), hf)) (nx 179 (w_1 (op_end hI) h0 i5 hS)) ?_
      refine ifP (P := fun z => ∃ hf, z = some (some (vI 1), hf)) (nx 202 (w_2 (op_text hI hJ) h0 i5 hS)) ?_
      refine ifP (P := fun z => ∃ hf, z = some (some (vI 1), hf)) (nx 215 (w_3 (op_fault hI) h0 i5 hS)) ?_
      refine ifP (P := fun z => ∃ hf, z = some (some (vI 1), hf)) (nx 228 (w_4 (op_rule hI) h0 i5 hS)) ?_
      refine ifP (P := fun z => ∃ hf, z = some (some (vI 1), hf)) (nx 251 (w_5 (op_level hI) h0 i5 hS)) ?_
      refine ifP (P := fun z => ∃ hf, z = some (some (vI 1), hf)) (nx 274 (w_6 (op_segment hI) h0 i5 hS)) ?_
      refine ifP (P := fun z => ∃ hf, z = some (some (vI 1), hf)) (nx 307 (w_7 (op_item hI) h0 i5 hS)) ?_
      refine ifP (P := fun z => ∃ hf, z = some (some (vI 1), hf)) (nx 340 (w_8 (op_plain hI) h0 i5 hS)) ?_
      refine ifP (P := fun z => ∃ hf, z = some (some (vI 1), hf)) (nx 363 (w_9 (op_whole hI) h0 i5 hS)) ?_
      refine ifP (P := fun z => ∃ hf, z = some (some (vI 1), hf)) (nx 376 (w_10 (op_player hI) h0 i5 hS)) ?_
      refine ifP (P := fun z => ∃ hf, z = some (some (vI 1), hf)) (nx 399 (w_11 (op_turns hI) h0 i5 hS)) ?_
      refine ifP (P := fun z => ∃ hf, z = some (some (vI 1), hf)) (nx 422 (w_12 (op_tick hI (by omega)) h0 i5 hS)) ?_
      refine ifP (P := fun z => ∃ hf, z = some (some (vI 1), hf)) (nx 445 (w_13 (op_out hI) h0 i5 hS)) ?_
      refine ifP (P := fun z => ∃ hf, z = some (some (vI 1), hf)) (nx 468 (w_14 (op_marked hI (by omega)) h0 i5 hS)) ?_
      refine ifP (P := fun z => ∃ hf, z = some (some (vI 1), hf)) (nx 501 (w_15 (op_page hI) h0 i5 hS)) ?_
      refine ifP (P := fun z => ∃ hf, z = some (some (vI 1), hf)) (nx 534 (w_16 (op_trigger hI) h0 i5 hS)) ?_
      refine ifP (P := fun z => ∃ hf, z = some (some (vI 1), hf)) (nx 557 (w_17 (op_set hI hJ) h0 i5 hS)) ?_
      refine ifP (P := fun z => ∃ hf, z = some (some (vI 1), hf)) (nx 590 (w_18 (op_again hI) h0 i5 hS)) ?_
      refine ifP (P := fun z => ∃ hf, z = some (some (vI 1), hf)) (nx 603 (w_19 (op_draw hI) h0 i5 hS)) ?_
      refine ifP (P := fun z => ∃ hf, z = some (some (vI 1), hf)) (nx 636 (w_20 (op_keep hI) h0 i5 hS)) ?_
      refine ifP (P := fun z => ∃ hf, z = some (some (vI 1), hf)) (nx 659 (w_21 (op_back hI) h0 i5 hS)) ?_
      refine ifP (P := fun z => ∃ hf, z = some (some (vI 1), hf)) (nx 682 (w_22 (op_sheet hI) h0 i5 hS)) ?_
      refine ifP (P := fun z => ∃ hf, z = some (some (vI 1), hf)) (nx 725 (w_23 (op_lay hI (hx _)) h0 i5 hS)) ?_
      refine ifP (P := fun z => ∃ hf, z = some (some (vI 1), hf)) (nx 768 (w_24 (op_run hI (by omega) (hx _)) h0 i5 hS)) ?_
      refine ifP (P := fun z => ∃ hf, z = some (some (vI 1), hf)) (nx 821 (w_25 (op_torn hI) h0 i5 hS)) ?_
      refine ifP (P := fun z => ∃ hf, z = some (some (vI 1), hf)) (nx 834 (w_26 (op_count hI) h0 i5 hS)) ?_
      exact nx 857 ⟨I, b, rfl, Inv_m hI (by omega)⟩
theorem w_all (L : Nat) (xs : Nat → Int32) (hL : L ≤ 2560) : ∃ hf, zrun 217 [vR 899] (zh0 L xs) = some (some (vI 1), hf) := by
  have hz : Z0 (kI_0 (zI0 xs) 93) := fun c hc => by rw [f93, up_n (by omega), up_n (by omega), up_n (by omega), up_n (by omega)]
  have rb := r_begins (I := kI_0 (zI0 xs)) (b := false) (S := L) (by rw [gI_88]; exact t0_ok) hz (by intro c _; exact gI_99)
  rw [gI_88] at rb
  generalize hK : sP (sP (sI (kI_0 (zI0 xs)) 87 21 1) 99 (begF (fun _ => 0) (kI_0 (zI0 xs) 93))) 93 (begF (fun _ => 0) (kI_0 (zI0 xs) 93)) = K at rb
  have inv := inv_0 hK
  have md : zX 124 188 [vR 87, vI 4] [] (kI_0 (zI0 xs), zRs false, 103, L) = some (none, (K, zRs false, 103, L)) := by
    refine (xAload_n q124_188 rfl).trans ?_
    refine (xInvV [vR 87] [] q124_189 zo_124 zml_11_59 rfl rfl rfl (Or.inl ⟨rfl, (Nat.le_of_ble_eq_true rfl)⟩)).trans ?_
    rw [rb, Option.bind_some]
    simp only [zpush_n]
    exact xVret q124_192 zret_124
  have start : zrun 217 [vR 899] (zh0 L xs) = zX 217 18 [vR 899, vR 1, vR 87, vI 0] [] (K, zRs false, 103, L) := by
    show zX 217 0 [vR 899, none, none, none] [] (zI0 xs, zRm, 0, L) = _
    rw [kk_s]
    refine (xInvC [vR 87] [vR 87] q217_12 zo_217 zml_12_12 (by decide) rfl rfl rfl (Or.inl ⟨rfl, (Nat.le_of_ble_eq_true rfl)⟩)).trans ?_
    rw [kk_m]
    have e : ∀ x y, x = kI_0 (zI0 xs) → y = kR_0 zRm → (zX 124 188 [vR 87, vI 4] [] (x, y, 103, L)).bind (fun q => zX 217 15 [vR 899, vR 1, none, none] (zpush q.1 [vR 87]) q.2) = zX 217 18 [vR 899, vR 1, vR 87, vI 0] [] (K, zRs false, 103, L) := by
      intro x y hx hy
      rw [hx, hy, kR_eq, md, Option.bind_some]
      simp only [zpush_n]
      refine (xAstore_n q217_15 rfl rfl).trans ?_
      refine (xIconst q217_16).trans ?_
      exact xIstore_n q217_17 rfl rfl
    exact e _ _ rfl rfl
  rw [start]
  refine w_loop hL (stJ_0 xs) (fun j => ?_) 512 0 100 K false inv (by decide) (by decide) (by omega) (by decide)
  show -2147483648 ≤ (if (899 : Nat) = 899 then (xs j.toNat).toInt else _) ∧ (if (899 : Nat) = 899 then (xs j.toNat).toInt else _) ≤ 2147483647
  rw [if_pos rfl]
  have h1 := Int32.le_toInt (xs j.toNat)
  have h2 := Int32.toInt_lt (xs j.toNat)
  omega
end A74
