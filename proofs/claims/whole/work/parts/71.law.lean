section LAW
variable {G : GE} {J : Jd} {I : Ints} {b : Bool} {T : List Ln} {len : Nat} {sc : Int → Int}
theorem RX.pre {I1 : Ints} (h : RX I I T) (hA : ∀ c, 111 ≤ c → I1 c = I c) : WN (I1 112) ∧ WS I1 ∧ TM (I1 112) T := by
  refine ⟨by rw [hA 112 (by decide)]; exact h.1.1, ?_, by rw [hA 112 (by decide)]; exact h.1.2.2⟩
  unfold WS
  rw [hA 111 (by decide), hA 136 (by decide), hA 137 (by decide), hA 139 (by decide), hA 140 (by decide)]
  exact h.1.2.1
theorem law_0 (hJ : OkJ G RL false cL_law 4 23 143 9588 J) (hTb : TBs G) (hG : gT G 5 = (len, sc)) (hl : len ≤ 2560) (hi : ∀ j, inR (sc j)) (i : Int) (i0 : 0 ≤ i) (i1 : i + 5 ≤ len) (h : RX I I T) (K : ∀ (I2 : Ints) (b2 : Bool) (T2 : List Ln), RX I2 I2 T2 → J 1381 [vr (2000 + 5), vr 0, vr 111, vi i] [] (mk I2 b2)) : J 204 [vr (2000 + 5), vr 0, vr 111, vi i] [] (mk I b) := by
  have r1 := hi (i + 1)
  have r2 := hi (i + 2)
  have r3 := hi (i + 3)
  have r4 := hi (i + 4)
  refine mj_aload_n hJ dL_law_204 rfl ?_
  refine mj_aload_n hJ dL_law_205 rfl ?_
  refine mj_iload_n hJ dL_law_206 rfl ?_
  refine mj_iconst hJ dL_law_207 (by decide) ?_
  first | refine ms_iadd hJ dL_law_208 (by omega) ?_ | refine mj_iadd hJ dL_law_208 ?_
  refine mj_tald (t := 5) hJ dL_law_209 (by decide) (by assumption) (by omega) (by omega) (by assumption) ?_
  refine mk_Vi1 hJ dL_law_210 cw_L_13 rfl rfl rfl rfl (Nat.le_of_ble_eq_true rfl) (by first | decide | omega) (c_village (N := I) hTb h (sc (i + 1))) (fun z1 I1 b1 hq9 => ?_)
  obtain ⟨rfl, h1, hA⟩ := hq9
  have hp := h.pre hA
  have em := mix_eq hA
  refine mj_aload_n hJ dL_law_213 rfl ?_
  refine mj_aload_n hJ dL_law_214 rfl ?_
  refine mj_iload_n hJ dL_law_215 rfl ?_
  refine mj_iconst hJ dL_law_216 (by decide) ?_
  first | refine ms_iadd hJ dL_law_217 (by omega) ?_ | refine mj_iadd hJ dL_law_217 ?_
  refine mj_tald (t := 5) hJ dL_law_218 (by decide) (by assumption) (by omega) (by omega) (by assumption) ?_
  refine mk_Vi1 hJ dL_law_219 cw_L_17 rfl rfl rfl rfl (Nat.le_of_ble_eq_true rfl) (by first | decide | omega) (c_X9_village (sc (i + 1)) hp.1) (fun z2 I2 b2 hq9 => ?_)
  obtain ⟨rfl, rfl, h2⟩ := hq9
  have eF : F_village I1 (sc (i + 1)) = F_village I (sc (i + 1)) := (congrArg (fun y => F_village y (sc (i + 1))) em).trans (Fm_village I1 I (sc (i + 1)))
  rw [eF]
  refine mj_icmp_eq (tgt := 1381) hJ dL_law_222 (by decide) (fun _ => ?_) (fun hno => absurd rfl hno)
  have eG : G_village I1 (sc (i + 1)) = mix I1 (G_village I (sc (i + 1))) := (congrArg (fun y => G_village y (sc (i + 1))) em).trans (Gm_village I1 I (sc (i + 1)))
  exact K I2 _ _ (h1.join (by rw [← eG]; exact h2))
theorem law_1 (hJ : OkJ G RL false cL_law 4 23 143 9588 J) (hTb : TBs G) (hG : gT G 5 = (len, sc)) (hl : len ≤ 2560) (hi : ∀ j, inR (sc j)) (i : Int) (i0 : 0 ≤ i) (i1 : i + 5 ≤ len) (h : RX I I T) (K : ∀ (I2 : Ints) (b2 : Bool) (T2 : List Ln), RX I2 I2 T2 → J 1381 [vr (2000 + 5), vr 0, vr 111, vi i] [] (mk I2 b2)) : J 227 [vr (2000 + 5), vr 0, vr 111, vi i] [] (mk I b) := by
  have r1 := hi (i + 1)
  have r2 := hi (i + 2)
  have r3 := hi (i + 3)
  have r4 := hi (i + 4)
  refine mj_aload_n hJ dL_law_227 rfl ?_
  refine mj_aload_n hJ dL_law_228 rfl ?_
  refine mj_iload_n hJ dL_law_229 rfl ?_
  refine mj_iconst hJ dL_law_230 (by decide) ?_
  first | refine ms_iadd hJ dL_law_231 (by omega) ?_ | refine mj_iadd hJ dL_law_231 ?_
  refine mj_tald (t := 5) hJ dL_law_232 (by decide) (by assumption) (by omega) (by omega) (by assumption) ?_
  refine mj_aload_n hJ dL_law_233 rfl ?_
  refine mj_iload_n hJ dL_law_234 rfl ?_
  refine mj_iconst hJ dL_law_235 (by decide) ?_
  first | refine ms_iadd hJ dL_law_236 (by omega) ?_ | refine mj_iadd hJ dL_law_236 ?_
  refine mj_tald (t := 5) hJ dL_law_237 (by decide) (by assumption) (by omega) (by omega) (by assumption) ?_
  have hM := mtI_mono (c_villageOf (G := G) (I := I) (b := b) (N := I) h.1.1 h.2.1.1 (sc (i + 1)) (sc (i + 2))) (fun z I9 b9 q => RX.xs (b := b9) h q)
  refine mk_Vi2 hJ dL_law_238 cw_L_18 rfl rfl rfl rfl (Nat.le_of_ble_eq_true rfl) (by first | decide | omega) (hM) (fun z1 I1 b1 hq9 => ?_)
  obtain ⟨rfl, h1, hA⟩ := hq9
  have hp := h.pre hA
  have em := mix_eq hA
  refine mj_aload_n hJ dL_law_241 rfl ?_
  refine mj_aload_n hJ dL_law_242 rfl ?_
  refine mj_iload_n hJ dL_law_243 rfl ?_
  refine mj_iconst hJ dL_law_244 (by decide) ?_
  first | refine ms_iadd hJ dL_law_245 (by omega) ?_ | refine mj_iadd hJ dL_law_245 ?_
  refine mj_tald (t := 5) hJ dL_law_246 (by decide) (by assumption) (by omega) (by omega) (by assumption) ?_
  refine mj_aload_n hJ dL_law_247 rfl ?_
  refine mj_iload_n hJ dL_law_248 rfl ?_
  refine mj_iconst hJ dL_law_249 (by decide) ?_
  first | refine ms_iadd hJ dL_law_250 (by omega) ?_ | refine mj_iadd hJ dL_law_250 ?_
  refine mj_tald (t := 5) hJ dL_law_251 (by decide) (by assumption) (by omega) (by omega) (by assumption) ?_
  refine mk_Vi2 hJ dL_law_252 cw_L_22 rfl rfl rfl rfl (Nat.le_of_ble_eq_true rfl) (by first | decide | omega) (c_X9_villageOf (sc (i + 1)) (sc (i + 2)) hp.1) (fun z2 I2 b2 hq9 => ?_)
  obtain ⟨rfl, rfl, h2⟩ := hq9
  have eF : F_villageOf I1 (sc (i + 1)) (sc (i + 2)) = F_villageOf I (sc (i + 1)) (sc (i + 2)) := (congrArg (fun y => F_villageOf y (sc (i + 1)) (sc (i + 2))) em).trans (Fm_villageOf I1 I (sc (i + 1)) (sc (i + 2)))
  rw [eF]
  refine mj_icmp_eq (tgt := 1381) hJ dL_law_255 (by decide) (fun _ => ?_) (fun hno => absurd rfl hno)
  exact K I2 _ _ (h1.join (by rw [← em]; exact h2))
theorem law_2 (hJ : OkJ G RL false cL_law 4 23 143 9588 J) (hTb : TBs G) (hG : gT G 5 = (len, sc)) (hl : len ≤ 2560) (hi : ∀ j, inR (sc j)) (i : Int) (i0 : 0 ≤ i) (i1 : i + 5 ≤ len) (h : RX I I T) (K : ∀ (I2 : Ints) (b2 : Bool) (T2 : List Ln), RX I2 I2 T2 → J 1381 [vr (2000 + 5), vr 0, vr 111, vi i] [] (mk I2 b2)) : J 260 [vr (2000 + 5), vr 0, vr 111, vi i] [] (mk I b) := by
  have r1 := hi (i + 1)
  have r2 := hi (i + 2)
  have r3 := hi (i + 3)
  have r4 := hi (i + 4)
  refine mj_aload_n hJ dL_law_260 rfl ?_
  refine mj_aload_n hJ dL_law_261 rfl ?_
  refine mj_iload_n hJ dL_law_262 rfl ?_
  refine mj_iconst hJ dL_law_263 (by decide) ?_
  first | refine ms_iadd hJ dL_law_264 (by omega) ?_ | refine mj_iadd hJ dL_law_264 ?_
  refine mj_tald (t := 5) hJ dL_law_265 (by decide) (by assumption) (by omega) (by omega) (by assumption) ?_
  refine mj_aload_n hJ dL_law_266 rfl ?_
  refine mj_iload_n hJ dL_law_267 rfl ?_
  refine mj_iconst hJ dL_law_268 (by decide) ?_
  first | refine ms_iadd hJ dL_law_269 (by omega) ?_ | refine mj_iadd hJ dL_law_269 ?_
  refine mj_tald (t := 5) hJ dL_law_270 (by decide) (by assumption) (by omega) (by omega) (by assumption) ?_
  refine mj_aload_n hJ dL_law_271 rfl ?_
  refine mj_iload_n hJ dL_law_272 rfl ?_
  refine mj_iconst hJ dL_law_273 (by decide) ?_
  first | refine ms_iadd hJ dL_law_274 (by omega) ?_ | refine mj_iadd hJ dL_law_274 ?_
  refine mj_tald (t := 5) hJ dL_law_275 (by decide) (by assumption) (by omega) (by omega) (by assumption) ?_
  refine mk_Vi3 hJ dL_law_276 cw_L_23 rfl rfl rfl rfl (Nat.le_of_ble_eq_true rfl) (by first | decide | omega) (c_set (N := I) hTb h (sc (i + 1)) (sc (i + 2)) (sc (i + 3))) (fun z1 I1 b1 hq9 => ?_)
  obtain ⟨rfl, h1, hA⟩ := hq9
  have hp := h.pre hA
  have em := mix_eq hA
  refine mj_aload_n hJ dL_law_279 rfl ?_
  refine mj_aload_n hJ dL_law_280 rfl ?_
  refine mj_iload_n hJ dL_law_281 rfl ?_
  refine mj_iconst hJ dL_law_282 (by decide) ?_
  first | refine ms_iadd hJ dL_law_283 (by omega) ?_ | refine mj_iadd hJ dL_law_283 ?_
  refine mj_tald (t := 5) hJ dL_law_284 (by decide) (by assumption) (by omega) (by omega) (by assumption) ?_
  refine mj_aload_n hJ dL_law_285 rfl ?_
  refine mj_iload_n hJ dL_law_286 rfl ?_
  refine mj_iconst hJ dL_law_287 (by decide) ?_
  first | refine ms_iadd hJ dL_law_288 (by omega) ?_ | refine mj_iadd hJ dL_law_288 ?_
  refine mj_tald (t := 5) hJ dL_law_289 (by decide) (by assumption) (by omega) (by omega) (by assumption) ?_
  refine mj_aload_n hJ dL_law_290 rfl ?_
  refine mj_iload_n hJ dL_law_291 rfl ?_
  refine mj_iconst hJ dL_law_292 (by decide) ?_
  first | refine ms_iadd hJ dL_law_293 (by omega) ?_ | refine mj_iadd hJ dL_law_293 ?_
  refine mj_tald (t := 5) hJ dL_law_294 (by decide) (by assumption) (by omega) (by omega) (by assumption) ?_
  refine mk_Vi3 hJ dL_law_295 cw_L_27 rfl rfl rfl rfl (Nat.le_of_ble_eq_true rfl) (by first | decide | omega) (c_X9_set (sc (i + 1)) (sc (i + 2)) (sc (i + 3)) hp.1) (fun z2 I2 b2 hq9 => ?_)
  obtain ⟨rfl, rfl, h2⟩ := hq9
  have eF : F_set I1 (sc (i + 1)) (sc (i + 2)) (sc (i + 3)) = F_set I (sc (i + 1)) (sc (i + 2)) (sc (i + 3)) := (congrArg (fun y => F_set y (sc (i + 1)) (sc (i + 2)) (sc (i + 3))) em).trans (Fm_set I1 I (sc (i + 1)) (sc (i + 2)) (sc (i + 3)))
  rw [eF]
  refine mj_icmp_eq (tgt := 1381) hJ dL_law_298 (by decide) (fun _ => ?_) (fun hno => absurd rfl hno)
  have eG : G_set I1 (sc (i + 1)) (sc (i + 2)) (sc (i + 3)) = mix I1 (G_set I (sc (i + 1)) (sc (i + 2)) (sc (i + 3))) := (congrArg (fun y => G_set y (sc (i + 1)) (sc (i + 2)) (sc (i + 3))) em).trans (Gm_set I1 I (sc (i + 1)) (sc (i + 2)) (sc (i + 3)))
  exact K I2 _ _ (h1.join (by rw [← eG]; exact h2))
theorem law_3 (hJ : OkJ G RL false cL_law 4 23 143 9588 J) (hTb : TBs G) (hG : gT G 5 = (len, sc)) (hl : len ≤ 2560) (hi : ∀ j, inR (sc j)) (i : Int) (i0 : 0 ≤ i) (i1 : i + 5 ≤ len) (h : RX I I T) (K : ∀ (I2 : Ints) (b2 : Bool) (T2 : List Ln), RX I2 I2 T2 → J 1381 [vr (2000 + 5), vr 0, vr 111, vi i] [] (mk I2 b2)) : J 303 [vr (2000 + 5), vr 0, vr 111, vi i] [] (mk I b) := by
  have r1 := hi (i + 1)
  have r2 := hi (i + 2)
  have r3 := hi (i + 3)
  have r4 := hi (i + 4)
  refine mj_aload_n hJ dL_law_303 rfl ?_
  refine mj_aload_n hJ dL_law_304 rfl ?_
  refine mj_iload_n hJ dL_law_305 rfl ?_
  refine mj_iconst hJ dL_law_306 (by decide) ?_
  first | refine ms_iadd hJ dL_law_307 (by omega) ?_ | refine mj_iadd hJ dL_law_307 ?_
  refine mj_tald (t := 5) hJ dL_law_308 (by decide) (by assumption) (by omega) (by omega) (by assumption) ?_
  refine mj_aload_n hJ dL_law_309 rfl ?_
  refine mj_iload_n hJ dL_law_310 rfl ?_
  refine mj_iconst hJ dL_law_311 (by decide) ?_
  first | refine ms_iadd hJ dL_law_312 (by omega) ?_ | refine mj_iadd hJ dL_law_312 ?_
  refine mj_tald (t := 5) hJ dL_law_313 (by decide) (by assumption) (by omega) (by omega) (by assumption) ?_
  refine mk_Vi2 hJ dL_law_314 cw_L_28 rfl rfl rfl rfl (Nat.le_of_ble_eq_true rfl) (by first | decide | omega) (c_worths (N := I) h (sc (i + 1)) (sc (i + 2))) (fun z1 I1 b1 hq9 => ?_)
  obtain ⟨rfl, h1, hA⟩ := hq9
  have hp := h.pre hA
  have em := mix_eq hA
  refine mj_aload_n hJ dL_law_317 rfl ?_
  refine mj_aload_n hJ dL_law_318 rfl ?_
  refine mj_iload_n hJ dL_law_319 rfl ?_
  refine mj_iconst hJ dL_law_320 (by decide) ?_
  first | refine ms_iadd hJ dL_law_321 (by omega) ?_ | refine mj_iadd hJ dL_law_321 ?_
  refine mj_tald (t := 5) hJ dL_law_322 (by decide) (by assumption) (by omega) (by omega) (by assumption) ?_
  refine mj_aload_n hJ dL_law_323 rfl ?_
  refine mj_iload_n hJ dL_law_324 rfl ?_
  refine mj_iconst hJ dL_law_325 (by decide) ?_
  first | refine ms_iadd hJ dL_law_326 (by omega) ?_ | refine mj_iadd hJ dL_law_326 ?_
  refine mj_tald (t := 5) hJ dL_law_327 (by decide) (by assumption) (by omega) (by omega) (by assumption) ?_
  refine mk_Vi2 hJ dL_law_328 cw_L_31 rfl rfl rfl rfl (Nat.le_of_ble_eq_true rfl) (by first | decide | omega) (c_X9_worths (sc (i + 1)) (sc (i + 2)) hp.1 hp.2.1) (fun z2 I2 b2 hq9 => ?_)
  obtain ⟨rfl, rfl, h2⟩ := hq9
  have eF : F_worths I1 (sc (i + 1)) (sc (i + 2)) = F_worths I (sc (i + 1)) (sc (i + 2)) := (congrArg (fun y => F_worths y (sc (i + 1)) (sc (i + 2))) em).trans (Fm_worths I1 I (sc (i + 1)) (sc (i + 2)))
  rw [eF]
  refine mj_icmp_eq (tgt := 1381) hJ dL_law_331 (by decide) (fun _ => ?_) (fun hno => absurd rfl hno)
  have eG : G_worths I1 (sc (i + 1)) (sc (i + 2)) = mix I1 (G_worths I (sc (i + 1)) (sc (i + 2))) := (congrArg (fun y => G_worths y (sc (i + 1)) (sc (i + 2))) em).trans (Gm_worths I1 I (sc (i + 1)) (sc (i + 2)))
  exact K I2 _ _ (h1.join (by rw [← eG]; exact h2))
theorem law_4 (hJ : OkJ G RL false cL_law 4 23 143 9588 J) (hTb : TBs G) (hG : gT G 5 = (len, sc)) (hl : len ≤ 2560) (hi : ∀ j, inR (sc j)) (i : Int) (i0 : 0 ≤ i) (i1 : i + 5 ≤ len) (h : RX I I T) (K : ∀ (I2 : Ints) (b2 : Bool) (T2 : List Ln), RX I2 I2 T2 → J 1381 [vr (2000 + 5), vr 0, vr 111, vi i] [] (mk I2 b2)) : J 336 [vr (2000 + 5), vr 0, vr 111, vi i] [] (mk I b) := by
  have r1 := hi (i + 1)
  have r2 := hi (i + 2)
  have r3 := hi (i + 3)
  have r4 := hi (i + 4)
  refine mj_aload_n hJ dL_law_336 rfl ?_
  refine mj_aload_n hJ dL_law_337 rfl ?_
  refine mj_iload_n hJ dL_law_338 rfl ?_
  refine mj_iconst hJ dL_law_339 (by decide) ?_
  first | refine ms_iadd hJ dL_law_340 (by omega) ?_ | refine mj_iadd hJ dL_law_340 ?_
  refine mj_tald (t := 5) hJ dL_law_341 (by decide) (by assumption) (by omega) (by omega) (by assumption) ?_
  refine mj_aload_n hJ dL_law_342 rfl ?_
  refine mj_iload_n hJ dL_law_343 rfl ?_
  refine mj_iconst hJ dL_law_344 (by decide) ?_
  first | refine ms_iadd hJ dL_law_345 (by omega) ?_ | refine mj_iadd hJ dL_law_345 ?_
  refine mj_tald (t := 5) hJ dL_law_346 (by decide) (by assumption) (by omega) (by omega) (by assumption) ?_
  have hM := mtI_mono (c_worth (G := G) (I := I) (b := b) (N := I) h.1.1 h.2.1.1 (sc (i + 1)) (sc (i + 2))) (fun z I9 b9 q => RX.xs (b := b9) h q)
  refine mk_Vi2 hJ dL_law_347 cw_L_32 rfl rfl rfl rfl (Nat.le_of_ble_eq_true rfl) (by first | decide | omega) (hM) (fun z1 I1 b1 hq9 => ?_)
  obtain ⟨rfl, h1, hA⟩ := hq9
  have hp := h.pre hA
  have em := mix_eq hA
  refine mj_aload_n hJ dL_law_350 rfl ?_
  refine mj_aload_n hJ dL_law_351 rfl ?_
  refine mj_iload_n hJ dL_law_352 rfl ?_
  refine mj_iconst hJ dL_law_353 (by decide) ?_
  first | refine ms_iadd hJ dL_law_354 (by omega) ?_ | refine mj_iadd hJ dL_law_354 ?_
  refine mj_tald (t := 5) hJ dL_law_355 (by decide) (by assumption) (by omega) (by omega) (by assumption) ?_
  refine mj_aload_n hJ dL_law_356 rfl ?_
  refine mj_iload_n hJ dL_law_357 rfl ?_
  refine mj_iconst hJ dL_law_358 (by decide) ?_
  first | refine ms_iadd hJ dL_law_359 (by omega) ?_ | refine mj_iadd hJ dL_law_359 ?_
  refine mj_tald (t := 5) hJ dL_law_360 (by decide) (by assumption) (by omega) (by omega) (by assumption) ?_
  refine mk_Vi2 hJ dL_law_361 cw_L_35 rfl rfl rfl rfl (Nat.le_of_ble_eq_true rfl) (by first | decide | omega) (c_X9_worth (sc (i + 1)) (sc (i + 2)) hp.1) (fun z2 I2 b2 hq9 => ?_)
  obtain ⟨rfl, rfl, h2⟩ := hq9
  have eF : F_worth I1 (sc (i + 1)) (sc (i + 2)) = F_worth I (sc (i + 1)) (sc (i + 2)) := (congrArg (fun y => F_worth y (sc (i + 1)) (sc (i + 2))) em).trans (Fm_worth I1 I (sc (i + 1)) (sc (i + 2)))
  rw [eF]
  refine mj_icmp_eq (tgt := 1381) hJ dL_law_364 (by decide) (fun _ => ?_) (fun hno => absurd rfl hno)
  exact K I2 _ _ (h1.join (by rw [← em]; exact h2))
theorem law_5 (hJ : OkJ G RL false cL_law 4 23 143 9588 J) (hTb : TBs G) (hG : gT G 5 = (len, sc)) (hl : len ≤ 2560) (hi : ∀ j, inR (sc j)) (i : Int) (i0 : 0 ≤ i) (i1 : i + 5 ≤ len) (h : RX I I T) (K : ∀ (I2 : Ints) (b2 : Bool) (T2 : List Ln), RX I2 I2 T2 → J 1381 [vr (2000 + 5), vr 0, vr 111, vi i] [] (mk I2 b2)) : J 369 [vr (2000 + 5), vr 0, vr 111, vi i] [] (mk I b) := by
  have r1 := hi (i + 1)
  have r2 := hi (i + 2)
  have r3 := hi (i + 3)
  have r4 := hi (i + 4)
  refine mj_aload_n hJ dL_law_369 rfl ?_
  refine mj_aload_n hJ dL_law_370 rfl ?_
  refine mj_iload_n hJ dL_law_371 rfl ?_
  refine mj_iconst hJ dL_law_372 (by decide) ?_
  first | refine ms_iadd hJ dL_law_373 (by omega) ?_ | refine mj_iadd hJ dL_law_373 ?_
  refine mj_tald (t := 5) hJ dL_law_374 (by decide) (by assumption) (by omega) (by omega) (by assumption) ?_
  have hM := mtI_mono (c_best (G := G) (I := I) (b := b) (N := I) h.1.1 h.2.1.1 (sc (i + 1))) (fun z I9 b9 q => RX.xs (b := b9) h q)
  refine mk_Vi1 hJ dL_law_375 cw_L_36 rfl rfl rfl rfl (Nat.le_of_ble_eq_true rfl) (by first | decide | omega) (hM) (fun z1 I1 b1 hq9 => ?_)
  obtain ⟨rfl, h1, hA⟩ := hq9
  have hp := h.pre hA
  have em := mix_eq hA
  refine mj_aload_n hJ dL_law_378 rfl ?_
  refine mj_aload_n hJ dL_law_379 rfl ?_
  refine mj_iload_n hJ dL_law_380 rfl ?_
  refine mj_iconst hJ dL_law_381 (by decide) ?_
  first | refine ms_iadd hJ dL_law_382 (by omega) ?_ | refine mj_iadd hJ dL_law_382 ?_
  refine mj_tald (t := 5) hJ dL_law_383 (by decide) (by assumption) (by omega) (by omega) (by assumption) ?_
  refine mk_Vi1 hJ dL_law_384 cw_L_39 rfl rfl rfl rfl (Nat.le_of_ble_eq_true rfl) (by first | decide | omega) (c_X9_best (sc (i + 1)) hp.1) (fun z2 I2 b2 hq9 => ?_)
  obtain ⟨rfl, rfl, h2⟩ := hq9
  have eF : F_best I1 (sc (i + 1)) = F_best I (sc (i + 1)) := (congrArg (fun y => F_best y (sc (i + 1))) em).trans (Fm_best I1 I (sc (i + 1)))
  rw [eF]
  refine mj_icmp_eq (tgt := 1381) hJ dL_law_387 (by decide) (fun _ => ?_) (fun hno => absurd rfl hno)
  exact K I2 _ _ (h1.join (by rw [← em]; exact h2))
theorem law_6 (hJ : OkJ G RL false cL_law 4 23 143 9588 J) (hTb : TBs G) (hG : gT G 5 = (len, sc)) (hl : len ≤ 2560) (hi : ∀ j, inR (sc j)) (i : Int) (i0 : 0 ≤ i) (i1 : i + 5 ≤ len) (h : RX I I T) (K : ∀ (I2 : Ints) (b2 : Bool) (T2 : List Ln), RX I2 I2 T2 → J 1381 [vr (2000 + 5), vr 0, vr 111, vi i] [] (mk I2 b2)) : J 392 [vr (2000 + 5), vr 0, vr 111, vi i] [] (mk I b) := by
  have r1 := hi (i + 1)
  have r2 := hi (i + 2)
  have r3 := hi (i + 3)
  have r4 := hi (i + 4)
  refine mj_aload_n hJ dL_law_392 rfl ?_
  refine mj_aload_n hJ dL_law_393 rfl ?_
  refine mj_iload_n hJ dL_law_394 rfl ?_
  refine mj_iconst hJ dL_law_395 (by decide) ?_
  first | refine ms_iadd hJ dL_law_396 (by omega) ?_ | refine mj_iadd hJ dL_law_396 ?_
  refine mj_tald (t := 5) hJ dL_law_397 (by decide) (by assumption) (by omega) (by omega) (by assumption) ?_
  refine mj_aload_n hJ dL_law_398 rfl ?_
  refine mj_iload_n hJ dL_law_399 rfl ?_
  refine mj_iconst hJ dL_law_400 (by decide) ?_
  first | refine ms_iadd hJ dL_law_401 (by omega) ?_ | refine mj_iadd hJ dL_law_401 ?_
  refine mj_tald (t := 5) hJ dL_law_402 (by decide) (by assumption) (by omega) (by omega) (by assumption) ?_
  have hM := mtI_mono (c_use (G := G) (I := I) (b := b) (N := I) h.1.1 h.2.1.1 (sc (i + 1)) (sc (i + 2))) (fun z I9 b9 q => RX.xs (b := b9) h q)
  refine mk_Vi2 hJ dL_law_403 cw_L_40 rfl rfl rfl rfl (Nat.le_of_ble_eq_true rfl) (by first | decide | omega) (hM) (fun z1 I1 b1 hq9 => ?_)
  obtain ⟨rfl, h1, hA⟩ := hq9
  have hp := h.pre hA
  have em := mix_eq hA
  refine mj_aload_n hJ dL_law_406 rfl ?_
  refine mj_aload_n hJ dL_law_407 rfl ?_
  refine mj_iload_n hJ dL_law_408 rfl ?_
  refine mj_iconst hJ dL_law_409 (by decide) ?_
  first | refine ms_iadd hJ dL_law_410 (by omega) ?_ | refine mj_iadd hJ dL_law_410 ?_
  refine mj_tald (t := 5) hJ dL_law_411 (by decide) (by assumption) (by omega) (by omega) (by assumption) ?_
  refine mj_aload_n hJ dL_law_412 rfl ?_
  refine mj_iload_n hJ dL_law_413 rfl ?_
  refine mj_iconst hJ dL_law_414 (by decide) ?_
  first | refine ms_iadd hJ dL_law_415 (by omega) ?_ | refine mj_iadd hJ dL_law_415 ?_
  refine mj_tald (t := 5) hJ dL_law_416 (by decide) (by assumption) (by omega) (by omega) (by assumption) ?_
  refine mk_Vi2 hJ dL_law_417 cw_L_43 rfl rfl rfl rfl (Nat.le_of_ble_eq_true rfl) (by first | decide | omega) (c_X9_use (sc (i + 1)) (sc (i + 2)) hp.1) (fun z2 I2 b2 hq9 => ?_)
  obtain ⟨rfl, rfl, h2⟩ := hq9
  have eF : F_use I1 (sc (i + 1)) (sc (i + 2)) = F_use I (sc (i + 1)) (sc (i + 2)) := (congrArg (fun y => F_use y (sc (i + 1)) (sc (i + 2))) em).trans (Fm_use I1 I (sc (i + 1)) (sc (i + 2)))
  rw [eF]
  refine mj_icmp_eq (tgt := 1381) hJ dL_law_420 (by decide) (fun _ => ?_) (fun hno => absurd rfl hno)
  exact K I2 _ _ (h1.join (by rw [← em]; exact h2))
theorem law_7 (hJ : OkJ G RL false cL_law 4 23 143 9588 J) (hTb : TBs G) (hG : gT G 5 = (len, sc)) (hl : len ≤ 2560) (hi : ∀ j, inR (sc j)) (i : Int) (i0 : 0 ≤ i) (i1 : i + 5 ≤ len) (h : RX I I T) (K : ∀ (I2 : Ints) (b2 : Bool) (T2 : List Ln), RX I2 I2 T2 → J 1381 [vr (2000 + 5), vr 0, vr 111, vi i] [] (mk I2 b2)) : J 425 [vr (2000 + 5), vr 0, vr 111, vi i] [] (mk I b) := by
  have r1 := hi (i + 1)
  have r2 := hi (i + 2)
  have r3 := hi (i + 3)
  have r4 := hi (i + 4)
  refine mj_aload_n hJ dL_law_425 rfl ?_
  refine mj_aload_n hJ dL_law_426 rfl ?_
  refine mj_iload_n hJ dL_law_427 rfl ?_
  refine mj_iconst hJ dL_law_428 (by decide) ?_
  first | refine ms_iadd hJ dL_law_429 (by omega) ?_ | refine mj_iadd hJ dL_law_429 ?_
  refine mj_tald (t := 5) hJ dL_law_430 (by decide) (by assumption) (by omega) (by omega) (by assumption) ?_
  have hM := mtI_mono (c_price (G := G) (I := I) (b := b) (N := I) h.1.1 h.2.1.1 (sc (i + 1))) (fun z I9 b9 q => RX.xs (b := b9) h q)
  refine mk_Vi1 hJ dL_law_431 cw_L_44 rfl rfl rfl rfl (Nat.le_of_ble_eq_true rfl) (by first | decide | omega) (hM) (fun z1 I1 b1 hq9 => ?_)
  obtain ⟨rfl, h1, hA⟩ := hq9
  have hp := h.pre hA
  have em := mix_eq hA
  refine mj_aload_n hJ dL_law_434 rfl ?_
  refine mj_aload_n hJ dL_law_435 rfl ?_
  refine mj_iload_n hJ dL_law_436 rfl ?_
  refine mj_iconst hJ dL_law_437 (by decide) ?_
  first | refine ms_iadd hJ dL_law_438 (by omega) ?_ | refine mj_iadd hJ dL_law_438 ?_
  refine mj_tald (t := 5) hJ dL_law_439 (by decide) (by assumption) (by omega) (by omega) (by assumption) ?_
  refine mk_Vi1 hJ dL_law_440 cw_L_47 rfl rfl rfl rfl (Nat.le_of_ble_eq_true rfl) (by first | decide | omega) (c_X9_price (sc (i + 1)) hp.1) (fun z2 I2 b2 hq9 => ?_)
  obtain ⟨rfl, rfl, h2⟩ := hq9
  have eF : F_price I1 (sc (i + 1)) = F_price I (sc (i + 1)) := (congrArg (fun y => F_price y (sc (i + 1))) em).trans (Fm_price I1 I (sc (i + 1)))
  rw [eF]
  refine mj_icmp_eq (tgt := 1381) hJ dL_law_443 (by decide) (fun _ => ?_) (fun hno => absurd rfl hno)
  exact K I2 _ _ (h1.join (by rw [← em]; exact h2))
theorem law_8 (hJ : OkJ G RL false cL_law 4 23 143 9588 J) (hTb : TBs G) (hG : gT G 5 = (len, sc)) (hl : len ≤ 2560) (hi : ∀ j, inR (sc j)) (i : Int) (i0 : 0 ≤ i) (i1 : i + 5 ≤ len) (h : RX I I T) (K : ∀ (I2 : Ints) (b2 : Bool) (T2 : List Ln), RX I2 I2 T2 → J 1381 [vr (2000 + 5), vr 0, vr 111, vi i] [] (mk I2 b2)) : J 448 [vr (2000 + 5), vr 0, vr 111, vi i] [] (mk I b) := by
  have r1 := hi (i + 1)
  have r2 := hi (i + 2)
  have r3 := hi (i + 3)
  have r4 := hi (i + 4)
  refine mj_aload_n hJ dL_law_448 rfl ?_
  refine mj_aload_n hJ dL_law_449 rfl ?_
  refine mj_iload_n hJ dL_law_450 rfl ?_
  refine mj_iconst hJ dL_law_451 (by decide) ?_
  first | refine ms_iadd hJ dL_law_452 (by omega) ?_ | refine mj_iadd hJ dL_law_452 ?_
  refine mj_tald (t := 5) hJ dL_law_453 (by decide) (by assumption) (by omega) (by omega) (by assumption) ?_
  refine mj_aload_n hJ dL_law_454 rfl ?_
  refine mj_iload_n hJ dL_law_455 rfl ?_
  refine mj_iconst hJ dL_law_456 (by decide) ?_
  first | refine ms_iadd hJ dL_law_457 (by omega) ?_ | refine mj_iadd hJ dL_law_457 ?_
  refine mj_tald (t := 5) hJ dL_law_458 (by decide) (by assumption) (by omega) (by omega) (by assumption) ?_
  have hM := mtI_mono (c_run (G := G) (I := I) (b := b) (N := I) h.1.1 h.2.1.1 (sc (i + 1)) (sc (i + 2))) (fun z I9 b9 q => RX.xs (b := b9) h q)
  refine mk_Vi2 hJ dL_law_459 cw_L_48 rfl rfl rfl rfl (Nat.le_of_ble_eq_true rfl) (by first | decide | omega) (hM) (fun z1 I1 b1 hq9 => ?_)
  obtain ⟨rfl, h1, hA⟩ := hq9
  have hp := h.pre hA
  have em := mix_eq hA
  refine mj_aload_n hJ dL_law_462 rfl ?_
  refine mj_aload_n hJ dL_law_463 rfl ?_
  refine mj_iload_n hJ dL_law_464 rfl ?_
  refine mj_iconst hJ dL_law_465 (by decide) ?_
  first | refine ms_iadd hJ dL_law_466 (by omega) ?_ | refine mj_iadd hJ dL_law_466 ?_
  refine mj_tald (t := 5) hJ dL_law_467 (by decide) (by assumption) (by omega) (by omega) (by assumption) ?_
  refine mj_aload_n hJ dL_law_468 rfl ?_
  refine mj_iload_n hJ dL_law_469 rfl ?_
  refine mj_iconst hJ dL_law_470 (by decide) ?_
  first | refine ms_iadd hJ dL_law_471 (by omega) ?_ | refine mj_iadd hJ dL_law_471 ?_
  refine mj_tald (t := 5) hJ dL_law_472 (by decide) (by assumption) (by omega) (by omega) (by assumption) ?_
  refine mk_Vi2 hJ dL_law_473 cw_L_51 rfl rfl rfl rfl (Nat.le_of_ble_eq_true rfl) (by first | decide | omega) (c_X9_run (sc (i + 1)) (sc (i + 2)) hp.1) (fun z2 I2 b2 hq9 => ?_)
  obtain ⟨rfl, rfl, h2⟩ := hq9
  have eF : F_run I1 (sc (i + 1)) (sc (i + 2)) = F_run I (sc (i + 1)) (sc (i + 2)) := (congrArg (fun y => F_run y (sc (i + 1)) (sc (i + 2))) em).trans (Fm_run I1 I (sc (i + 1)) (sc (i + 2)))
  rw [eF]
  refine mj_icmp_eq (tgt := 1381) hJ dL_law_476 (by decide) (fun _ => ?_) (fun hno => absurd rfl hno)
  exact K I2 _ _ (h1.join (by rw [← em]; exact h2))
theorem law_9 (hJ : OkJ G RL false cL_law 4 23 143 9588 J) (hTb : TBs G) (hG : gT G 5 = (len, sc)) (hl : len ≤ 2560) (hi : ∀ j, inR (sc j)) (i : Int) (i0 : 0 ≤ i) (i1 : i + 5 ≤ len) (h : RX I I T) (K : ∀ (I2 : Ints) (b2 : Bool) (T2 : List Ln), RX I2 I2 T2 → J 1381 [vr (2000 + 5), vr 0, vr 111, vi i] [] (mk I2 b2)) : J 481 [vr (2000 + 5), vr 0, vr 111, vi i] [] (mk I b) := by
  have r1 := hi (i + 1)
  have r2 := hi (i + 2)
  have r3 := hi (i + 3)
  have r4 := hi (i + 4)
  refine mj_aload_n hJ dL_law_481 rfl ?_
  refine mj_aload_n hJ dL_law_482 rfl ?_
  refine mj_iload_n hJ dL_law_483 rfl ?_
  refine mj_iconst hJ dL_law_484 (by decide) ?_
  first | refine ms_iadd hJ dL_law_485 (by omega) ?_ | refine mj_iadd hJ dL_law_485 ?_
  refine mj_tald (t := 5) hJ dL_law_486 (by decide) (by assumption) (by omega) (by omega) (by assumption) ?_
  have hM := mtI_mono (c_most (G := G) (I := I) (b := b) (N := I) h.1.1 h.2.1.1 (sc (i + 1))) (fun z I9 b9 q => RX.xs (b := b9) h q)
  refine mk_Vi1 hJ dL_law_487 cw_L_52 rfl rfl rfl rfl (Nat.le_of_ble_eq_true rfl) (by first | decide | omega) (hM) (fun z1 I1 b1 hq9 => ?_)
  obtain ⟨rfl, h1, hA⟩ := hq9
  have hp := h.pre hA
  have em := mix_eq hA
  refine mj_aload_n hJ dL_law_490 rfl ?_
  refine mj_aload_n hJ dL_law_491 rfl ?_
  refine mj_iload_n hJ dL_law_492 rfl ?_
  refine mj_iconst hJ dL_law_493 (by decide) ?_
  first | refine ms_iadd hJ dL_law_494 (by omega) ?_ | refine mj_iadd hJ dL_law_494 ?_
  refine mj_tald (t := 5) hJ dL_law_495 (by decide) (by assumption) (by omega) (by omega) (by assumption) ?_
  refine mk_Vi1 hJ dL_law_496 cw_L_55 rfl rfl rfl rfl (Nat.le_of_ble_eq_true rfl) (by first | decide | omega) (c_X9_most (sc (i + 1)) hp.1) (fun z2 I2 b2 hq9 => ?_)
  obtain ⟨rfl, rfl, h2⟩ := hq9
  have eF : F_most I1 (sc (i + 1)) = F_most I (sc (i + 1)) := (congrArg (fun y => F_most y (sc (i + 1))) em).trans (Fm_most I1 I (sc (i + 1)))
  rw [eF]
  refine mj_icmp_eq (tgt := 1381) hJ dL_law_499 (by decide) (fun _ => ?_) (fun hno => absurd rfl hno)
  exact K I2 _ _ (h1.join (by rw [← em]; exact h2))
theorem law_10 (hJ : OkJ G RL false cL_law 4 23 143 9588 J) (hTb : TBs G) (hG : gT G 5 = (len, sc)) (hl : len ≤ 2560) (hi : ∀ j, inR (sc j)) (i : Int) (i0 : 0 ≤ i) (i1 : i + 5 ≤ len) (h : RX I I T) (K : ∀ (I2 : Ints) (b2 : Bool) (T2 : List Ln), RX I2 I2 T2 → J 1381 [vr (2000 + 5), vr 0, vr 111, vi i] [] (mk I2 b2)) : J 504 [vr (2000 + 5), vr 0, vr 111, vi i] [] (mk I b) := by
  have r1 := hi (i + 1)
  have r2 := hi (i + 2)
  have r3 := hi (i + 3)
  have r4 := hi (i + 4)
  refine mj_aload_n hJ dL_law_504 rfl ?_
  refine mj_aload_n hJ dL_law_505 rfl ?_
  refine mj_iload_n hJ dL_law_506 rfl ?_
  refine mj_iconst hJ dL_law_507 (by decide) ?_
  first | refine ms_iadd hJ dL_law_508 (by omega) ?_ | refine mj_iadd hJ dL_law_508 ?_
  refine mj_tald (t := 5) hJ dL_law_509 (by decide) (by assumption) (by omega) (by omega) (by assumption) ?_
  refine mj_aload_n hJ dL_law_510 rfl ?_
  refine mj_iload_n hJ dL_law_511 rfl ?_
  refine mj_iconst hJ dL_law_512 (by decide) ?_
  first | refine ms_iadd hJ dL_law_513 (by omega) ?_ | refine mj_iadd hJ dL_law_513 ?_
  refine mj_tald (t := 5) hJ dL_law_514 (by decide) (by assumption) (by omega) (by omega) (by assumption) ?_
  refine mj_aload_n hJ dL_law_515 rfl ?_
  refine mj_iload_n hJ dL_law_516 rfl ?_
  refine mj_iconst hJ dL_law_517 (by decide) ?_
  first | refine ms_iadd hJ dL_law_518 (by omega) ?_ | refine mj_iadd hJ dL_law_518 ?_
  refine mj_tald (t := 5) hJ dL_law_519 (by decide) (by assumption) (by omega) (by omega) (by assumption) ?_
  have hM := mtI_mono (c_share (G := G) (I := I) (b := b) (N := I) h.1.1 h.2.1.1 (sc (i + 1)) (sc (i + 2)) (sc (i + 3))) (fun z I9 b9 q => RX.xs (b := b9) h q)
  refine mk_Vi3 hJ dL_law_520 cw_L_56 rfl rfl rfl rfl (Nat.le_of_ble_eq_true rfl) (by first | decide | omega) (hM) (fun z1 I1 b1 hq9 => ?_)
  obtain ⟨rfl, h1, hA⟩ := hq9
  have hp := h.pre hA
  have em := mix_eq hA
  refine mj_aload_n hJ dL_law_523 rfl ?_
  refine mj_aload_n hJ dL_law_524 rfl ?_
  refine mj_iload_n hJ dL_law_525 rfl ?_
  refine mj_iconst hJ dL_law_526 (by decide) ?_
  first | refine ms_iadd hJ dL_law_527 (by omega) ?_ | refine mj_iadd hJ dL_law_527 ?_
  refine mj_tald (t := 5) hJ dL_law_528 (by decide) (by assumption) (by omega) (by omega) (by assumption) ?_
  refine mj_aload_n hJ dL_law_529 rfl ?_
  refine mj_iload_n hJ dL_law_530 rfl ?_
  refine mj_iconst hJ dL_law_531 (by decide) ?_
  first | refine ms_iadd hJ dL_law_532 (by omega) ?_ | refine mj_iadd hJ dL_law_532 ?_
  refine mj_tald (t := 5) hJ dL_law_533 (by decide) (by assumption) (by omega) (by omega) (by assumption) ?_
  refine mj_aload_n hJ dL_law_534 rfl ?_
  refine mj_iload_n hJ dL_law_535 rfl ?_
  refine mj_iconst hJ dL_law_536 (by decide) ?_
  first | refine ms_iadd hJ dL_law_537 (by omega) ?_ | refine mj_iadd hJ dL_law_537 ?_
  refine mj_tald (t := 5) hJ dL_law_538 (by decide) (by assumption) (by omega) (by omega) (by assumption) ?_
  refine mk_Vi3 hJ dL_law_539 cw_L_59 rfl rfl rfl rfl (Nat.le_of_ble_eq_true rfl) (by first | decide | omega) (c_X9_share (sc (i + 1)) (sc (i + 2)) (sc (i + 3)) hp.1) (fun z2 I2 b2 hq9 => ?_)
  obtain ⟨rfl, rfl, h2⟩ := hq9
  have eF : F_share I1 (sc (i + 1)) (sc (i + 2)) (sc (i + 3)) = F_share I (sc (i + 1)) (sc (i + 2)) (sc (i + 3)) := (congrArg (fun y => F_share y (sc (i + 1)) (sc (i + 2)) (sc (i + 3))) em).trans (Fm_share I1 I (sc (i + 1)) (sc (i + 2)) (sc (i + 3)))
  rw [eF]
  refine mj_icmp_eq (tgt := 1381) hJ dL_law_542 (by decide) (fun _ => ?_) (fun hno => absurd rfl hno)
  exact K I2 _ _ (h1.join (by rw [← em]; exact h2))
theorem law_11 (hJ : OkJ G RL false cL_law 4 23 143 9588 J) (hTb : TBs G) (hG : gT G 5 = (len, sc)) (hl : len ≤ 2560) (hi : ∀ j, inR (sc j)) (i : Int) (i0 : 0 ≤ i) (i1 : i + 5 ≤ len) (h : RX I I T) (K : ∀ (I2 : Ints) (b2 : Bool) (T2 : List Ln), RX I2 I2 T2 → J 1381 [vr (2000 + 5), vr 0, vr 111, vi i] [] (mk I2 b2)) : J 547 [vr (2000 + 5), vr 0, vr 111, vi i] [] (mk I b) := by
  have r1 := hi (i + 1)
  have r2 := hi (i + 2)
  have r3 := hi (i + 3)
  have r4 := hi (i + 4)
  refine mj_aload_n hJ dL_law_547 rfl ?_
  refine mj_aload_n hJ dL_law_548 rfl ?_
  refine mj_iload_n hJ dL_law_549 rfl ?_
  refine mj_iconst hJ dL_law_550 (by decide) ?_
  first | refine ms_iadd hJ dL_law_551 (by omega) ?_ | refine mj_iadd hJ dL_law_551 ?_
  refine mj_tald (t := 5) hJ dL_law_552 (by decide) (by assumption) (by omega) (by omega) (by assumption) ?_
  have hM := mtI_mono (c_broken (G := G) (I := I) (b := b) (N := I) h.1.1 h.2.1.1 (sc (i + 1))) (fun z I9 b9 q => RX.xs (b := b9) h q)
  refine mk_Vi1 hJ dL_law_553 cw_L_60 rfl rfl rfl rfl (Nat.le_of_ble_eq_true rfl) (by first | decide | omega) (hM) (fun z1 I1 b1 hq9 => ?_)
  obtain ⟨rfl, h1, hA⟩ := hq9
  have hp := h.pre hA
  have em := mix_eq hA
  refine mj_aload_n hJ dL_law_556 rfl ?_
  refine mj_aload_n hJ dL_law_557 rfl ?_
  refine mj_iload_n hJ dL_law_558 rfl ?_
  refine mj_iconst hJ dL_law_559 (by decide) ?_
  first | refine ms_iadd hJ dL_law_560 (by omega) ?_ | refine mj_iadd hJ dL_law_560 ?_
  refine mj_tald (t := 5) hJ dL_law_561 (by decide) (by assumption) (by omega) (by omega) (by assumption) ?_
  refine mk_Vi1 hJ dL_law_562 cw_L_63 rfl rfl rfl rfl (Nat.le_of_ble_eq_true rfl) (by first | decide | omega) (c_X9_broken (sc (i + 1)) hp.1) (fun z2 I2 b2 hq9 => ?_)
  obtain ⟨rfl, rfl, h2⟩ := hq9
  have eF : F_broken I1 (sc (i + 1)) = F_broken I (sc (i + 1)) := (congrArg (fun y => F_broken y (sc (i + 1))) em).trans (Fm_broken I1 I (sc (i + 1)))
  rw [eF]
  refine mj_icmp_eq (tgt := 1381) hJ dL_law_565 (by decide) (fun _ => ?_) (fun hno => absurd rfl hno)
  exact K I2 _ _ (h1.join (by rw [← em]; exact h2))
theorem law_12 (hJ : OkJ G RL false cL_law 4 23 143 9588 J) (hTb : TBs G) (hG : gT G 5 = (len, sc)) (hl : len ≤ 2560) (hi : ∀ j, inR (sc j)) (i : Int) (i0 : 0 ≤ i) (i1 : i + 5 ≤ len) (h : RX I I T) (K : ∀ (I2 : Ints) (b2 : Bool) (T2 : List Ln), RX I2 I2 T2 → J 1381 [vr (2000 + 5), vr 0, vr 111, vi i] [] (mk I2 b2)) : J 570 [vr (2000 + 5), vr 0, vr 111, vi i] [] (mk I b) := by
  have r1 := hi (i + 1)
  have r2 := hi (i + 2)
  have r3 := hi (i + 3)
  have r4 := hi (i + 4)
  refine mj_aload_n hJ dL_law_570 rfl ?_
  refine mj_aload_n hJ dL_law_571 rfl ?_
  refine mj_iload_n hJ dL_law_572 rfl ?_
  refine mj_iconst hJ dL_law_573 (by decide) ?_
  first | refine ms_iadd hJ dL_law_574 (by omega) ?_ | refine mj_iadd hJ dL_law_574 ?_
  refine mj_tald (t := 5) hJ dL_law_575 (by decide) (by assumption) (by omega) (by omega) (by assumption) ?_
  refine mk_Vi1 hJ dL_law_576 cw_L_64 rfl rfl rfl rfl (Nat.le_of_ble_eq_true rfl) (by first | decide | omega) (c_lawful (N := I) h (sc (i + 1))) (fun z1 I1 b1 hq9 => ?_)
  obtain ⟨rfl, h1, hA⟩ := hq9
  have hp := h.pre hA
  have em := mix_eq hA
  refine mj_aload_n hJ dL_law_579 rfl ?_
  refine mj_aload_n hJ dL_law_580 rfl ?_
  refine mj_iload_n hJ dL_law_581 rfl ?_
  refine mj_iconst hJ dL_law_582 (by decide) ?_
  first | refine ms_iadd hJ dL_law_583 (by omega) ?_ | refine mj_iadd hJ dL_law_583 ?_
  refine mj_tald (t := 5) hJ dL_law_584 (by decide) (by assumption) (by omega) (by omega) (by assumption) ?_
  refine mk_Vi1 hJ dL_law_585 cw_L_67 rfl rfl rfl rfl (Nat.le_of_ble_eq_true rfl) (by first | decide | omega) (c_X9_lawful (sc (i + 1)) hp.1) (fun z2 I2 b2 hq9 => ?_)
  obtain ⟨rfl, rfl, h2⟩ := hq9
  have eF : F_lawful I1 (sc (i + 1)) = F_lawful I (sc (i + 1)) := (congrArg (fun y => F_lawful y (sc (i + 1))) em).trans (Fm_lawful I1 I (sc (i + 1)))
  rw [eF]
  refine mj_icmp_eq (tgt := 1381) hJ dL_law_588 (by decide) (fun _ => ?_) (fun hno => absurd rfl hno)
  exact K I2 _ _ (h1.join (by rw [← em]; exact h2))
theorem law_13 (hJ : OkJ G RL false cL_law 4 23 143 9588 J) (hTb : TBs G) (hG : gT G 5 = (len, sc)) (hl : len ≤ 2560) (hi : ∀ j, inR (sc j)) (i : Int) (i0 : 0 ≤ i) (i1 : i + 5 ≤ len) (h : RX I I T) (K : ∀ (I2 : Ints) (b2 : Bool) (T2 : List Ln), RX I2 I2 T2 → J 1381 [vr (2000 + 5), vr 0, vr 111, vi i] [] (mk I2 b2)) : J 593 [vr (2000 + 5), vr 0, vr 111, vi i] [] (mk I b) := by
  have r1 := hi (i + 1)
  have r2 := hi (i + 2)
  have r3 := hi (i + 3)
  have r4 := hi (i + 4)
  refine mj_aload_n hJ dL_law_593 rfl ?_
  refine mj_aload_n hJ dL_law_594 rfl ?_
  refine mj_iload_n hJ dL_law_595 rfl ?_
  refine mj_iconst hJ dL_law_596 (by decide) ?_
  first | refine ms_iadd hJ dL_law_597 (by omega) ?_ | refine mj_iadd hJ dL_law_597 ?_
  refine mj_tald (t := 5) hJ dL_law_598 (by decide) (by assumption) (by omega) (by omega) (by assumption) ?_
  have hM := mtI_mono (c_cleaning (G := G) (I := I) (b := b) (N := I) h.1.1 h.2.1.1 (sc (i + 1))) (fun z I9 b9 q => RX.xs (b := b9) h q)
  refine mk_Vi1 hJ dL_law_599 cw_L_68 rfl rfl rfl rfl (Nat.le_of_ble_eq_true rfl) (by first | decide | omega) (hM) (fun z1 I1 b1 hq9 => ?_)
  obtain ⟨rfl, h1, hA⟩ := hq9
  have hp := h.pre hA
  have em := mix_eq hA
  refine mj_aload_n hJ dL_law_602 rfl ?_
  refine mj_aload_n hJ dL_law_603 rfl ?_
  refine mj_iload_n hJ dL_law_604 rfl ?_
  refine mj_iconst hJ dL_law_605 (by decide) ?_
  first | refine ms_iadd hJ dL_law_606 (by omega) ?_ | refine mj_iadd hJ dL_law_606 ?_
  refine mj_tald (t := 5) hJ dL_law_607 (by decide) (by assumption) (by omega) (by omega) (by assumption) ?_
  refine mk_Vi1 hJ dL_law_608 cw_L_71 rfl rfl rfl rfl (Nat.le_of_ble_eq_true rfl) (by first | decide | omega) (c_X9_cleaning (sc (i + 1)) hp.1) (fun z2 I2 b2 hq9 => ?_)
  obtain ⟨rfl, rfl, h2⟩ := hq9
  have eF : F_cleaning I1 (sc (i + 1)) = F_cleaning I (sc (i + 1)) := (congrArg (fun y => F_cleaning y (sc (i + 1))) em).trans (Fm_cleaning I1 I (sc (i + 1)))
  rw [eF]
  refine mj_icmp_eq (tgt := 1381) hJ dL_law_611 (by decide) (fun _ => ?_) (fun hno => absurd rfl hno)
  exact K I2 _ _ (h1.join (by rw [← em]; exact h2))
theorem law_14 (hJ : OkJ G RL false cL_law 4 23 143 9588 J) (hTb : TBs G) (hG : gT G 5 = (len, sc)) (hl : len ≤ 2560) (hi : ∀ j, inR (sc j)) (i : Int) (i0 : 0 ≤ i) (i1 : i + 5 ≤ len) (h : RX I I T) (K : ∀ (I2 : Ints) (b2 : Bool) (T2 : List Ln), RX I2 I2 T2 → J 1381 [vr (2000 + 5), vr 0, vr 111, vi i] [] (mk I2 b2)) : J 616 [vr (2000 + 5), vr 0, vr 111, vi i] [] (mk I b) := by
  have r1 := hi (i + 1)
  have r2 := hi (i + 2)
  have r3 := hi (i + 3)
  have r4 := hi (i + 4)
  refine mj_aload_n hJ dL_law_616 rfl ?_
  refine mj_aload_n hJ dL_law_617 rfl ?_
  refine mj_iload_n hJ dL_law_618 rfl ?_
  refine mj_iconst hJ dL_law_619 (by decide) ?_
  first | refine ms_iadd hJ dL_law_620 (by omega) ?_ | refine mj_iadd hJ dL_law_620 ?_
  refine mj_tald (t := 5) hJ dL_law_621 (by decide) (by assumption) (by omega) (by omega) (by assumption) ?_
  refine mk_Vi1 hJ dL_law_622 cw_L_72 rfl rfl rfl rfl (Nat.le_of_ble_eq_true rfl) (by first | decide | omega) (c_year (N := I) h (sc (i + 1))) (fun z1 I1 b1 hq9 => ?_)
  obtain ⟨rfl, h1, hA⟩ := hq9
  have hp := h.pre hA
  have em := mix_eq hA
  refine mj_aload_n hJ dL_law_625 rfl ?_
  refine mj_aload_n hJ dL_law_626 rfl ?_
  refine mj_iload_n hJ dL_law_627 rfl ?_
  refine mj_iconst hJ dL_law_628 (by decide) ?_
  first | refine ms_iadd hJ dL_law_629 (by omega) ?_ | refine mj_iadd hJ dL_law_629 ?_
  refine mj_tald (t := 5) hJ dL_law_630 (by decide) (by assumption) (by omega) (by omega) (by assumption) ?_
  refine mk_Vi1 hJ dL_law_631 cw_L_75 rfl rfl rfl rfl (Nat.le_of_ble_eq_true rfl) (by first | decide | omega) (c_X9_year (sc (i + 1)) hp.1) (fun z2 I2 b2 hq9 => ?_)
  obtain ⟨rfl, rfl, h2⟩ := hq9
  have eF : F_year I1 (sc (i + 1)) = F_year I (sc (i + 1)) := (congrArg (fun y => F_year y (sc (i + 1))) em).trans (Fm_year I1 I (sc (i + 1)))
  rw [eF]
  refine mj_icmp_eq (tgt := 1381) hJ dL_law_634 (by decide) (fun _ => ?_) (fun hno => absurd rfl hno)
  have eG : G_year I1 (sc (i + 1)) = mix I1 (G_year I (sc (i + 1))) := (congrArg (fun y => G_year y (sc (i + 1))) em).trans (Gm_year I1 I (sc (i + 1)))
  exact K I2 _ _ (h1.join (by rw [← eG]; exact h2))
theorem law_15 (hJ : OkJ G RL false cL_law 4 23 143 9588 J) (hTb : TBs G) (hG : gT G 5 = (len, sc)) (hl : len ≤ 2560) (hi : ∀ j, inR (sc j)) (i : Int) (i0 : 0 ≤ i) (i1 : i + 5 ≤ len) (h : RX I I T) (K : ∀ (I2 : Ints) (b2 : Bool) (T2 : List Ln), RX I2 I2 T2 → J 1381 [vr (2000 + 5), vr 0, vr 111, vi i] [] (mk I2 b2)) : J 639 [vr (2000 + 5), vr 0, vr 111, vi i] [] (mk I b) := by
  have r1 := hi (i + 1)
  have r2 := hi (i + 2)
  have r3 := hi (i + 3)
  have r4 := hi (i + 4)
  refine mj_aload_n hJ dL_law_639 rfl ?_
  refine mj_aload_n hJ dL_law_640 rfl ?_
  refine mj_iload_n hJ dL_law_641 rfl ?_
  refine mj_iconst hJ dL_law_642 (by decide) ?_
  first | refine ms_iadd hJ dL_law_643 (by omega) ?_ | refine mj_iadd hJ dL_law_643 ?_
  refine mj_tald (t := 5) hJ dL_law_644 (by decide) (by assumption) (by omega) (by omega) (by assumption) ?_
  refine mj_aload_n hJ dL_law_645 rfl ?_
  refine mj_iload_n hJ dL_law_646 rfl ?_
  refine mj_iconst hJ dL_law_647 (by decide) ?_
  first | refine ms_iadd hJ dL_law_648 (by omega) ?_ | refine mj_iadd hJ dL_law_648 ?_
  refine mj_tald (t := 5) hJ dL_law_649 (by decide) (by assumption) (by omega) (by omega) (by assumption) ?_
  refine mk_Vi2 hJ dL_law_650 cw_L_76 rfl rfl rfl rfl (Nat.le_of_ble_eq_true rfl) (by first | decide | omega) (c_yearOf (N := I) h (sc (i + 1)) (sc (i + 2))) (fun z1 I1 b1 hq9 => ?_)
  obtain ⟨rfl, h1, hA⟩ := hq9
  have hp := h.pre hA
  have em := mix_eq hA
  refine mj_aload_n hJ dL_law_653 rfl ?_
  refine mj_aload_n hJ dL_law_654 rfl ?_
  refine mj_iload_n hJ dL_law_655 rfl ?_
  refine mj_iconst hJ dL_law_656 (by decide) ?_
  first | refine ms_iadd hJ dL_law_657 (by omega) ?_ | refine mj_iadd hJ dL_law_657 ?_
  refine mj_tald (t := 5) hJ dL_law_658 (by decide) (by assumption) (by omega) (by omega) (by assumption) ?_
  refine mj_aload_n hJ dL_law_659 rfl ?_
  refine mj_iload_n hJ dL_law_660 rfl ?_
  refine mj_iconst hJ dL_law_661 (by decide) ?_
  first | refine ms_iadd hJ dL_law_662 (by omega) ?_ | refine mj_iadd hJ dL_law_662 ?_
  refine mj_tald (t := 5) hJ dL_law_663 (by decide) (by assumption) (by omega) (by omega) (by assumption) ?_
  refine mk_Vi2 hJ dL_law_664 cw_L_79 rfl rfl rfl rfl (Nat.le_of_ble_eq_true rfl) (by first | decide | omega) (c_X9_yearOf (sc (i + 1)) (sc (i + 2)) hp.1) (fun z2 I2 b2 hq9 => ?_)
  obtain ⟨rfl, rfl, h2⟩ := hq9
  have eF : F_yearOf I1 (sc (i + 1)) (sc (i + 2)) = F_yearOf I (sc (i + 1)) (sc (i + 2)) := (congrArg (fun y => F_yearOf y (sc (i + 1)) (sc (i + 2))) em).trans (Fm_yearOf I1 I (sc (i + 1)) (sc (i + 2)))
  rw [eF]
  refine mj_icmp_eq (tgt := 1381) hJ dL_law_667 (by decide) (fun _ => ?_) (fun hno => absurd rfl hno)
  have eG : G_yearOf I1 (sc (i + 1)) (sc (i + 2)) = mix I1 (G_yearOf I (sc (i + 1)) (sc (i + 2))) := (congrArg (fun y => G_yearOf y (sc (i + 1)) (sc (i + 2))) em).trans (Gm_yearOf I1 I (sc (i + 1)) (sc (i + 2)))
  exact K I2 _ _ (h1.join (by rw [← eG]; exact h2))
theorem law_16 (hJ : OkJ G RL false cL_law 4 23 143 9588 J) (hTb : TBs G) (hG : gT G 5 = (len, sc)) (hl : len ≤ 2560) (hi : ∀ j, inR (sc j)) (i : Int) (i0 : 0 ≤ i) (i1 : i + 5 ≤ len) (h : RX I I T) (K : ∀ (I2 : Ints) (b2 : Bool) (T2 : List Ln), RX I2 I2 T2 → J 1381 [vr (2000 + 5), vr 0, vr 111, vi i] [] (mk I2 b2)) : J 672 [vr (2000 + 5), vr 0, vr 111, vi i] [] (mk I b) := by
  have r1 := hi (i + 1)
  have r2 := hi (i + 2)
  have r3 := hi (i + 3)
  have r4 := hi (i + 4)
  refine mj_aload_n hJ dL_law_672 rfl ?_
  refine mj_aload_n hJ dL_law_673 rfl ?_
  refine mj_iload_n hJ dL_law_674 rfl ?_
  refine mj_iconst hJ dL_law_675 (by decide) ?_
  first | refine ms_iadd hJ dL_law_676 (by omega) ?_ | refine mj_iadd hJ dL_law_676 ?_
  refine mj_tald (t := 5) hJ dL_law_677 (by decide) (by assumption) (by omega) (by omega) (by assumption) ?_
  refine mj_aload_n hJ dL_law_678 rfl ?_
  refine mj_iload_n hJ dL_law_679 rfl ?_
  refine mj_iconst hJ dL_law_680 (by decide) ?_
  first | refine ms_iadd hJ dL_law_681 (by omega) ?_ | refine mj_iadd hJ dL_law_681 ?_
  refine mj_tald (t := 5) hJ dL_law_682 (by decide) (by assumption) (by omega) (by omega) (by assumption) ?_
  refine mk_Vi2 hJ dL_law_683 cw_L_80 rfl rfl rfl rfl (Nat.le_of_ble_eq_true rfl) (by first | decide | omega) (c_dam (N := I) h (sc (i + 1)) (sc (i + 2))) (fun z1 I1 b1 hq9 => ?_)
  obtain ⟨rfl, h1, hA⟩ := hq9
  have hp := h.pre hA
  have em := mix_eq hA
  refine mj_aload_n hJ dL_law_686 rfl ?_
  refine mj_aload_n hJ dL_law_687 rfl ?_
  refine mj_iload_n hJ dL_law_688 rfl ?_
  refine mj_iconst hJ dL_law_689 (by decide) ?_
  first | refine ms_iadd hJ dL_law_690 (by omega) ?_ | refine mj_iadd hJ dL_law_690 ?_
  refine mj_tald (t := 5) hJ dL_law_691 (by decide) (by assumption) (by omega) (by omega) (by assumption) ?_
  refine mj_aload_n hJ dL_law_692 rfl ?_
  refine mj_iload_n hJ dL_law_693 rfl ?_
  refine mj_iconst hJ dL_law_694 (by decide) ?_
  first | refine ms_iadd hJ dL_law_695 (by omega) ?_ | refine mj_iadd hJ dL_law_695 ?_
  refine mj_tald (t := 5) hJ dL_law_696 (by decide) (by assumption) (by omega) (by omega) (by assumption) ?_
  refine mk_Vi2 hJ dL_law_697 cw_L_83 rfl rfl rfl rfl (Nat.le_of_ble_eq_true rfl) (by first | decide | omega) (c_X9_dam (sc (i + 1)) (sc (i + 2)) hp.1) (fun z2 I2 b2 hq9 => ?_)
  obtain ⟨rfl, rfl, h2⟩ := hq9
  have eF : F_dam I1 (sc (i + 1)) (sc (i + 2)) = F_dam I (sc (i + 1)) (sc (i + 2)) := (congrArg (fun y => F_dam y (sc (i + 1)) (sc (i + 2))) em).trans (Fm_dam I1 I (sc (i + 1)) (sc (i + 2)))
  rw [eF]
  refine mj_icmp_eq (tgt := 1381) hJ dL_law_700 (by decide) (fun _ => ?_) (fun hno => absurd rfl hno)
  have eG : G_dam I1 (sc (i + 1)) (sc (i + 2)) = mix I1 (G_dam I (sc (i + 1)) (sc (i + 2))) := (congrArg (fun y => G_dam y (sc (i + 1)) (sc (i + 2))) em).trans (Gm_dam I1 I (sc (i + 1)) (sc (i + 2)))
  exact K I2 _ _ (h1.join (by rw [← eG]; exact h2))
theorem law_17 (hJ : OkJ G RL false cL_law 4 23 143 9588 J) (hTb : TBs G) (hG : gT G 5 = (len, sc)) (hl : len ≤ 2560) (hi : ∀ j, inR (sc j)) (i : Int) (i0 : 0 ≤ i) (i1 : i + 5 ≤ len) (h : RX I I T) (K : ∀ (I2 : Ints) (b2 : Bool) (T2 : List Ln), RX I2 I2 T2 → J 1381 [vr (2000 + 5), vr 0, vr 111, vi i] [] (mk I2 b2)) : J 705 [vr (2000 + 5), vr 0, vr 111, vi i] [] (mk I b) := by
  have r1 := hi (i + 1)
  have r2 := hi (i + 2)
  have r3 := hi (i + 3)
  have r4 := hi (i + 4)
  refine mj_aload_n hJ dL_law_705 rfl ?_
  refine mj_aload_n hJ dL_law_706 rfl ?_
  refine mj_iload_n hJ dL_law_707 rfl ?_
  refine mj_iconst hJ dL_law_708 (by decide) ?_
  first | refine ms_iadd hJ dL_law_709 (by omega) ?_ | refine mj_iadd hJ dL_law_709 ?_
  refine mj_tald (t := 5) hJ dL_law_710 (by decide) (by assumption) (by omega) (by omega) (by assumption) ?_
  have hM := mtI_mono (c_kept (G := G) (I := I) (b := b) (N := I) h.1.1 h.2.1.1 (sc (i + 1))) (fun z I9 b9 q => RX.xs (b := b9) h q)
  refine mk_Vi1 hJ dL_law_711 cw_L_84 rfl rfl rfl rfl (Nat.le_of_ble_eq_true rfl) (by first | decide | omega) (hM) (fun z1 I1 b1 hq9 => ?_)
  obtain ⟨rfl, h1, hA⟩ := hq9
  have hp := h.pre hA
  have em := mix_eq hA
  refine mj_aload_n hJ dL_law_714 rfl ?_
  refine mj_aload_n hJ dL_law_715 rfl ?_
  refine mj_iload_n hJ dL_law_716 rfl ?_
  refine mj_iconst hJ dL_law_717 (by decide) ?_
  first | refine ms_iadd hJ dL_law_718 (by omega) ?_ | refine mj_iadd hJ dL_law_718 ?_
  refine mj_tald (t := 5) hJ dL_law_719 (by decide) (by assumption) (by omega) (by omega) (by assumption) ?_
  refine mk_Vi1 hJ dL_law_720 cw_L_87 rfl rfl rfl rfl (Nat.le_of_ble_eq_true rfl) (by first | decide | omega) (c_X9_kept (sc (i + 1)) hp.1) (fun z2 I2 b2 hq9 => ?_)
  obtain ⟨rfl, rfl, h2⟩ := hq9
  have eF : F_kept I1 (sc (i + 1)) = F_kept I (sc (i + 1)) := (congrArg (fun y => F_kept y (sc (i + 1))) em).trans (Fm_kept I1 I (sc (i + 1)))
  rw [eF]
  refine mj_icmp_eq (tgt := 1381) hJ dL_law_723 (by decide) (fun _ => ?_) (fun hno => absurd rfl hno)
  exact K I2 _ _ (h1.join (by rw [← em]; exact h2))
theorem law_18 (hJ : OkJ G RL false cL_law 4 23 143 9588 J) (hTb : TBs G) (hG : gT G 5 = (len, sc)) (hl : len ≤ 2560) (hi : ∀ j, inR (sc j)) (i : Int) (i0 : 0 ≤ i) (i1 : i + 5 ≤ len) (h : RX I I T) (K : ∀ (I2 : Ints) (b2 : Bool) (T2 : List Ln), RX I2 I2 T2 → J 1381 [vr (2000 + 5), vr 0, vr 111, vi i] [] (mk I2 b2)) : J 728 [vr (2000 + 5), vr 0, vr 111, vi i] [] (mk I b) := by
  have r1 := hi (i + 1)
  have r2 := hi (i + 2)
  have r3 := hi (i + 3)
  have r4 := hi (i + 4)
  refine mj_aload_n hJ dL_law_728 rfl ?_
  refine mj_aload_n hJ dL_law_729 rfl ?_
  refine mj_iload_n hJ dL_law_730 rfl ?_
  refine mj_iconst hJ dL_law_731 (by decide) ?_
  first | refine ms_iadd hJ dL_law_732 (by omega) ?_ | refine mj_iadd hJ dL_law_732 ?_
  refine mj_tald (t := 5) hJ dL_law_733 (by decide) (by assumption) (by omega) (by omega) (by assumption) ?_
  refine mj_i2l hJ dL_law_734 ?_
  refine mj_bipush hJ dL_law_735 (by decide) ?_
  refine mj_lshl hJ dL_law_737 ?_
  refine mj_aload_n hJ dL_law_738 rfl ?_
  refine mj_iload_n hJ dL_law_739 rfl ?_
  refine mj_iconst hJ dL_law_740 (by decide) ?_
  first | refine ms_iadd hJ dL_law_741 (by omega) ?_ | refine mj_iadd hJ dL_law_741 ?_
  refine mj_tald (t := 5) hJ dL_law_742 (by decide) (by assumption) (by omega) (by omega) (by assumption) ?_
  refine mj_i2l hJ dL_law_743 ?_
  refine mj_ldc2 hJ dL_law_744 ct_L_88 ?_
  refine mj_land hJ dL_law_747 ?_
  refine mj_lor hJ dL_law_748 ?_
  refine mj_aload_n hJ dL_law_749 rfl ?_
  refine mj_iload_n hJ dL_law_750 rfl ?_
  refine mj_iconst hJ dL_law_751 (by decide) ?_
  first | refine ms_iadd hJ dL_law_752 (by omega) ?_ | refine mj_iadd hJ dL_law_752 ?_
  refine mj_tald (t := 5) hJ dL_law_753 (by decide) (by assumption) (by omega) (by omega) (by assumption) ?_
  refine mk_Vi2 hJ dL_law_754 cw_L_90 rfl rfl rfl rfl (Nat.le_of_ble_eq_true rfl) (by first | decide | omega) (c_feed (N := I) h _ (sc (i + 3))) (fun z1 I1 b1 hq9 => ?_)
  obtain ⟨rfl, h1, hA⟩ := hq9
  have hp := h.pre hA
  have em := mix_eq hA
  refine mj_aload_n hJ dL_law_757 rfl ?_
  refine mj_aload_n hJ dL_law_758 rfl ?_
  refine mj_iload_n hJ dL_law_759 rfl ?_
  refine mj_iconst hJ dL_law_760 (by decide) ?_
  first | refine ms_iadd hJ dL_law_761 (by omega) ?_ | refine mj_iadd hJ dL_law_761 ?_
  refine mj_tald (t := 5) hJ dL_law_762 (by decide) (by assumption) (by omega) (by omega) (by assumption) ?_
  refine mj_i2l hJ dL_law_763 ?_
  refine mj_bipush hJ dL_law_764 (by decide) ?_
  refine mj_lshl hJ dL_law_766 ?_
  refine mj_aload_n hJ dL_law_767 rfl ?_
  refine mj_iload_n hJ dL_law_768 rfl ?_
  refine mj_iconst hJ dL_law_769 (by decide) ?_
  first | refine ms_iadd hJ dL_law_770 (by omega) ?_ | refine mj_iadd hJ dL_law_770 ?_
  refine mj_tald (t := 5) hJ dL_law_771 (by decide) (by assumption) (by omega) (by omega) (by assumption) ?_
  refine mj_i2l hJ dL_law_772 ?_
  refine mj_ldc2 hJ dL_law_773 ct_L_88 ?_
  refine mj_land hJ dL_law_776 ?_
  refine mj_lor hJ dL_law_777 ?_
  refine mj_aload_n hJ dL_law_778 rfl ?_
  refine mj_iload_n hJ dL_law_779 rfl ?_
  refine mj_iconst hJ dL_law_780 (by decide) ?_
  first | refine ms_iadd hJ dL_law_781 (by omega) ?_ | refine mj_iadd hJ dL_law_781 ?_
  refine mj_tald (t := 5) hJ dL_law_782 (by decide) (by assumption) (by omega) (by omega) (by assumption) ?_
  refine mk_Vi2 hJ dL_law_783 cw_L_94 rfl rfl rfl rfl (Nat.le_of_ble_eq_true rfl) (by first | decide | omega) (c_X9_feed _ (sc (i + 3)) hp.2.1) (fun z2 I2 b2 hq9 => ?_)
  obtain ⟨rfl, rfl, h2⟩ := hq9
  have eF : F_feed I1 (sc (i + 3)) = F_feed I (sc (i + 3)) := (congrArg (fun y => F_feed y (sc (i + 3))) em).trans (Fm_feed I1 I (sc (i + 3)))
  rw [eF]
  refine mj_icmp_eq (tgt := 1381) hJ dL_law_786 (by decide) (fun _ => ?_) (fun hno => absurd rfl hno)
  exact K I2 _ _ (h1.join (by rw [← Gm_feed, ← em]; exact h2))
theorem law_19 (hJ : OkJ G RL false cL_law 4 23 143 9588 J) (hTb : TBs G) (hG : gT G 5 = (len, sc)) (hl : len ≤ 2560) (hi : ∀ j, inR (sc j)) (i : Int) (i0 : 0 ≤ i) (i1 : i + 5 ≤ len) (h : RX I I T) (K : ∀ (I2 : Ints) (b2 : Bool) (T2 : List Ln), RX I2 I2 T2 → J 1381 [vr (2000 + 5), vr 0, vr 111, vi i] [] (mk I2 b2)) : J 791 [vr (2000 + 5), vr 0, vr 111, vi i] [] (mk I b) := by
  have r1 := hi (i + 1)
  have r2 := hi (i + 2)
  have r3 := hi (i + 3)
  have r4 := hi (i + 4)
  refine mj_aload_n hJ dL_law_791 rfl ?_
  refine mk_Vi0 hJ dL_law_792 cw_L_95 rfl rfl rfl rfl (Nat.le_of_ble_eq_true rfl) (by first | decide | omega) (c_read (N := I) h) (fun z1 I1 b1 hq9 => ?_)
  obtain ⟨rfl, hA, hY, hN⟩ := hq9
  have hp := h.pre hA
  have em := mix_eq hA
  refine mj_aload_n hJ dL_law_795 rfl ?_
  refine mk_Vi0 hJ dL_law_796 cw_L_99 rfl rfl rfl rfl (Nat.le_of_ble_eq_true rfl) (by first | decide | omega) (c_X9_read hp.2.1) (fun z2 I2 b2 hq9 => ?_)
  obtain ⟨rfl, rfl, hy, hn⟩ := hq9
  have eF : F_read I1 = F_read I := (congrArg (fun y => F_read y) em).trans (Fm_read I1 I)
  rw [eF]
  refine mj_icmp_eq (tgt := 1381) hJ dL_law_799 (by decide) (fun _ => ?_) (fun hno => absurd rfl hno)
  have e127 : I1 127 = I 127 := hA 127 (by decide)
  have e17 : I1 111 17 = I 111 17 := by rw [hA 111 (by decide)]
  have e112 : I1 112 = I 112 := hA 112 (by decide)
  rw [e127, e17] at hy hn
  cases c : (ptext (I 127) (I 111 17)).1 with
  | true =>
    obtain ⟨f, f1, f2, f3⟩ := hy c
    have h1 := hY c f f1 (fun j j0 j1 j2 j3 => by rw [f2 j j1 j2 j3, e112])
    refine K I2 _ _ (h1.join ?_)
    have eG : upI (rowI I1 112 f) 111 17 0 = mix I1 (upI (rowI I 112 f) 111 17 0) := (congrArg (fun y => upI (rowI y 112 f) 111 17 0) em).trans (by rw [rowI_mix (by decide), upI_mix (by decide)])
    rw [← eG]
    exact f3
  | false =>
    refine K I2 _ _ ((hN c).join ?_)
    have eG : upI I1 111 17 0 = mix I1 (upI I 111 17 0) := (congrArg (fun y => upI y 111 17 0) em).trans (by rw [upI_mix (by decide)])
    rw [← eG]
    exact hn c
theorem law_20 (hJ : OkJ G RL false cL_law 4 23 143 9588 J) (hTb : TBs G) (hG : gT G 5 = (len, sc)) (hl : len ≤ 2560) (hi : ∀ j, inR (sc j)) (i : Int) (i0 : 0 ≤ i) (i1 : i + 5 ≤ len) (h : RX I I T) (K : ∀ (I2 : Ints) (b2 : Bool) (T2 : List Ln), RX I2 I2 T2 → J 1381 [vr (2000 + 5), vr 0, vr 111, vi i] [] (mk I2 b2)) : J 804 [vr (2000 + 5), vr 0, vr 111, vi i] [] (mk I b) := by
  have r1 := hi (i + 1)
  have r2 := hi (i + 2)
  have r3 := hi (i + 3)
  have r4 := hi (i + 4)
  refine mj_aload_n hJ dL_law_804 rfl ?_
  refine mj_aload_n hJ dL_law_805 rfl ?_
  refine mj_iload_n hJ dL_law_806 rfl ?_
  refine mj_iconst hJ dL_law_807 (by decide) ?_
  first | refine ms_iadd hJ dL_law_808 (by omega) ?_ | refine mj_iadd hJ dL_law_808 ?_
  refine mj_tald (t := 5) hJ dL_law_809 (by decide) (by assumption) (by omega) (by omega) (by assumption) ?_
  refine mj_aload_n hJ dL_law_810 rfl ?_
  refine mj_iload_n hJ dL_law_811 rfl ?_
  refine mj_iconst hJ dL_law_812 (by decide) ?_
  first | refine ms_iadd hJ dL_law_813 (by omega) ?_ | refine mj_iadd hJ dL_law_813 ?_
  refine mj_tald (t := 5) hJ dL_law_814 (by decide) (by assumption) (by omega) (by omega) (by assumption) ?_
  refine mj_aload_n hJ dL_law_815 rfl ?_
  refine mj_iload_n hJ dL_law_816 rfl ?_
  refine mj_iconst hJ dL_law_817 (by decide) ?_
  first | refine ms_iadd hJ dL_law_818 (by omega) ?_ | refine mj_iadd hJ dL_law_818 ?_
  refine mj_tald (t := 5) hJ dL_law_819 (by decide) (by assumption) (by omega) (by omega) (by assumption) ?_
  have hM := mtI_mono (c_treaty (G := G) (I := I) (b := b) (N := I) h.1.1 h.2.1.1 T h.2.1.2 (TW_of h.1.2.2) (sc (i + 1)) (sc (i + 2)) (sc (i + 3))) (fun z I9 b9 q => RX.xs (b := b9) h q)
  refine mk_Vi3 hJ dL_law_820 cw_L_100 rfl rfl rfl rfl (Nat.le_of_ble_eq_true rfl) (by first | decide | omega) (hM) (fun z1 I1 b1 hq9 => ?_)
  obtain ⟨rfl, h1, hA⟩ := hq9
  have hp := h.pre hA
  have em := mix_eq hA
  refine mj_aload_n hJ dL_law_823 rfl ?_
  refine mj_aload_n hJ dL_law_824 rfl ?_
  refine mj_iload_n hJ dL_law_825 rfl ?_
  refine mj_iconst hJ dL_law_826 (by decide) ?_
  first | refine ms_iadd hJ dL_law_827 (by omega) ?_ | refine mj_iadd hJ dL_law_827 ?_
  refine mj_tald (t := 5) hJ dL_law_828 (by decide) (by assumption) (by omega) (by omega) (by assumption) ?_
  refine mj_aload_n hJ dL_law_829 rfl ?_
  refine mj_iload_n hJ dL_law_830 rfl ?_
  refine mj_iconst hJ dL_law_831 (by decide) ?_
  first | refine ms_iadd hJ dL_law_832 (by omega) ?_ | refine mj_iadd hJ dL_law_832 ?_
  refine mj_tald (t := 5) hJ dL_law_833 (by decide) (by assumption) (by omega) (by omega) (by assumption) ?_
  refine mj_aload_n hJ dL_law_834 rfl ?_
  refine mj_iload_n hJ dL_law_835 rfl ?_
  refine mj_iconst hJ dL_law_836 (by decide) ?_
  first | refine ms_iadd hJ dL_law_837 (by omega) ?_ | refine mj_iadd hJ dL_law_837 ?_
  refine mj_tald (t := 5) hJ dL_law_838 (by decide) (by assumption) (by omega) (by omega) (by assumption) ?_
  refine mk_Vi3 hJ dL_law_839 cw_L_103 rfl rfl rfl rfl (Nat.le_of_ble_eq_true rfl) (by first | decide | omega) (c_X9_treaty (sc (i + 1)) (sc (i + 2)) (sc (i + 3)) T hp.1 hp.2.2) (fun z2 I2 b2 hq9 => ?_)
  obtain ⟨rfl, rfl, h2⟩ := hq9
  have eF : F_treaty I1 T (sc (i + 1)) (sc (i + 2)) (sc (i + 3)) = F_treaty I T (sc (i + 1)) (sc (i + 2)) (sc (i + 3)) := (congrArg (fun y => F_treaty y T (sc (i + 1)) (sc (i + 2)) (sc (i + 3))) em).trans (Fm_treaty I1 I T (sc (i + 1)) (sc (i + 2)) (sc (i + 3)))
  rw [eF]
  refine mj_icmp_eq (tgt := 1381) hJ dL_law_842 (by decide) (fun _ => ?_) (fun hno => absurd rfl hno)
  exact K I2 _ _ (h1.join (by rw [← em]; exact h2))
theorem law_21 (hJ : OkJ G RL false cL_law 4 23 143 9588 J) (hTb : TBs G) (hG : gT G 5 = (len, sc)) (hl : len ≤ 2560) (hi : ∀ j, inR (sc j)) (i : Int) (i0 : 0 ≤ i) (i1 : i + 5 ≤ len) (h : RX I I T) (K : ∀ (I2 : Ints) (b2 : Bool) (T2 : List Ln), RX I2 I2 T2 → J 1381 [vr (2000 + 5), vr 0, vr 111, vi i] [] (mk I2 b2)) : J 847 [vr (2000 + 5), vr 0, vr 111, vi i] [] (mk I b) := by
  have r1 := hi (i + 1)
  have r2 := hi (i + 2)
  have r3 := hi (i + 3)
  have r4 := hi (i + 4)
  refine mj_aload_n hJ dL_law_847 rfl ?_
  have hM := mtI_mono (c_lost (G := G) (I := I) (b := b) (N := I) h.1.1 h.2.1.1 T h.2.1.2 (TW_of h.1.2.2) ) (fun z I9 b9 q => RX.xs (b := b9) h q)
  refine mk_Vi0 hJ dL_law_848 cw_L_104 rfl rfl rfl rfl (Nat.le_of_ble_eq_true rfl) (by first | decide | omega) (hM) (fun z1 I1 b1 hq9 => ?_)
  obtain ⟨rfl, h1, hA⟩ := hq9
  have hp := h.pre hA
  have em := mix_eq hA
  refine mj_aload_n hJ dL_law_851 rfl ?_
  refine mk_Vi0 hJ dL_law_852 cw_L_107 rfl rfl rfl rfl (Nat.le_of_ble_eq_true rfl) (by first | decide | omega) (c_X9_lost T hp.1 hp.2.2) (fun z2 I2 b2 hq9 => ?_)
  obtain ⟨rfl, rfl, h2⟩ := hq9
  have eF : F_lost I1 T = F_lost I T := (congrArg (fun y => F_lost y T) em).trans (Fm_lost I1 I T)
  rw [eF]
  refine mj_icmp_eq (tgt := 1381) hJ dL_law_855 (by decide) (fun _ => ?_) (fun hno => absurd rfl hno)
  exact K I2 _ _ (h1.join (by rw [← em]; exact h2))
theorem law_22 (hJ : OkJ G RL false cL_law 4 23 143 9588 J) (hTb : TBs G) (hG : gT G 5 = (len, sc)) (hl : len ≤ 2560) (hi : ∀ j, inR (sc j)) (i : Int) (i0 : 0 ≤ i) (i1 : i + 5 ≤ len) (h : RX I I T) (K : ∀ (I2 : Ints) (b2 : Bool) (T2 : List Ln), RX I2 I2 T2 → J 1381 [vr (2000 + 5), vr 0, vr 111, vi i] [] (mk I2 b2)) : J 860 [vr (2000 + 5), vr 0, vr 111, vi i] [] (mk I b) := by
  have r1 := hi (i + 1)
  have r2 := hi (i + 2)
  have r3 := hi (i + 3)
  have r4 := hi (i + 4)
  refine mj_aload_n hJ dL_law_860 rfl ?_
  refine mj_aload_n hJ dL_law_861 rfl ?_
  refine mj_iload_n hJ dL_law_862 rfl ?_
  refine mj_iconst hJ dL_law_863 (by decide) ?_
  first | refine ms_iadd hJ dL_law_864 (by omega) ?_ | refine mj_iadd hJ dL_law_864 ?_
  refine mj_tald (t := 5) hJ dL_law_865 (by decide) (by assumption) (by omega) (by omega) (by assumption) ?_
  have hM := mtI_mono (c_plain (G := G) (I := I) (b := b) (N := I) h.1.1 h.2.1.1 T (sc (i + 1))) (fun z I9 b9 q => RX.xs (b := b9) h q)
  refine mk_Vi1 hJ dL_law_866 cw_L_108 rfl rfl rfl rfl (Nat.le_of_ble_eq_true rfl) (by first | decide | omega) (hM) (fun z1 I1 b1 hq9 => ?_)
  obtain ⟨rfl, h1, hA⟩ := hq9
  have hp := h.pre hA
  have em := mix_eq hA
  refine mj_aload_n hJ dL_law_869 rfl ?_
  refine mj_aload_n hJ dL_law_870 rfl ?_
  refine mj_iload_n hJ dL_law_871 rfl ?_
  refine mj_iconst hJ dL_law_872 (by decide) ?_
  first | refine ms_iadd hJ dL_law_873 (by omega) ?_ | refine mj_iadd hJ dL_law_873 ?_
  refine mj_tald (t := 5) hJ dL_law_874 (by decide) (by assumption) (by omega) (by omega) (by assumption) ?_
  refine mk_Vi1 hJ dL_law_875 cw_L_111 rfl rfl rfl rfl (Nat.le_of_ble_eq_true rfl) (by first | decide | omega) (c_X9_plain (sc (i + 1)) T hp.1 hp.2.2) (fun z2 I2 b2 hq9 => ?_)
  obtain ⟨rfl, rfl, h2⟩ := hq9
  have eF : F_plain I1 T (sc (i + 1)) = F_plain I T (sc (i + 1)) := (congrArg (fun y => F_plain y T (sc (i + 1))) em).trans (Fm_plain I1 I T (sc (i + 1)))
  rw [eF]
  refine mj_icmp_eq (tgt := 1381) hJ dL_law_878 (by decide) (fun _ => ?_) (fun hno => absurd rfl hno)
  exact K I2 _ _ (h1.join (by rw [← em]; exact h2))
theorem law_23 (hJ : OkJ G RL false cL_law 4 23 143 9588 J) (hTb : TBs G) (hG : gT G 5 = (len, sc)) (hl : len ≤ 2560) (hi : ∀ j, inR (sc j)) (i : Int) (i0 : 0 ≤ i) (i1 : i + 5 ≤ len) (h : RX I I T) (K : ∀ (I2 : Ints) (b2 : Bool) (T2 : List Ln), RX I2 I2 T2 → J 1381 [vr (2000 + 5), vr 0, vr 111, vi i] [] (mk I2 b2)) : J 883 [vr (2000 + 5), vr 0, vr 111, vi i] [] (mk I b) := by
  have r1 := hi (i + 1)
  have r2 := hi (i + 2)
  have r3 := hi (i + 3)
  have r4 := hi (i + 4)
  refine mj_aload_n hJ dL_law_883 rfl ?_
  refine mj_aload_n hJ dL_law_884 rfl ?_
  refine mj_iload_n hJ dL_law_885 rfl ?_
  refine mj_iconst hJ dL_law_886 (by decide) ?_
  first | refine ms_iadd hJ dL_law_887 (by omega) ?_ | refine mj_iadd hJ dL_law_887 ?_
  refine mj_tald (t := 5) hJ dL_law_888 (by decide) (by assumption) (by omega) (by omega) (by assumption) ?_
  have hM := mtI_mono (c_breaks (G := G) (I := I) (b := b) (N := I) h.1.1 h.2.1.1 T h.2.1.2 (TW_of h.1.2.2) (sc (i + 1))) (fun z I9 b9 q => RX.xs (b := b9) h q)
  refine mk_Vi1 hJ dL_law_889 cw_L_112 rfl rfl rfl rfl (Nat.le_of_ble_eq_true rfl) (by first | decide | omega) (hM) (fun z1 I1 b1 hq9 => ?_)
  obtain ⟨rfl, h1, hA⟩ := hq9
  have hp := h.pre hA
  have em := mix_eq hA
  refine mj_aload_n hJ dL_law_892 rfl ?_
  refine mj_aload_n hJ dL_law_893 rfl ?_
  refine mj_iload_n hJ dL_law_894 rfl ?_
  refine mj_iconst hJ dL_law_895 (by decide) ?_
  first | refine ms_iadd hJ dL_law_896 (by omega) ?_ | refine mj_iadd hJ dL_law_896 ?_
  refine mj_tald (t := 5) hJ dL_law_897 (by decide) (by assumption) (by omega) (by omega) (by assumption) ?_
  refine mk_Vi1 hJ dL_law_898 cw_L_115 rfl rfl rfl rfl (Nat.le_of_ble_eq_true rfl) (by first | decide | omega) (c_X9_breaks (sc (i + 1)) T hp.1 hp.2.2) (fun z2 I2 b2 hq9 => ?_)
  obtain ⟨rfl, rfl, h2⟩ := hq9
  have eF : F_breaks I1 T (sc (i + 1)) = F_breaks I T (sc (i + 1)) := (congrArg (fun y => F_breaks y T (sc (i + 1))) em).trans (Fm_breaks I1 I T (sc (i + 1)))
  rw [eF]
  refine mj_icmp_eq (tgt := 1381) hJ dL_law_901 (by decide) (fun _ => ?_) (fun hno => absurd rfl hno)
  exact K I2 _ _ (h1.join (by rw [← em]; exact h2))
theorem law_24 (hJ : OkJ G RL false cL_law 4 23 143 9588 J) (hTb : TBs G) (hG : gT G 5 = (len, sc)) (hl : len ≤ 2560) (hi : ∀ j, inR (sc j)) (i : Int) (i0 : 0 ≤ i) (i1 : i + 5 ≤ len) (h : RX I I T) (K : ∀ (I2 : Ints) (b2 : Bool) (T2 : List Ln), RX I2 I2 T2 → J 1381 [vr (2000 + 5), vr 0, vr 111, vi i] [] (mk I2 b2)) : J 906 [vr (2000 + 5), vr 0, vr 111, vi i] [] (mk I b) := by
  have r1 := hi (i + 1)
  have r2 := hi (i + 2)
  have r3 := hi (i + 3)
  have r4 := hi (i + 4)
  refine mj_aload_n hJ dL_law_906 rfl ?_
  refine mk_Vi0 hJ dL_law_907 cw_L_116 rfl rfl rfl rfl (Nat.le_of_ble_eq_true rfl) (by first | decide | omega) (c_prove (N := I) h ) (fun z1 I1 b1 hq9 => ?_)
  obtain ⟨rfl, h1, hA⟩ := hq9
  have hp := h.pre hA
  have em := mix_eq hA
  refine mj_aload_n hJ dL_law_910 rfl ?_
  refine mk_Vi0 hJ dL_law_911 cw_L_119 rfl rfl rfl rfl (Nat.le_of_ble_eq_true rfl) (by first | decide | omega) (c_X9_prove hp.1) (fun z2 I2 b2 hq9 => ?_)
  obtain ⟨rfl, rfl, h2⟩ := hq9
  have eF : F_prove I1 = F_prove I := (congrArg (fun y => F_prove y) em).trans (Fm_prove I1 I)
  rw [eF]
  refine mj_icmp_eq (tgt := 1381) hJ dL_law_914 (by decide) (fun _ => ?_) (fun hno => absurd rfl hno)
  have eG : G_prove I1 = mix I1 (G_prove I) := (congrArg (fun y => G_prove y) em).trans (Gm_prove I1 I)
  exact K I2 _ _ (h1.join (by rw [← eG]; exact h2))
theorem law_25 (hJ : OkJ G RL false cL_law 4 23 143 9588 J) (hTb : TBs G) (hG : gT G 5 = (len, sc)) (hl : len ≤ 2560) (hi : ∀ j, inR (sc j)) (i : Int) (i0 : 0 ≤ i) (i1 : i + 5 ≤ len) (h : RX I I T) (K : ∀ (I2 : Ints) (b2 : Bool) (T2 : List Ln), RX I2 I2 T2 → J 1381 [vr (2000 + 5), vr 0, vr 111, vi i] [] (mk I2 b2)) : J 919 [vr (2000 + 5), vr 0, vr 111, vi i] [] (mk I b) := by
  have r1 := hi (i + 1)
  have r2 := hi (i + 2)
  have r3 := hi (i + 3)
  have r4 := hi (i + 4)
  refine mj_aload_n hJ dL_law_919 rfl ?_
  refine mj_aload_n hJ dL_law_920 rfl ?_
  refine mj_iload_n hJ dL_law_921 rfl ?_
  refine mj_iconst hJ dL_law_922 (by decide) ?_
  first | refine ms_iadd hJ dL_law_923 (by omega) ?_ | refine mj_iadd hJ dL_law_923 ?_
  refine mj_tald (t := 5) hJ dL_law_924 (by decide) (by assumption) (by omega) (by omega) (by assumption) ?_
  refine mj_aload_n hJ dL_law_925 rfl ?_
  refine mj_iload_n hJ dL_law_926 rfl ?_
  refine mj_iconst hJ dL_law_927 (by decide) ?_
  first | refine ms_iadd hJ dL_law_928 (by omega) ?_ | refine mj_iadd hJ dL_law_928 ?_
  refine mj_tald (t := 5) hJ dL_law_929 (by decide) (by assumption) (by omega) (by omega) (by assumption) ?_
  refine mk_Vi2 hJ dL_law_930 cw_L_120 rfl rfl rfl rfl (Nat.le_of_ble_eq_true rfl) (by first | decide | omega) (c_row (N := I) h (sc (i + 1)) (sc (i + 2))) (fun z1 I1 b1 hq9 => ?_)
  obtain ⟨rfl, h1, hA⟩ := hq9
  have hp := h.pre hA
  have em := mix_eq hA
  refine mj_aload_n hJ dL_law_933 rfl ?_
  refine mj_aload_n hJ dL_law_934 rfl ?_
  refine mj_iload_n hJ dL_law_935 rfl ?_
  refine mj_iconst hJ dL_law_936 (by decide) ?_
  first | refine ms_iadd hJ dL_law_937 (by omega) ?_ | refine mj_iadd hJ dL_law_937 ?_
  refine mj_tald (t := 5) hJ dL_law_938 (by decide) (by assumption) (by omega) (by omega) (by assumption) ?_
  refine mj_aload_n hJ dL_law_939 rfl ?_
  refine mj_iload_n hJ dL_law_940 rfl ?_
  refine mj_iconst hJ dL_law_941 (by decide) ?_
  first | refine ms_iadd hJ dL_law_942 (by omega) ?_ | refine mj_iadd hJ dL_law_942 ?_
  refine mj_tald (t := 5) hJ dL_law_943 (by decide) (by assumption) (by omega) (by omega) (by assumption) ?_
  refine mk_Vi2 hJ dL_law_944 cw_L_123 rfl rfl rfl rfl (Nat.le_of_ble_eq_true rfl) (by first | decide | omega) (c_X9_row (sc (i + 1)) (sc (i + 2)) hp.2.1) (fun z2 I2 b2 hq9 => ?_)
  obtain ⟨rfl, rfl, h2⟩ := hq9
  have eF : F_row I1 (sc (i + 1)) (sc (i + 2)) = F_row I (sc (i + 1)) (sc (i + 2)) := (congrArg (fun y => F_row y (sc (i + 1)) (sc (i + 2))) em).trans (Fm_row I1 I (sc (i + 1)) (sc (i + 2)))
  rw [eF]
  refine mj_icmp_eq (tgt := 1381) hJ dL_law_947 (by decide) (fun _ => ?_) (fun hno => absurd rfl hno)
  exact K I2 _ _ (h1.join (by rw [← em]; exact h2))
theorem law_26 (hJ : OkJ G RL false cL_law 4 23 143 9588 J) (hTb : TBs G) (hG : gT G 5 = (len, sc)) (hl : len ≤ 2560) (hi : ∀ j, inR (sc j)) (i : Int) (i0 : 0 ≤ i) (i1 : i + 5 ≤ len) (h : RX I I T) (K : ∀ (I2 : Ints) (b2 : Bool) (T2 : List Ln), RX I2 I2 T2 → J 1381 [vr (2000 + 5), vr 0, vr 111, vi i] [] (mk I2 b2)) : J 952 [vr (2000 + 5), vr 0, vr 111, vi i] [] (mk I b) := by
  have r1 := hi (i + 1)
  have r2 := hi (i + 2)
  have r3 := hi (i + 3)
  have r4 := hi (i + 4)
  refine mj_aload_n hJ dL_law_952 rfl ?_
  refine mj_aload_n hJ dL_law_953 rfl ?_
  refine mj_iload_n hJ dL_law_954 rfl ?_
  refine mj_iconst hJ dL_law_955 (by decide) ?_
  first | refine ms_iadd hJ dL_law_956 (by omega) ?_ | refine mj_iadd hJ dL_law_956 ?_
  refine mj_tald (t := 5) hJ dL_law_957 (by decide) (by assumption) (by omega) (by omega) (by assumption) ?_
  refine mj_aload_n hJ dL_law_958 rfl ?_
  refine mj_iload_n hJ dL_law_959 rfl ?_
  refine mj_iconst hJ dL_law_960 (by decide) ?_
  first | refine ms_iadd hJ dL_law_961 (by omega) ?_ | refine mj_iadd hJ dL_law_961 ?_
  refine mj_tald (t := 5) hJ dL_law_962 (by decide) (by assumption) (by omega) (by omega) (by assumption) ?_
  refine mj_aload_n hJ dL_law_963 rfl ?_
  refine mj_iload_n hJ dL_law_964 rfl ?_
  refine mj_iconst hJ dL_law_965 (by decide) ?_
  first | refine ms_iadd hJ dL_law_966 (by omega) ?_ | refine mj_iadd hJ dL_law_966 ?_
  refine mj_tald (t := 5) hJ dL_law_967 (by decide) (by assumption) (by omega) (by omega) (by assumption) ?_
  refine mk_Vi3 hJ dL_law_968 cw_L_124 rfl rfl rfl rfl (Nat.le_of_ble_eq_true rfl) (by first | decide | omega) (c_alterRow (N := I) h (sc (i + 1)) (sc (i + 2)) (sc (i + 3))) (fun z1 I1 b1 hq9 => ?_)
  obtain ⟨rfl, h1, hA⟩ := hq9
  have hp := h.pre hA
  have em := mix_eq hA
  refine mj_aload_n hJ dL_law_971 rfl ?_
  refine mj_aload_n hJ dL_law_972 rfl ?_
  refine mj_iload_n hJ dL_law_973 rfl ?_
  refine mj_iconst hJ dL_law_974 (by decide) ?_
  first | refine ms_iadd hJ dL_law_975 (by omega) ?_ | refine mj_iadd hJ dL_law_975 ?_
  refine mj_tald (t := 5) hJ dL_law_976 (by decide) (by assumption) (by omega) (by omega) (by assumption) ?_
  refine mj_aload_n hJ dL_law_977 rfl ?_
  refine mj_iload_n hJ dL_law_978 rfl ?_
  refine mj_iconst hJ dL_law_979 (by decide) ?_
  first | refine ms_iadd hJ dL_law_980 (by omega) ?_ | refine mj_iadd hJ dL_law_980 ?_
  refine mj_tald (t := 5) hJ dL_law_981 (by decide) (by assumption) (by omega) (by omega) (by assumption) ?_
  refine mj_aload_n hJ dL_law_982 rfl ?_
  refine mj_iload_n hJ dL_law_983 rfl ?_
  refine mj_iconst hJ dL_law_984 (by decide) ?_
  first | refine ms_iadd hJ dL_law_985 (by omega) ?_ | refine mj_iadd hJ dL_law_985 ?_
  refine mj_tald (t := 5) hJ dL_law_986 (by decide) (by assumption) (by omega) (by omega) (by assumption) ?_
  refine mk_Vi3 hJ dL_law_987 cw_L_127 rfl rfl rfl rfl (Nat.le_of_ble_eq_true rfl) (by first | decide | omega) (c_X9_alterRow (sc (i + 1)) (sc (i + 2)) (sc (i + 3)) hp.2.1) (fun z2 I2 b2 hq9 => ?_)
  obtain ⟨rfl, rfl, h2⟩ := hq9
  have eF : F_row I1 (sc (i + 1)) (sc (i + 2)) = F_row I (sc (i + 1)) (sc (i + 2)) := (congrArg (fun y => F_row y (sc (i + 1)) (sc (i + 2))) em).trans (Fm_row I1 I (sc (i + 1)) (sc (i + 2)))
  rw [eF]
  refine mj_icmp_eq (tgt := 1381) hJ dL_law_990 (by decide) (fun _ => ?_) (fun hno => absurd rfl hno)
  have eG : G_alterRow I1 (sc (i + 1)) (sc (i + 2)) (sc (i + 3)) = mix I1 (G_alterRow I (sc (i + 1)) (sc (i + 2)) (sc (i + 3))) := (congrArg (fun y => G_alterRow y (sc (i + 1)) (sc (i + 2)) (sc (i + 3))) em).trans (Gm_alterRow I1 I (sc (i + 1)) (sc (i + 2)) (sc (i + 3)))
  exact K I2 _ _ (h1.join (by rw [← eG]; exact h2))
theorem law_27 (hJ : OkJ G RL false cL_law 4 23 143 9588 J) (hTb : TBs G) (hG : gT G 5 = (len, sc)) (hl : len ≤ 2560) (hi : ∀ j, inR (sc j)) (i : Int) (i0 : 0 ≤ i) (i1 : i + 5 ≤ len) (h : RX I I T) (K : ∀ (I2 : Ints) (b2 : Bool) (T2 : List Ln), RX I2 I2 T2 → J 1381 [vr (2000 + 5), vr 0, vr 111, vi i] [] (mk I2 b2)) : J 995 [vr (2000 + 5), vr 0, vr 111, vi i] [] (mk I b) := by
  have r1 := hi (i + 1)
  have r2 := hi (i + 2)
  have r3 := hi (i + 3)
  have r4 := hi (i + 4)
  refine mj_aload_n hJ dL_law_995 rfl ?_
  refine mk_Vi0 hJ dL_law_996 cw_L_128 rfl rfl rfl rfl (Nat.le_of_ble_eq_true rfl) (by first | decide | omega) (c_judge (N := I) h ) (fun z1 I1 b1 hq9 => ?_)
  obtain ⟨rfl, h1, hA⟩ := hq9
  have hp := h.pre hA
  have em := mix_eq hA
  refine mj_aload_n hJ dL_law_999 rfl ?_
  refine mk_Vi0 hJ dL_law_1000 cw_L_131 rfl rfl rfl rfl (Nat.le_of_ble_eq_true rfl) (by first | decide | omega) (c_X9_judge hp.1 hp.2.1) (fun z2 I2 b2 hq9 => ?_)
  obtain ⟨rfl, rfl, h2⟩ := hq9
  have eF : F_judge I1 = F_judge I := (congrArg (fun y => F_judge y) em).trans (Fm_judge I1 I)
  rw [eF]
  refine mj_icmp_eq (tgt := 1381) hJ dL_law_1003 (by decide) (fun _ => ?_) (fun hno => absurd rfl hno)
  exact K I2 _ _ (h1.join (by rw [← em]; exact h2))
theorem law_28 (hJ : OkJ G RL false cL_law 4 23 143 9588 J) (hTb : TBs G) (hG : gT G 5 = (len, sc)) (hl : len ≤ 2560) (hi : ∀ j, inR (sc j)) (i : Int) (i0 : 0 ≤ i) (i1 : i + 5 ≤ len) (h : RX I I T) (K : ∀ (I2 : Ints) (b2 : Bool) (T2 : List Ln), RX I2 I2 T2 → J 1381 [vr (2000 + 5), vr 0, vr 111, vi i] [] (mk I2 b2)) : J 1008 [vr (2000 + 5), vr 0, vr 111, vi i] [] (mk I b) := by
  have r1 := hi (i + 1)
  have r2 := hi (i + 2)
  have r3 := hi (i + 3)
  have r4 := hi (i + 4)
  refine mj_aload_n hJ dL_law_1008 rfl ?_
  refine mj_aload_n hJ dL_law_1009 rfl ?_
  refine mj_iload_n hJ dL_law_1010 rfl ?_
  refine mj_iconst hJ dL_law_1011 (by decide) ?_
  first | refine ms_iadd hJ dL_law_1012 (by omega) ?_ | refine mj_iadd hJ dL_law_1012 ?_
  refine mj_tald (t := 5) hJ dL_law_1013 (by decide) (by assumption) (by omega) (by omega) (by assumption) ?_
  refine mj_aload_n hJ dL_law_1014 rfl ?_
  refine mj_iload_n hJ dL_law_1015 rfl ?_
  refine mj_iconst hJ dL_law_1016 (by decide) ?_
  first | refine ms_iadd hJ dL_law_1017 (by omega) ?_ | refine mj_iadd hJ dL_law_1017 ?_
  refine mj_tald (t := 5) hJ dL_law_1018 (by decide) (by assumption) (by omega) (by omega) (by assumption) ?_
  refine mj_aload_n hJ dL_law_1019 rfl ?_
  refine mj_iload_n hJ dL_law_1020 rfl ?_
  refine mj_iconst hJ dL_law_1021 (by decide) ?_
  first | refine ms_iadd hJ dL_law_1022 (by omega) ?_ | refine mj_iadd hJ dL_law_1022 ?_
  refine mj_tald (t := 5) hJ dL_law_1023 (by decide) (by assumption) (by omega) (by omega) (by assumption) ?_
  refine mk_Vi3 hJ dL_law_1024 cw_L_132 rfl rfl rfl rfl (Nat.le_of_ble_eq_true rfl) (by first | decide | omega) (c_sheet (N := I) h (sc (i + 1)) (sc (i + 2)) (sc (i + 3))) (fun z1 I1 b1 hq9 => ?_)
  obtain ⟨rfl, h1, hA⟩ := hq9
  have hp := h.pre hA
  have em := mix_eq hA
  refine mj_aload_n hJ dL_law_1027 rfl ?_
  refine mj_aload_n hJ dL_law_1028 rfl ?_
  refine mj_iload_n hJ dL_law_1029 rfl ?_
  refine mj_iconst hJ dL_law_1030 (by decide) ?_
  first | refine ms_iadd hJ dL_law_1031 (by omega) ?_ | refine mj_iadd hJ dL_law_1031 ?_
  refine mj_tald (t := 5) hJ dL_law_1032 (by decide) (by assumption) (by omega) (by omega) (by assumption) ?_
  refine mj_aload_n hJ dL_law_1033 rfl ?_
  refine mj_iload_n hJ dL_law_1034 rfl ?_
  refine mj_iconst hJ dL_law_1035 (by decide) ?_
  first | refine ms_iadd hJ dL_law_1036 (by omega) ?_ | refine mj_iadd hJ dL_law_1036 ?_
  refine mj_tald (t := 5) hJ dL_law_1037 (by decide) (by assumption) (by omega) (by omega) (by assumption) ?_
  refine mj_aload_n hJ dL_law_1038 rfl ?_
  refine mj_iload_n hJ dL_law_1039 rfl ?_
  refine mj_iconst hJ dL_law_1040 (by decide) ?_
  first | refine ms_iadd hJ dL_law_1041 (by omega) ?_ | refine mj_iadd hJ dL_law_1041 ?_
  refine mj_tald (t := 5) hJ dL_law_1042 (by decide) (by assumption) (by omega) (by omega) (by assumption) ?_
  refine mk_Vi3 hJ dL_law_1043 cw_L_135 rfl rfl rfl rfl (Nat.le_of_ble_eq_true rfl) (by first | decide | omega) (c_X9_sheet (sc (i + 1)) (sc (i + 2)) (sc (i + 3))) (fun z2 I2 b2 hq9 => ?_)
  obtain ⟨rfl, rfl, h2⟩ := hq9
  refine mj_icmp_eq (tgt := 1381) hJ dL_law_1046 (by decide) (fun _ => ?_) (fun hno => absurd rfl hno)
  have eG : G_sheet I1 (sc (i + 1)) (sc (i + 2)) (sc (i + 3)) = mix I1 (G_sheet I (sc (i + 1)) (sc (i + 2)) (sc (i + 3))) := (congrArg (fun y => G_sheet y (sc (i + 1)) (sc (i + 2)) (sc (i + 3))) em).trans (Gm_sheet I1 I (sc (i + 1)) (sc (i + 2)) (sc (i + 3)))
  exact K I2 _ _ (h1.join (by rw [← eG]; exact h2))
theorem law_29 (hJ : OkJ G RL false cL_law 4 23 143 9588 J) (hTb : TBs G) (hG : gT G 5 = (len, sc)) (hl : len ≤ 2560) (hi : ∀ j, inR (sc j)) (i : Int) (i0 : 0 ≤ i) (i1 : i + 5 ≤ len) (h : RX I I T) (K : ∀ (I2 : Ints) (b2 : Bool) (T2 : List Ln), RX I2 I2 T2 → J 1381 [vr (2000 + 5), vr 0, vr 111, vi i] [] (mk I2 b2)) : J 1051 [vr (2000 + 5), vr 0, vr 111, vi i] [] (mk I b) := by
  have r1 := hi (i + 1)
  have r2 := hi (i + 2)
  have r3 := hi (i + 3)
  have r4 := hi (i + 4)
  refine mj_aload_n hJ dL_law_1051 rfl ?_
  refine mj_aload_n hJ dL_law_1052 rfl ?_
  refine mj_iload_n hJ dL_law_1053 rfl ?_
  refine mj_iconst hJ dL_law_1054 (by decide) ?_
  first | refine ms_iadd hJ dL_law_1055 (by omega) ?_ | refine mj_iadd hJ dL_law_1055 ?_
  refine mj_tald (t := 5) hJ dL_law_1056 (by decide) (by assumption) (by omega) (by omega) (by assumption) ?_
  refine mj_aload_n hJ dL_law_1057 rfl ?_
  refine mj_iload_n hJ dL_law_1058 rfl ?_
  refine mj_iconst hJ dL_law_1059 (by decide) ?_
  first | refine ms_iadd hJ dL_law_1060 (by omega) ?_ | refine mj_iadd hJ dL_law_1060 ?_
  refine mj_tald (t := 5) hJ dL_law_1061 (by decide) (by assumption) (by omega) (by omega) (by assumption) ?_
  refine mj_aload_n hJ dL_law_1062 rfl ?_
  refine mj_iload_n hJ dL_law_1063 rfl ?_
  refine mj_iconst hJ dL_law_1064 (by decide) ?_
  first | refine ms_iadd hJ dL_law_1065 (by omega) ?_ | refine mj_iadd hJ dL_law_1065 ?_
  refine mj_tald (t := 5) hJ dL_law_1066 (by decide) (by assumption) (by omega) (by omega) (by assumption) ?_
  refine mk_Vi3 hJ dL_law_1067 cw_L_136 rfl rfl rfl rfl (Nat.le_of_ble_eq_true rfl) (by first | decide | omega) (c_put (N := I) h (sc (i + 1)) (sc (i + 2)) (sc (i + 3))) (fun z1 I1 b1 hq9 => ?_)
  obtain ⟨rfl, h1, hA⟩ := hq9
  have hp := h.pre hA
  have em := mix_eq hA
  refine mj_aload_n hJ dL_law_1070 rfl ?_
  refine mj_aload_n hJ dL_law_1071 rfl ?_
  refine mj_iload_n hJ dL_law_1072 rfl ?_
  refine mj_iconst hJ dL_law_1073 (by decide) ?_
  first | refine ms_iadd hJ dL_law_1074 (by omega) ?_ | refine mj_iadd hJ dL_law_1074 ?_
  refine mj_tald (t := 5) hJ dL_law_1075 (by decide) (by assumption) (by omega) (by omega) (by assumption) ?_
  refine mj_aload_n hJ dL_law_1076 rfl ?_
  refine mj_iload_n hJ dL_law_1077 rfl ?_
  refine mj_iconst hJ dL_law_1078 (by decide) ?_
  first | refine ms_iadd hJ dL_law_1079 (by omega) ?_ | refine mj_iadd hJ dL_law_1079 ?_
  refine mj_tald (t := 5) hJ dL_law_1080 (by decide) (by assumption) (by omega) (by omega) (by assumption) ?_
  refine mj_aload_n hJ dL_law_1081 rfl ?_
  refine mj_iload_n hJ dL_law_1082 rfl ?_
  refine mj_iconst hJ dL_law_1083 (by decide) ?_
  first | refine ms_iadd hJ dL_law_1084 (by omega) ?_ | refine mj_iadd hJ dL_law_1084 ?_
  refine mj_tald (t := 5) hJ dL_law_1085 (by decide) (by assumption) (by omega) (by omega) (by assumption) ?_
  refine mk_Vi3 hJ dL_law_1086 cw_L_139 rfl rfl rfl rfl (Nat.le_of_ble_eq_true rfl) (by first | decide | omega) (c_X9_put_ (sc (i + 1)) (sc (i + 2)) (sc (i + 3)) hp.2.1) (fun z2 I2 b2 hq9 => ?_)
  obtain ⟨rfl, rfl, h2⟩ := hq9
  have eF : F_put I1 (sc (i + 1)) (sc (i + 2)) = F_put I (sc (i + 1)) (sc (i + 2)) := (congrArg (fun y => F_put y (sc (i + 1)) (sc (i + 2))) em).trans (Fm_put I1 I (sc (i + 1)) (sc (i + 2)))
  rw [eF]
  refine mj_icmp_eq (tgt := 1381) hJ dL_law_1089 (by decide) (fun _ => ?_) (fun hno => absurd rfl hno)
  have eG : G_put I1 (sc (i + 1)) (sc (i + 2)) (sc (i + 3)) = mix I1 (G_put I (sc (i + 1)) (sc (i + 2)) (sc (i + 3))) := (congrArg (fun y => G_put y (sc (i + 1)) (sc (i + 2)) (sc (i + 3))) em).trans (Gm_put I1 I (sc (i + 1)) (sc (i + 2)) (sc (i + 3)))
  exact K I2 _ _ (h1.join (by rw [← eG]; exact h2))
theorem law_30 (hJ : OkJ G RL false cL_law 4 23 143 9588 J) (hTb : TBs G) (hG : gT G 5 = (len, sc)) (hl : len ≤ 2560) (hi : ∀ j, inR (sc j)) (i : Int) (i0 : 0 ≤ i) (i1 : i + 5 ≤ len) (h : RX I I T) (K : ∀ (I2 : Ints) (b2 : Bool) (T2 : List Ln), RX I2 I2 T2 → J 1381 [vr (2000 + 5), vr 0, vr 111, vi i] [] (mk I2 b2)) : J 1094 [vr (2000 + 5), vr 0, vr 111, vi i] [] (mk I b) := by
  have r1 := hi (i + 1)
  have r2 := hi (i + 2)
  have r3 := hi (i + 3)
  have r4 := hi (i + 4)
  refine mj_aload_n hJ dL_law_1094 rfl ?_
  refine mj_aload_n hJ dL_law_1095 rfl ?_
  refine mj_iload_n hJ dL_law_1096 rfl ?_
  refine mj_iconst hJ dL_law_1097 (by decide) ?_
  first | refine ms_iadd hJ dL_law_1098 (by omega) ?_ | refine mj_iadd hJ dL_law_1098 ?_
  refine mj_tald (t := 5) hJ dL_law_1099 (by decide) (by assumption) (by omega) (by omega) (by assumption) ?_
  refine mj_aload_n hJ dL_law_1100 rfl ?_
  refine mj_iload_n hJ dL_law_1101 rfl ?_
  refine mj_iconst hJ dL_law_1102 (by decide) ?_
  first | refine ms_iadd hJ dL_law_1103 (by omega) ?_ | refine mj_iadd hJ dL_law_1103 ?_
  refine mj_tald (t := 5) hJ dL_law_1104 (by decide) (by assumption) (by omega) (by omega) (by assumption) ?_
  refine mj_aload_n hJ dL_law_1105 rfl ?_
  refine mj_iload_n hJ dL_law_1106 rfl ?_
  refine mj_iconst hJ dL_law_1107 (by decide) ?_
  first | refine ms_iadd hJ dL_law_1108 (by omega) ?_ | refine mj_iadd hJ dL_law_1108 ?_
  refine mj_tald (t := 5) hJ dL_law_1109 (by decide) (by assumption) (by omega) (by omega) (by assumption) ?_
  refine mk_Vi3 hJ dL_law_1110 cw_L_140 rfl rfl rfl rfl (Nat.le_of_ble_eq_true rfl) (by first | decide | omega) (c_item (N := I) h (sc (i + 1)) (sc (i + 2)) (sc (i + 3))) (fun z1 I1 b1 hq9 => ?_)
  obtain ⟨rfl, h1, hA⟩ := hq9
  have hp := h.pre hA
  have em := mix_eq hA
  refine mj_aload_n hJ dL_law_1113 rfl ?_
  refine mj_aload_n hJ dL_law_1114 rfl ?_
  refine mj_iload_n hJ dL_law_1115 rfl ?_
  refine mj_iconst hJ dL_law_1116 (by decide) ?_
  first | refine ms_iadd hJ dL_law_1117 (by omega) ?_ | refine mj_iadd hJ dL_law_1117 ?_
  refine mj_tald (t := 5) hJ dL_law_1118 (by decide) (by assumption) (by omega) (by omega) (by assumption) ?_
  refine mj_aload_n hJ dL_law_1119 rfl ?_
  refine mj_iload_n hJ dL_law_1120 rfl ?_
  refine mj_iconst hJ dL_law_1121 (by decide) ?_
  first | refine ms_iadd hJ dL_law_1122 (by omega) ?_ | refine mj_iadd hJ dL_law_1122 ?_
  refine mj_tald (t := 5) hJ dL_law_1123 (by decide) (by assumption) (by omega) (by omega) (by assumption) ?_
  refine mj_aload_n hJ dL_law_1124 rfl ?_
  refine mj_iload_n hJ dL_law_1125 rfl ?_
  refine mj_iconst hJ dL_law_1126 (by decide) ?_
  first | refine ms_iadd hJ dL_law_1127 (by omega) ?_ | refine mj_iadd hJ dL_law_1127 ?_
  refine mj_tald (t := 5) hJ dL_law_1128 (by decide) (by assumption) (by omega) (by omega) (by assumption) ?_
  refine mk_Vi3 hJ dL_law_1129 cw_L_143 rfl rfl rfl rfl (Nat.le_of_ble_eq_true rfl) (by first | decide | omega) (c_X9_item (sc (i + 1)) (sc (i + 2)) (sc (i + 3)) hp.2.1) (fun z2 I2 b2 hq9 => ?_)
  obtain ⟨rfl, rfl, h2⟩ := hq9
  have eF : F_item I1 (sc (i + 1)) (sc (i + 2)) (sc (i + 3)) = F_item I (sc (i + 1)) (sc (i + 2)) (sc (i + 3)) := (congrArg (fun y => F_item y (sc (i + 1)) (sc (i + 2)) (sc (i + 3))) em).trans (Fm_item I1 I (sc (i + 1)) (sc (i + 2)) (sc (i + 3)))
  rw [eF]
  refine mj_icmp_eq (tgt := 1381) hJ dL_law_1132 (by decide) (fun _ => ?_) (fun hno => absurd rfl hno)
  exact K I2 _ _ (h1.join (by rw [← em]; exact h2))
theorem law_31 (hJ : OkJ G RL false cL_law 4 23 143 9588 J) (hTb : TBs G) (hG : gT G 5 = (len, sc)) (hl : len ≤ 2560) (hi : ∀ j, inR (sc j)) (i : Int) (i0 : 0 ≤ i) (i1 : i + 5 ≤ len) (h : RX I I T) (K : ∀ (I2 : Ints) (b2 : Bool) (T2 : List Ln), RX I2 I2 T2 → J 1381 [vr (2000 + 5), vr 0, vr 111, vi i] [] (mk I2 b2)) : J 1137 [vr (2000 + 5), vr 0, vr 111, vi i] [] (mk I b) := by
  have r1 := hi (i + 1)
  have r2 := hi (i + 2)
  have r3 := hi (i + 3)
  have r4 := hi (i + 4)
  refine mj_aload_n hJ dL_law_1137 rfl ?_
  refine mj_aload_n hJ dL_law_1138 rfl ?_
  refine mj_iload_n hJ dL_law_1139 rfl ?_
  refine mj_iconst hJ dL_law_1140 (by decide) ?_
  first | refine ms_iadd hJ dL_law_1141 (by omega) ?_ | refine mj_iadd hJ dL_law_1141 ?_
  refine mj_tald (t := 5) hJ dL_law_1142 (by decide) (by assumption) (by omega) (by omega) (by assumption) ?_
  refine mj_aload_n hJ dL_law_1143 rfl ?_
  refine mj_iload_n hJ dL_law_1144 rfl ?_
  refine mj_iconst hJ dL_law_1145 (by decide) ?_
  first | refine ms_iadd hJ dL_law_1146 (by omega) ?_ | refine mj_iadd hJ dL_law_1146 ?_
  refine mj_tald (t := 5) hJ dL_law_1147 (by decide) (by assumption) (by omega) (by omega) (by assumption) ?_
  refine mj_aload_n hJ dL_law_1148 rfl ?_
  refine mj_iload_n hJ dL_law_1149 rfl ?_
  refine mj_iconst hJ dL_law_1150 (by decide) ?_
  first | refine ms_iadd hJ dL_law_1151 (by omega) ?_ | refine mj_iadd hJ dL_law_1151 ?_
  refine mj_tald (t := 5) hJ dL_law_1152 (by decide) (by assumption) (by omega) (by omega) (by assumption) ?_
  refine mj_aload_n hJ dL_law_1153 rfl ?_
  refine mj_iload_n hJ dL_law_1154 rfl ?_
  refine mj_iconst hJ dL_law_1155 (by decide) ?_
  first | refine ms_iadd hJ dL_law_1156 (by omega) ?_ | refine mj_iadd hJ dL_law_1156 ?_
  refine mj_tald (t := 5) hJ dL_law_1157 (by decide) (by assumption) (by omega) (by omega) (by assumption) ?_
  refine mk_Vi4 hJ dL_law_1158 cw_L_144 rfl rfl rfl rfl (Nat.le_of_ble_eq_true rfl) (by first | decide | omega) (c_flows (N := I) hTb h (sc (i + 1)) (sc (i + 2)) (sc (i + 3)) (sc (i + 4)) ⟨r3.1, r3.2⟩) (fun z1 I1 b1 hq9 => ?_)
  obtain ⟨rfl, h1, hA⟩ := hq9
  have hp := h.pre hA
  have em := mix_eq hA
  refine mj_aload_n hJ dL_law_1161 rfl ?_
  refine mj_aload_n hJ dL_law_1162 rfl ?_
  refine mj_iload_n hJ dL_law_1163 rfl ?_
  refine mj_iconst hJ dL_law_1164 (by decide) ?_
  first | refine ms_iadd hJ dL_law_1165 (by omega) ?_ | refine mj_iadd hJ dL_law_1165 ?_
  refine mj_tald (t := 5) hJ dL_law_1166 (by decide) (by assumption) (by omega) (by omega) (by assumption) ?_
  refine mj_aload_n hJ dL_law_1167 rfl ?_
  refine mj_iload_n hJ dL_law_1168 rfl ?_
  refine mj_iconst hJ dL_law_1169 (by decide) ?_
  first | refine ms_iadd hJ dL_law_1170 (by omega) ?_ | refine mj_iadd hJ dL_law_1170 ?_
  refine mj_tald (t := 5) hJ dL_law_1171 (by decide) (by assumption) (by omega) (by omega) (by assumption) ?_
  refine mj_aload_n hJ dL_law_1172 rfl ?_
  refine mj_iload_n hJ dL_law_1173 rfl ?_
  refine mj_iconst hJ dL_law_1174 (by decide) ?_
  first | refine ms_iadd hJ dL_law_1175 (by omega) ?_ | refine mj_iadd hJ dL_law_1175 ?_
  refine mj_tald (t := 5) hJ dL_law_1176 (by decide) (by assumption) (by omega) (by omega) (by assumption) ?_
  refine mj_aload_n hJ dL_law_1177 rfl ?_
  refine mj_iload_n hJ dL_law_1178 rfl ?_
  refine mj_iconst hJ dL_law_1179 (by decide) ?_
  first | refine ms_iadd hJ dL_law_1180 (by omega) ?_ | refine mj_iadd hJ dL_law_1180 ?_
  refine mj_tald (t := 5) hJ dL_law_1181 (by decide) (by assumption) (by omega) (by omega) (by assumption) ?_
  refine mk_Vi4 hJ dL_law_1182 cw_L_148 rfl rfl rfl rfl (Nat.le_of_ble_eq_true rfl) (by first | decide | omega) (c_X9_flows_ (sc (i + 1)) (sc (i + 2)) (sc (i + 3)) (sc (i + 4)) hp.1 hp.2.1) (fun z2 I2 b2 hq9 => ?_)
  obtain ⟨rfl, rfl, h2⟩ := hq9
  have eF : F_flows I1 (sc (i + 1)) (sc (i + 2)) (sc (i + 3)) (sc (i + 4)) = F_flows I (sc (i + 1)) (sc (i + 2)) (sc (i + 3)) (sc (i + 4)) := (congrArg (fun y => F_flows y (sc (i + 1)) (sc (i + 2)) (sc (i + 3)) (sc (i + 4))) em).trans (Fm_flows I1 I (sc (i + 1)) (sc (i + 2)) (sc (i + 3)) (sc (i + 4)))
  rw [eF]
  refine mj_icmp_eq (tgt := 1381) hJ dL_law_1185 (by decide) (fun _ => ?_) (fun hno => absurd rfl hno)
  have eG : G_flows I1 (sc (i + 1)) (sc (i + 2)) (sc (i + 3)) (sc (i + 4)) = mix I1 (G_flows I (sc (i + 1)) (sc (i + 2)) (sc (i + 3)) (sc (i + 4))) := (congrArg (fun y => G_flows y (sc (i + 1)) (sc (i + 2)) (sc (i + 3)) (sc (i + 4))) em).trans (Gm_flows I1 I (sc (i + 1)) (sc (i + 2)) (sc (i + 3)) (sc (i + 4)))
  exact K I2 _ _ (h1.join (by rw [← eG]; exact h2))
theorem law_32 (hJ : OkJ G RL false cL_law 4 23 143 9588 J) (hTb : TBs G) (hG : gT G 5 = (len, sc)) (hl : len ≤ 2560) (hi : ∀ j, inR (sc j)) (i : Int) (i0 : 0 ≤ i) (i1 : i + 5 ≤ len) (h : RX I I T) (K : ∀ (I2 : Ints) (b2 : Bool) (T2 : List Ln), RX I2 I2 T2 → J 1381 [vr (2000 + 5), vr 0, vr 111, vi i] [] (mk I2 b2)) : J 1190 [vr (2000 + 5), vr 0, vr 111, vi i] [] (mk I b) := by
  have r1 := hi (i + 1)
  have r2 := hi (i + 2)
  have r3 := hi (i + 3)
  have r4 := hi (i + 4)
  refine mj_aload_n hJ dL_law_1190 rfl ?_
  refine mj_aload_n hJ dL_law_1191 rfl ?_
  refine mj_iload_n hJ dL_law_1192 rfl ?_
  refine mj_iconst hJ dL_law_1193 (by decide) ?_
  first | refine ms_iadd hJ dL_law_1194 (by omega) ?_ | refine mj_iadd hJ dL_law_1194 ?_
  refine mj_tald (t := 5) hJ dL_law_1195 (by decide) (by assumption) (by omega) (by omega) (by assumption) ?_
  refine mj_aload_n hJ dL_law_1196 rfl ?_
  refine mj_iload_n hJ dL_law_1197 rfl ?_
  refine mj_iconst hJ dL_law_1198 (by decide) ?_
  first | refine ms_iadd hJ dL_law_1199 (by omega) ?_ | refine mj_iadd hJ dL_law_1199 ?_
  refine mj_tald (t := 5) hJ dL_law_1200 (by decide) (by assumption) (by omega) (by omega) (by assumption) ?_
  refine mj_aload_n hJ dL_law_1201 rfl ?_
  refine mj_iload_n hJ dL_law_1202 rfl ?_
  refine mj_iconst hJ dL_law_1203 (by decide) ?_
  first | refine ms_iadd hJ dL_law_1204 (by omega) ?_ | refine mj_iadd hJ dL_law_1204 ?_
  refine mj_tald (t := 5) hJ dL_law_1205 (by decide) (by assumption) (by omega) (by omega) (by assumption) ?_
  refine mk_Vi3 hJ dL_law_1206 cw_L_149 rfl rfl rfl rfl (Nat.le_of_ble_eq_true rfl) (by first | decide | omega) (c_shelf (N := I) h (sc (i + 1)) (sc (i + 2)) (sc (i + 3))) (fun z1 I1 b1 hq9 => ?_)
  obtain ⟨rfl, h1, hA⟩ := hq9
  have hp := h.pre hA
  have em := mix_eq hA
  refine mj_aload_n hJ dL_law_1209 rfl ?_
  refine mj_aload_n hJ dL_law_1210 rfl ?_
  refine mj_iload_n hJ dL_law_1211 rfl ?_
  refine mj_iconst hJ dL_law_1212 (by decide) ?_
  first | refine ms_iadd hJ dL_law_1213 (by omega) ?_ | refine mj_iadd hJ dL_law_1213 ?_
  refine mj_tald (t := 5) hJ dL_law_1214 (by decide) (by assumption) (by omega) (by omega) (by assumption) ?_
  refine mj_aload_n hJ dL_law_1215 rfl ?_
  refine mj_iload_n hJ dL_law_1216 rfl ?_
  refine mj_iconst hJ dL_law_1217 (by decide) ?_
  first | refine ms_iadd hJ dL_law_1218 (by omega) ?_ | refine mj_iadd hJ dL_law_1218 ?_
  refine mj_tald (t := 5) hJ dL_law_1219 (by decide) (by assumption) (by omega) (by omega) (by assumption) ?_
  refine mj_aload_n hJ dL_law_1220 rfl ?_
  refine mj_iload_n hJ dL_law_1221 rfl ?_
  refine mj_iconst hJ dL_law_1222 (by decide) ?_
  first | refine ms_iadd hJ dL_law_1223 (by omega) ?_ | refine mj_iadd hJ dL_law_1223 ?_
  refine mj_tald (t := 5) hJ dL_law_1224 (by decide) (by assumption) (by omega) (by omega) (by assumption) ?_
  refine mk_Vi3 hJ dL_law_1225 cw_L_152 rfl rfl rfl rfl (Nat.le_of_ble_eq_true rfl) (by first | decide | omega) (c_X9_shelf (sc (i + 1)) (sc (i + 2)) (sc (i + 3)) hp.1) (fun z2 I2 b2 hq9 => ?_)
  obtain ⟨rfl, rfl, h2⟩ := hq9
  have eF : F_shelf I1 (sc (i + 1)) (sc (i + 2)) (sc (i + 3)) = F_shelf I (sc (i + 1)) (sc (i + 2)) (sc (i + 3)) := (congrArg (fun y => F_shelf y (sc (i + 1)) (sc (i + 2)) (sc (i + 3))) em).trans (Fm_shelf I1 I (sc (i + 1)) (sc (i + 2)) (sc (i + 3)))
  rw [eF]
  refine mj_icmp_eq (tgt := 1381) hJ dL_law_1228 (by decide) (fun _ => ?_) (fun hno => absurd rfl hno)
  have eG : G_shelf I1 (sc (i + 1)) (sc (i + 2)) (sc (i + 3)) = mix I1 (G_shelf I (sc (i + 1)) (sc (i + 2)) (sc (i + 3))) := (congrArg (fun y => G_shelf y (sc (i + 1)) (sc (i + 2)) (sc (i + 3))) em).trans (Gm_shelf I1 I (sc (i + 1)) (sc (i + 2)) (sc (i + 3)))
  exact K I2 _ _ (h1.join (by rw [← eG]; exact h2))
theorem law_33 (hJ : OkJ G RL false cL_law 4 23 143 9588 J) (hTb : TBs G) (hG : gT G 5 = (len, sc)) (hl : len ≤ 2560) (hi : ∀ j, inR (sc j)) (i : Int) (i0 : 0 ≤ i) (i1 : i + 5 ≤ len) (h : RX I I T) (K : ∀ (I2 : Ints) (b2 : Bool) (T2 : List Ln), RX I2 I2 T2 → J 1381 [vr (2000 + 5), vr 0, vr 111, vi i] [] (mk I2 b2)) : J 1233 [vr (2000 + 5), vr 0, vr 111, vi i] [] (mk I b) := by
  have r1 := hi (i + 1)
  have r2 := hi (i + 2)
  have r3 := hi (i + 3)
  have r4 := hi (i + 4)
  refine mj_aload_n hJ dL_law_1233 rfl ?_
  refine mj_aload_n hJ dL_law_1234 rfl ?_
  refine mj_iload_n hJ dL_law_1235 rfl ?_
  refine mj_iconst hJ dL_law_1236 (by decide) ?_
  first | refine ms_iadd hJ dL_law_1237 (by omega) ?_ | refine mj_iadd hJ dL_law_1237 ?_
  refine mj_tald (t := 5) hJ dL_law_1238 (by decide) (by assumption) (by omega) (by omega) (by assumption) ?_
  refine mj_aload_n hJ dL_law_1239 rfl ?_
  refine mj_iload_n hJ dL_law_1240 rfl ?_
  refine mj_iconst hJ dL_law_1241 (by decide) ?_
  first | refine ms_iadd hJ dL_law_1242 (by omega) ?_ | refine mj_iadd hJ dL_law_1242 ?_
  refine mj_tald (t := 5) hJ dL_law_1243 (by decide) (by assumption) (by omega) (by omega) (by assumption) ?_
  refine mk_Vi2 hJ dL_law_1244 cw_L_153 rfl rfl rfl rfl (Nat.le_of_ble_eq_true rfl) (by first | decide | omega) (c_taken (N := I) hTb h (sc (i + 1)) (sc (i + 2))) (fun z1 I1 b1 hq9 => ?_)
  obtain ⟨rfl, h1, hA⟩ := hq9
  have hp := h.pre hA
  have em := mix_eq hA
  refine mj_aload_n hJ dL_law_1247 rfl ?_
  refine mj_aload_n hJ dL_law_1248 rfl ?_
  refine mj_iload_n hJ dL_law_1249 rfl ?_
  refine mj_iconst hJ dL_law_1250 (by decide) ?_
  first | refine ms_iadd hJ dL_law_1251 (by omega) ?_ | refine mj_iadd hJ dL_law_1251 ?_
  refine mj_tald (t := 5) hJ dL_law_1252 (by decide) (by assumption) (by omega) (by omega) (by assumption) ?_
  refine mj_aload_n hJ dL_law_1253 rfl ?_
  refine mj_iload_n hJ dL_law_1254 rfl ?_
  refine mj_iconst hJ dL_law_1255 (by decide) ?_
  first | refine ms_iadd hJ dL_law_1256 (by omega) ?_ | refine mj_iadd hJ dL_law_1256 ?_
  refine mj_tald (t := 5) hJ dL_law_1257 (by decide) (by assumption) (by omega) (by omega) (by assumption) ?_
  refine mk_Vi2 hJ dL_law_1258 cw_L_156 rfl rfl rfl rfl (Nat.le_of_ble_eq_true rfl) (by first | decide | omega) (c_X9_taken (sc (i + 1)) (sc (i + 2)) hp.1 hp.2.1) (fun z2 I2 b2 hq9 => ?_)
  obtain ⟨rfl, rfl, h2⟩ := hq9
  have eF : F_taken I1 (sc (i + 1)) (sc (i + 2)) = F_taken I (sc (i + 1)) (sc (i + 2)) := (congrArg (fun y => F_taken y (sc (i + 1)) (sc (i + 2))) em).trans (Fm_taken I1 I (sc (i + 1)) (sc (i + 2)))
  rw [eF]
  refine mj_icmp_eq (tgt := 1381) hJ dL_law_1261 (by decide) (fun _ => ?_) (fun hno => absurd rfl hno)
  exact K I2 _ _ (h1.join (by rw [← em]; exact h2))
theorem law_34 (hJ : OkJ G RL false cL_law 4 23 143 9588 J) (hTb : TBs G) (hG : gT G 5 = (len, sc)) (hl : len ≤ 2560) (hi : ∀ j, inR (sc j)) (i : Int) (i0 : 0 ≤ i) (i1 : i + 5 ≤ len) (h : RX I I T) (K : ∀ (I2 : Ints) (b2 : Bool) (T2 : List Ln), RX I2 I2 T2 → J 1381 [vr (2000 + 5), vr 0, vr 111, vi i] [] (mk I2 b2)) : J 1266 [vr (2000 + 5), vr 0, vr 111, vi i] [] (mk I b) := by
  have r1 := hi (i + 1)
  have r2 := hi (i + 2)
  have r3 := hi (i + 3)
  have r4 := hi (i + 4)
  refine mj_aload_n hJ dL_law_1266 rfl ?_
  refine mj_aload_n hJ dL_law_1267 rfl ?_
  refine mj_iload_n hJ dL_law_1268 rfl ?_
  refine mj_iconst hJ dL_law_1269 (by decide) ?_
  first | refine ms_iadd hJ dL_law_1270 (by omega) ?_ | refine mj_iadd hJ dL_law_1270 ?_
  refine mj_tald (t := 5) hJ dL_law_1271 (by decide) (by assumption) (by omega) (by omega) (by assumption) ?_
  refine mj_aload_n hJ dL_law_1272 rfl ?_
  refine mj_iload_n hJ dL_law_1273 rfl ?_
  refine mj_iconst hJ dL_law_1274 (by decide) ?_
  first | refine ms_iadd hJ dL_law_1275 (by omega) ?_ | refine mj_iadd hJ dL_law_1275 ?_
  refine mj_tald (t := 5) hJ dL_law_1276 (by decide) (by assumption) (by omega) (by omega) (by assumption) ?_
  refine mj_aload_n hJ dL_law_1277 rfl ?_
  refine mj_iload_n hJ dL_law_1278 rfl ?_
  refine mj_iconst hJ dL_law_1279 (by decide) ?_
  first | refine ms_iadd hJ dL_law_1280 (by omega) ?_ | refine mj_iadd hJ dL_law_1280 ?_
  refine mj_tald (t := 5) hJ dL_law_1281 (by decide) (by assumption) (by omega) (by omega) (by assumption) ?_
  refine mk_Vi3 hJ dL_law_1282 cw_L_157 rfl rfl rfl rfl (Nat.le_of_ble_eq_true rfl) (by first | decide | omega) (c_act (N := I) hTb h (sc (i + 1)) (sc (i + 2)) (sc (i + 3))) (fun z1 I1 b1 hq9 => ?_)
  obtain ⟨rfl, h1, hA⟩ := hq9
  have hp := h.pre hA
  have em := mix_eq hA
  refine mj_aload_n hJ dL_law_1285 rfl ?_
  refine mj_aload_n hJ dL_law_1286 rfl ?_
  refine mj_iload_n hJ dL_law_1287 rfl ?_
  refine mj_iconst hJ dL_law_1288 (by decide) ?_
  first | refine ms_iadd hJ dL_law_1289 (by omega) ?_ | refine mj_iadd hJ dL_law_1289 ?_
  refine mj_tald (t := 5) hJ dL_law_1290 (by decide) (by assumption) (by omega) (by omega) (by assumption) ?_
  refine mj_aload_n hJ dL_law_1291 rfl ?_
  refine mj_iload_n hJ dL_law_1292 rfl ?_
  refine mj_iconst hJ dL_law_1293 (by decide) ?_
  first | refine ms_iadd hJ dL_law_1294 (by omega) ?_ | refine mj_iadd hJ dL_law_1294 ?_
  refine mj_tald (t := 5) hJ dL_law_1295 (by decide) (by assumption) (by omega) (by omega) (by assumption) ?_
  refine mj_aload_n hJ dL_law_1296 rfl ?_
  refine mj_iload_n hJ dL_law_1297 rfl ?_
  refine mj_iconst hJ dL_law_1298 (by decide) ?_
  first | refine ms_iadd hJ dL_law_1299 (by omega) ?_ | refine mj_iadd hJ dL_law_1299 ?_
  refine mj_tald (t := 5) hJ dL_law_1300 (by decide) (by assumption) (by omega) (by omega) (by assumption) ?_
  refine mk_Vi3 hJ dL_law_1301 cw_L_160 rfl rfl rfl rfl (Nat.le_of_ble_eq_true rfl) (by first | decide | omega) (c_X9_act (sc (i + 1)) (sc (i + 2)) (sc (i + 3)) hp.1 hp.2.1) (fun z2 I2 b2 hq9 => ?_)
  obtain ⟨rfl, rfl, h2⟩ := hq9
  have eF : F_act I1 (sc (i + 1)) (sc (i + 2)) (sc (i + 3)) = F_act I (sc (i + 1)) (sc (i + 2)) (sc (i + 3)) := (congrArg (fun y => F_act y (sc (i + 1)) (sc (i + 2)) (sc (i + 3))) em).trans (Fm_act I1 I (sc (i + 1)) (sc (i + 2)) (sc (i + 3)))
  rw [eF]
  refine mj_icmp_eq (tgt := 1381) hJ dL_law_1304 (by decide) (fun _ => ?_) (fun hno => absurd rfl hno)
  have eG : G_act I1 (sc (i + 1)) (sc (i + 2)) (sc (i + 3)) = mix I1 (G_act I (sc (i + 1)) (sc (i + 2)) (sc (i + 3))) := (congrArg (fun y => G_act y (sc (i + 1)) (sc (i + 2)) (sc (i + 3))) em).trans (Gm_act I1 I (sc (i + 1)) (sc (i + 2)) (sc (i + 3)))
  exact K I2 _ _ (h1.join (by rw [← eG]; exact h2))
theorem law_35 (hJ : OkJ G RL false cL_law 4 23 143 9588 J) (hTb : TBs G) (hG : gT G 5 = (len, sc)) (hl : len ≤ 2560) (hi : ∀ j, inR (sc j)) (i : Int) (i0 : 0 ≤ i) (i1 : i + 5 ≤ len) (h : RX I I T) (K : ∀ (I2 : Ints) (b2 : Bool) (T2 : List Ln), RX I2 I2 T2 → J 1381 [vr (2000 + 5), vr 0, vr 111, vi i] [] (mk I2 b2)) : J 1309 [vr (2000 + 5), vr 0, vr 111, vi i] [] (mk I b) := by
  have r1 := hi (i + 1)
  have r2 := hi (i + 2)
  have r3 := hi (i + 3)
  have r4 := hi (i + 4)
  refine mj_aload_n hJ dL_law_1309 rfl ?_
  refine mj_aload_n hJ dL_law_1310 rfl ?_
  refine mj_iload_n hJ dL_law_1311 rfl ?_
  refine mj_iconst hJ dL_law_1312 (by decide) ?_
  first | refine ms_iadd hJ dL_law_1313 (by omega) ?_ | refine mj_iadd hJ dL_law_1313 ?_
  refine mj_tald (t := 5) hJ dL_law_1314 (by decide) (by assumption) (by omega) (by omega) (by assumption) ?_
  refine mk_Vi1 hJ dL_law_1315 cw_L_161 rfl rfl rfl rfl (Nat.le_of_ble_eq_true rfl) (by first | decide | omega) (c_trace (N := I) h (sc (i + 1))) (fun z1 I1 b1 hq9 => ?_)
  obtain ⟨rfl, h1, hA⟩ := hq9
  have hp := h.pre hA
  have em := mix_eq hA
  refine mj_aload_n hJ dL_law_1318 rfl ?_
  refine mj_aload_n hJ dL_law_1319 rfl ?_
  refine mj_iload_n hJ dL_law_1320 rfl ?_
  refine mj_iconst hJ dL_law_1321 (by decide) ?_
  first | refine ms_iadd hJ dL_law_1322 (by omega) ?_ | refine mj_iadd hJ dL_law_1322 ?_
  refine mj_tald (t := 5) hJ dL_law_1323 (by decide) (by assumption) (by omega) (by omega) (by assumption) ?_
  refine mk_Vi1 hJ dL_law_1324 cw_L_164 rfl rfl rfl rfl (Nat.le_of_ble_eq_true rfl) (by first | decide | omega) (c_X9_trace (sc (i + 1)) hp.2.1) (fun z2 I2 b2 hq9 => ?_)
  obtain ⟨rfl, rfl, h2⟩ := hq9
  have eF : F_trace I1 (sc (i + 1)) = F_trace I (sc (i + 1)) := (congrArg (fun y => F_trace y (sc (i + 1))) em).trans (Fm_trace I1 I (sc (i + 1)))
  rw [eF]
  refine mj_icmp_eq (tgt := 1381) hJ dL_law_1327 (by decide) (fun _ => ?_) (fun hno => absurd rfl hno)
  exact K I2 _ _ (h1.join (by rw [← em]; exact h2))
theorem law_36 (hJ : OkJ G RL false cL_law 4 23 143 9588 J) (hTb : TBs G) (hG : gT G 5 = (len, sc)) (hl : len ≤ 2560) (hi : ∀ j, inR (sc j)) (i : Int) (i0 : 0 ≤ i) (i1 : i + 5 ≤ len) (h : RX I I T) (K : ∀ (I2 : Ints) (b2 : Bool) (T2 : List Ln), RX I2 I2 T2 → J 1381 [vr (2000 + 5), vr 0, vr 111, vi i] [] (mk I2 b2)) : J 1332 [vr (2000 + 5), vr 0, vr 111, vi i] [] (mk I b) := by
  have r1 := hi (i + 1)
  have r2 := hi (i + 2)
  have r3 := hi (i + 3)
  have r4 := hi (i + 4)
  refine mj_aload_n hJ dL_law_1332 rfl ?_
  refine mj_aload_n hJ dL_law_1333 rfl ?_
  refine mj_iload_n hJ dL_law_1334 rfl ?_
  refine mj_iconst hJ dL_law_1335 (by decide) ?_
  first | refine ms_iadd hJ dL_law_1336 (by omega) ?_ | refine mj_iadd hJ dL_law_1336 ?_
  refine mj_tald (t := 5) hJ dL_law_1337 (by decide) (by assumption) (by omega) (by omega) (by assumption) ?_
  refine mk_Vi1 hJ dL_law_1338 cw_L_165 rfl rfl rfl rfl (Nat.le_of_ble_eq_true rfl) (by first | decide | omega) (c_many (N := I) h (sc (i + 1))) (fun z1 I1 b1 hq9 => ?_)
  obtain ⟨rfl, h1, hA⟩ := hq9
  have hp := h.pre hA
  have em := mix_eq hA
  refine mj_aload_n hJ dL_law_1341 rfl ?_
  refine mj_aload_n hJ dL_law_1342 rfl ?_
  refine mj_iload_n hJ dL_law_1343 rfl ?_
  refine mj_iconst hJ dL_law_1344 (by decide) ?_
  first | refine ms_iadd hJ dL_law_1345 (by omega) ?_ | refine mj_iadd hJ dL_law_1345 ?_
  refine mj_tald (t := 5) hJ dL_law_1346 (by decide) (by assumption) (by omega) (by omega) (by assumption) ?_
  refine mk_Vi1 hJ dL_law_1347 cw_L_168 rfl rfl rfl rfl (Nat.le_of_ble_eq_true rfl) (by first | decide | omega) (c_X9_many (sc (i + 1))) (fun z2 I2 b2 hq9 => ?_)
  obtain ⟨rfl, rfl, h2⟩ := hq9
  have eF : F_many I1 (sc (i + 1)) = F_many I (sc (i + 1)) := (congrArg (fun y => F_many y (sc (i + 1))) em).trans (Fm_many I1 I (sc (i + 1)))
  rw [eF]
  refine mj_icmp_eq (tgt := 1381) hJ dL_law_1350 (by decide) (fun _ => ?_) (fun hno => absurd rfl hno)
  exact K I2 _ _ (h1.join (by rw [← em]; exact h2))
theorem law_37 (hJ : OkJ G RL false cL_law 4 23 143 9588 J) (hTb : TBs G) (hG : gT G 5 = (len, sc)) (hl : len ≤ 2560) (hi : ∀ j, inR (sc j)) (i : Int) (i0 : 0 ≤ i) (i1 : i + 5 ≤ len) (h : RX I I T) (K : ∀ (I2 : Ints) (b2 : Bool) (T2 : List Ln), RX I2 I2 T2 → J 1381 [vr (2000 + 5), vr 0, vr 111, vi i] [] (mk I2 b2)) : J 1355 [vr (2000 + 5), vr 0, vr 111, vi i] [] (mk I b) := by
  have r1 := hi (i + 1)
  have r2 := hi (i + 2)
  have r3 := hi (i + 3)
  have r4 := hi (i + 4)
  refine mj_aload_n hJ dL_law_1355 rfl ?_
  refine mk_Vi0 hJ dL_law_1356 cw_L_169 rfl rfl rfl rfl (Nat.le_of_ble_eq_true rfl) (by first | decide | omega) (c_keep (N := I) h ) (fun z1 I1 b1 hq9 => ?_)
  obtain ⟨rfl, h1, hA⟩ := hq9
  have hp := h.pre hA
  have em := mix_eq hA
  refine mj_aload_n hJ dL_law_1359 rfl ?_
  refine mk_Vi0 hJ dL_law_1360 cw_L_172 rfl rfl rfl rfl (Nat.le_of_ble_eq_true rfl) (by first | decide | omega) (c_X9_keep) (fun z2 I2 b2 hq9 => ?_)
  obtain ⟨rfl, rfl, h2⟩ := hq9
  refine mj_icmp_eq (tgt := 1381) hJ dL_law_1363 (by decide) (fun _ => ?_) (fun hno => absurd rfl hno)
  have eG : G_keep I1 = mix I1 (G_keep I) := (congrArg (fun y => G_keep y) em).trans (Gm_keep I1 I)
  exact K I2 _ _ (h1.join (by rw [← eG]; exact h2))
theorem law_38 (hJ : OkJ G RL false cL_law 4 23 143 9588 J) (hTb : TBs G) (hG : gT G 5 = (len, sc)) (hl : len ≤ 2560) (hi : ∀ j, inR (sc j)) (i : Int) (i0 : 0 ≤ i) (i1 : i + 5 ≤ len) (h : RX I I T) (K : ∀ (I2 : Ints) (b2 : Bool) (T2 : List Ln), RX I2 I2 T2 → J 1381 [vr (2000 + 5), vr 0, vr 111, vi i] [] (mk I2 b2)) : J 1368 [vr (2000 + 5), vr 0, vr 111, vi i] [] (mk I b) := by
  have r1 := hi (i + 1)
  have r2 := hi (i + 2)
  have r3 := hi (i + 3)
  have r4 := hi (i + 4)
  refine mj_aload_n hJ dL_law_1368 rfl ?_
  refine mk_Vi0 hJ dL_law_1369 cw_L_173 rfl rfl rfl rfl (Nat.le_of_ble_eq_true rfl) (by first | decide | omega) (c_again (N := I) h) (fun z1 I1 b1 hq9 => ?_)
  obtain ⟨T1, rfl, h1, hA⟩ := hq9
  have hp := h.pre hA
  have em := mix_eq hA
  refine mj_aload_n hJ dL_law_1372 rfl ?_
  refine mk_Vi0 hJ dL_law_1373 cw_L_176 rfl rfl rfl rfl (Nat.le_of_ble_eq_true rfl) (by first | decide | omega) (c_X9_again) (fun z2 I2 b2 hq9 => ?_)
  obtain ⟨rfl, rfl, h2⟩ := hq9
  have eF : F_again I1 = F_again I := (congrArg (fun y => F_again y) em).trans (Fm_again I1 I)
  rw [eF]
  refine mj_icmp_eq (tgt := 1381) hJ dL_law_1376 (by decide) (fun _ => ?_) (fun hno => absurd rfl hno)
  have eG : G_again I1 = mix I1 (G_again I) := (congrArg (fun y => G_again y) em).trans (Gm_again I1 I)
  exact K I2 _ _ (h1.join (by rw [← eG]; exact h2))
theorem law_loop (hJ : OkJ G RL false cL_law 4 23 143 9588 J) (hTb : TBs G) (hG : gT G 5 = (len, sc)) (hl : len ≤ 2560) (hi : ∀ j, inR (sc j)) (hE : ∀ (ls : List Vl) (I1 : Ints) (b1 : Bool), J 1388 ls [vi 1] (mk I1 b1)) : ∀ (m : Nat) (i : Int) (I : Ints) (b : Bool) (T : List Ln), 0 ≤ i → i ≤ 2600 → (len : Int) ≤ i + m → RX I I T → J 18 [vr (2000 + 5), vr 0, vr 111, vi i] [] (mk I b) := by
  intro m
  induction m with
  | zero =>
    intro i I b T i0 i9 im h
    refine mj_iload_n hJ dL_law_18 rfl ?_
    refine mj_aload_n hJ dL_law_19 rfl ?_
    refine mj_tlen (t := 5) hJ dL_law_20 (by decide) (by assumption) (by omega) ?_
    refine mj_iconst hJ dL_law_21 (by decide) ?_
    first | refine ms_isub hJ dL_law_22 (by omega) ?_ | refine mj_isub hJ dL_law_22 ?_
    refine mj_icmp_gt (tgt := 1387) hJ dL_law_23 (by decide) (fun _ => ?_) (fun hno => absurd (by omega) hno)
    refine mj_iconst hJ dL_law_1387 (by decide) ?_
    exact hE _ _ _
  | succ m ih =>
    intro i I b T i0 i9 im h
    have r0 := hi i
    refine mj_iload_n hJ dL_law_18 rfl ?_
    refine mj_aload_n hJ dL_law_19 rfl ?_
    refine mj_tlen (t := 5) hJ dL_law_20 (by decide) (by assumption) (by omega) ?_
    refine mj_iconst hJ dL_law_21 (by decide) ?_
    first | refine ms_isub hJ dL_law_22 (by omega) ?_ | refine mj_isub hJ dL_law_22 ?_
    refine mj_icmp_gt (tgt := 1387) hJ dL_law_23 (by decide) (fun hgt => ?_) (fun hgt => ?_)
    · refine mj_iconst hJ dL_law_1387 (by decide) ?_
      exact hE _ _ _
    · have K : ∀ (I2 : Ints) (b2 : Bool) (T2 : List Ln), RX I2 I2 T2 → J 1381 [vr (2000 + 5), vr 0, vr 111, vi i] [] (mk I2 b2) := by
        intro I2 b2 T2 h2
        refine ms_iinc (ls' := [_, _, _, _]) hJ dL_law_1381 rfl (by decide) rfl (wr_id (by omega)) rfl ?_
        refine mj_goto (tgt := 18) hJ dL_law_1384 (by decide) ?_
        exact ih (i + 5) I2 b2 T2 (by omega) (by omega) (by omega) h2
      refine mj_aload_n hJ dL_law_26 rfl ?_
      refine mj_iload_n hJ dL_law_27 rfl ?_
      refine mj_tald (t := 5) hJ dL_law_28 (by decide) (by assumption) (by omega) (by omega) (by assumption) ?_
      refine mj_bipush hJ dL_law_29 (by decide) ?_
      refine mj_iand hJ dL_law_31 ?_
      generalize (i32 (sc i) &&& i32 63).toInt = w
      have hc : (w < 0 ∨ 38 < w) ∨ w = 0 ∨ w = 1 ∨ w = 2 ∨ w = 3 ∨ w = 4 ∨ w = 5 ∨ w = 6 ∨ w = 7 ∨ w = 8 ∨ w = 9 ∨ w = 10 ∨ w = 11 ∨ w = 12 ∨ w = 13 ∨ w = 14 ∨ w = 15 ∨ w = 16 ∨ w = 17 ∨ w = 18 ∨ w = 19 ∨ w = 20 ∨ w = 21 ∨ w = 22 ∨ w = 23 ∨ w = 24 ∨ w = 25 ∨ w = 26 ∨ w = 27 ∨ w = 28 ∨ w = 29 ∨ w = 30 ∨ w = 31 ∨ w = 32 ∨ w = 33 ∨ w = 34 ∨ w = 35 ∨ w = 36 ∨ w = 37 ∨ w = 38 := by omega
      rcases hc with hc | rfl | rfl | rfl | rfl | rfl | rfl | rfl | rfl | rfl | rfl | rfl | rfl | rfl | rfl | rfl | rfl | rfl | rfl | rfl | rfl | rfl | rfl | rfl | rfl | rfl | rfl | rfl | rfl | rfl | rfl | rfl | rfl | rfl | rfl | rfl | rfl | rfl | rfl | rfl
      · refine mj_tabOut (tgt := 1381) hJ dL_law_32 (by omega) (by decide) ?_
        exact K I b T h
      · refine mj_tabIn (off := 172) (tgt := 204) hJ dL_law_32 (by decide) (by decide) rfl (by decide) ?_
        exact law_0 hJ hTb hG hl hi i i0 (by omega) h K
      · refine mj_tabIn (off := 195) (tgt := 227) hJ dL_law_32 (by decide) (by decide) rfl (by decide) ?_
        exact law_1 hJ hTb hG hl hi i i0 (by omega) h K
      · refine mj_tabIn (off := 228) (tgt := 260) hJ dL_law_32 (by decide) (by decide) rfl (by decide) ?_
        exact law_2 hJ hTb hG hl hi i i0 (by omega) h K
      · refine mj_tabIn (off := 271) (tgt := 303) hJ dL_law_32 (by decide) (by decide) rfl (by decide) ?_
        exact law_3 hJ hTb hG hl hi i i0 (by omega) h K
      · refine mj_tabIn (off := 304) (tgt := 336) hJ dL_law_32 (by decide) (by decide) rfl (by decide) ?_
        exact law_4 hJ hTb hG hl hi i i0 (by omega) h K
      · refine mj_tabIn (off := 337) (tgt := 369) hJ dL_law_32 (by decide) (by decide) rfl (by decide) ?_
        exact law_5 hJ hTb hG hl hi i i0 (by omega) h K
      · refine mj_tabIn (off := 360) (tgt := 392) hJ dL_law_32 (by decide) (by decide) rfl (by decide) ?_
        exact law_6 hJ hTb hG hl hi i i0 (by omega) h K
      · refine mj_tabIn (off := 393) (tgt := 425) hJ dL_law_32 (by decide) (by decide) rfl (by decide) ?_
        exact law_7 hJ hTb hG hl hi i i0 (by omega) h K
      · refine mj_tabIn (off := 416) (tgt := 448) hJ dL_law_32 (by decide) (by decide) rfl (by decide) ?_
        exact law_8 hJ hTb hG hl hi i i0 (by omega) h K
      · refine mj_tabIn (off := 449) (tgt := 481) hJ dL_law_32 (by decide) (by decide) rfl (by decide) ?_
        exact law_9 hJ hTb hG hl hi i i0 (by omega) h K
      · refine mj_tabIn (off := 472) (tgt := 504) hJ dL_law_32 (by decide) (by decide) rfl (by decide) ?_
        exact law_10 hJ hTb hG hl hi i i0 (by omega) h K
      · refine mj_tabIn (off := 515) (tgt := 547) hJ dL_law_32 (by decide) (by decide) rfl (by decide) ?_
        exact law_11 hJ hTb hG hl hi i i0 (by omega) h K
      · refine mj_tabIn (off := 538) (tgt := 570) hJ dL_law_32 (by decide) (by decide) rfl (by decide) ?_
        exact law_12 hJ hTb hG hl hi i i0 (by omega) h K
      · refine mj_tabIn (off := 561) (tgt := 593) hJ dL_law_32 (by decide) (by decide) rfl (by decide) ?_
        exact law_13 hJ hTb hG hl hi i i0 (by omega) h K
      · refine mj_tabIn (off := 584) (tgt := 616) hJ dL_law_32 (by decide) (by decide) rfl (by decide) ?_
        exact law_14 hJ hTb hG hl hi i i0 (by omega) h K
      · refine mj_tabIn (off := 607) (tgt := 639) hJ dL_law_32 (by decide) (by decide) rfl (by decide) ?_
        exact law_15 hJ hTb hG hl hi i i0 (by omega) h K
      · refine mj_tabIn (off := 640) (tgt := 672) hJ dL_law_32 (by decide) (by decide) rfl (by decide) ?_
        exact law_16 hJ hTb hG hl hi i i0 (by omega) h K
      · refine mj_tabIn (off := 673) (tgt := 705) hJ dL_law_32 (by decide) (by decide) rfl (by decide) ?_
        exact law_17 hJ hTb hG hl hi i i0 (by omega) h K
      · refine mj_tabIn (off := 696) (tgt := 728) hJ dL_law_32 (by decide) (by decide) rfl (by decide) ?_
        exact law_18 hJ hTb hG hl hi i i0 (by omega) h K
      · refine mj_tabIn (off := 759) (tgt := 791) hJ dL_law_32 (by decide) (by decide) rfl (by decide) ?_
        exact law_19 hJ hTb hG hl hi i i0 (by omega) h K
      · refine mj_tabIn (off := 772) (tgt := 804) hJ dL_law_32 (by decide) (by decide) rfl (by decide) ?_
        exact law_20 hJ hTb hG hl hi i i0 (by omega) h K
      · refine mj_tabIn (off := 815) (tgt := 847) hJ dL_law_32 (by decide) (by decide) rfl (by decide) ?_
        exact law_21 hJ hTb hG hl hi i i0 (by omega) h K
      · refine mj_tabIn (off := 828) (tgt := 860) hJ dL_law_32 (by decide) (by decide) rfl (by decide) ?_
        exact law_22 hJ hTb hG hl hi i i0 (by omega) h K
      · refine mj_tabIn (off := 851) (tgt := 883) hJ dL_law_32 (by decide) (by decide) rfl (by decide) ?_
        exact law_23 hJ hTb hG hl hi i i0 (by omega) h K
      · refine mj_tabIn (off := 874) (tgt := 906) hJ dL_law_32 (by decide) (by decide) rfl (by decide) ?_
        exact law_24 hJ hTb hG hl hi i i0 (by omega) h K
      · refine mj_tabIn (off := 887) (tgt := 919) hJ dL_law_32 (by decide) (by decide) rfl (by decide) ?_
        exact law_25 hJ hTb hG hl hi i i0 (by omega) h K
      · refine mj_tabIn (off := 920) (tgt := 952) hJ dL_law_32 (by decide) (by decide) rfl (by decide) ?_
        exact law_26 hJ hTb hG hl hi i i0 (by omega) h K
      · refine mj_tabIn (off := 963) (tgt := 995) hJ dL_law_32 (by decide) (by decide) rfl (by decide) ?_
        exact law_27 hJ hTb hG hl hi i i0 (by omega) h K
      · refine mj_tabIn (off := 976) (tgt := 1008) hJ dL_law_32 (by decide) (by decide) rfl (by decide) ?_
        exact law_28 hJ hTb hG hl hi i i0 (by omega) h K
      · refine mj_tabIn (off := 1019) (tgt := 1051) hJ dL_law_32 (by decide) (by decide) rfl (by decide) ?_
        exact law_29 hJ hTb hG hl hi i i0 (by omega) h K
      · refine mj_tabIn (off := 1062) (tgt := 1094) hJ dL_law_32 (by decide) (by decide) rfl (by decide) ?_
        exact law_30 hJ hTb hG hl hi i i0 (by omega) h K
      · refine mj_tabIn (off := 1105) (tgt := 1137) hJ dL_law_32 (by decide) (by decide) rfl (by decide) ?_
        exact law_31 hJ hTb hG hl hi i i0 (by omega) h K
      · refine mj_tabIn (off := 1158) (tgt := 1190) hJ dL_law_32 (by decide) (by decide) rfl (by decide) ?_
        exact law_32 hJ hTb hG hl hi i i0 (by omega) h K
      · refine mj_tabIn (off := 1201) (tgt := 1233) hJ dL_law_32 (by decide) (by decide) rfl (by decide) ?_
        exact law_33 hJ hTb hG hl hi i i0 (by omega) h K
      · refine mj_tabIn (off := 1234) (tgt := 1266) hJ dL_law_32 (by decide) (by decide) rfl (by decide) ?_
        exact law_34 hJ hTb hG hl hi i i0 (by omega) h K
      · refine mj_tabIn (off := 1277) (tgt := 1309) hJ dL_law_32 (by decide) (by decide) rfl (by decide) ?_
        exact law_35 hJ hTb hG hl hi i i0 (by omega) h K
      · refine mj_tabIn (off := 1300) (tgt := 1332) hJ dL_law_32 (by decide) (by decide) rfl (by decide) ?_
        exact law_36 hJ hTb hG hl hi i i0 (by omega) h K
      · refine mj_tabIn (off := 1323) (tgt := 1355) hJ dL_law_32 (by decide) (by decide) rfl (by decide) ?_
        exact law_37 hJ hTb hG hl hi i i0 (by omega) h K
      · refine mj_tabIn (off := 1336) (tgt := 1368) hJ dL_law_32 (by decide) (by decide) rfl (by decide) ?_
        exact law_38 hJ hTb hG hl hi i i0 (by omega) h K
end LAW
