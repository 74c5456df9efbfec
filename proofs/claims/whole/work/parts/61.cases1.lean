/-! ===== the law: its cases ===== -/
set_option maxHeartbeats 4000000 in
theorem kc_off : kw_case 216 := by
  intro p l e s m below meth c b L xs D cA adX adN H locs ls n S Qf C hL hn hl hd kk
  obtain ⟨MX, MN, hPX, hPN, hmX, hmN, eX, eN, hI, hS⟩ := hd
  refine lv_aload_n C.hx C.hb dl_216 rfl (lv_at hl 2 rfl) ?_
  refine kg_arg (k := 1) C hL hn hl hS (by decide) dl_217 dl_218 dl_219 dl_220 dl_221 ?_
  refine kg_arg (k := 2) C hL hn hl hS (by decide) dl_222 dl_223 dl_224 dl_225 dl_226 ?_
  refine kg_callV (Lc := LX) (ad := adX) (M := MX) (ci := 5) (T := TX5) (N := 10) (k := 2) (as := [.inl (ka xs (n + 1)), .inl (ka xs (n + 2))]) (rest := []) (Q := fun v M' => v = some (.inl (op_off S (ka xs (n + 1)) (ka xs (n + 2)))) ∧ ff_X M' = S) C so_X5_off q_218 q_72 ⟨by decide +kernel, by decide +kernel, by decide +kernel⟩ q_215 q_216 q_217 rfl rfl ⟨by decide, by decide⟩ (List.forall_mem_cons.mpr ⟨ka_ri xs _, List.forall_mem_cons.mpr ⟨ka_ri xs _, fun _ h => absurd h List.not_mem_nil⟩⟩) hmX (by unfold sp_X5_off; exact ⟨rfl, by rw [eX]; exact hI, fun M' h => ⟨by rw [eX], by rw [h, eX]⟩⟩) rfl hPX (C.hDX _) C.hAX hS hPN (C.hdX _) hl (Nat.le_of_ble_eq_true rfl) rfl dl_227 (fun v MX H locs hQ hmX hPX hPN hS => ?_)
  obtain ⟨rfl, eX⟩ := hQ
  refine W.eq (g2 := F0 m 230 ls [.int (Int32.ofInt (op_off S (ka xs (n + 1)) (ka xs (n + 2))))]) rfl ?_
  refine lv_aload_n C.hx C.hb dl_230 rfl (lv_at hl 1 rfl) ?_
  refine kg_arg (k := 1) C hL hn hl hS (by decide) dl_231 dl_232 dl_233 dl_234 dl_235 ?_
  refine kg_arg (k := 2) C hL hn hl hS (by decide) dl_236 dl_237 dl_238 dl_239 dl_240 ?_
  refine kg_callV (Lc := LM) (ad := adN) (M := MN) (ci := 6) (T := TX6) (N := 28) (k := 2) (as := [.inl (ka xs (n + 1)), .inl (ka xs (n + 2))]) (rest := [.int (Int32.ofInt (op_off S (ka xs (n + 1)) (ka xs (n + 2))))]) (Q := fun v M' => v = some (.inl (op_off S (ka xs (n + 1)) (ka xs (n + 2)))) ∧ ff_N M' = S) C so_X6_off q_756 q_78 ⟨by decide +kernel, by decide +kernel, by decide +kernel⟩ q_753 q_754 q_755 rfl rfl ⟨by decide, by decide⟩ (List.forall_mem_cons.mpr ⟨ka_ri xs _, List.forall_mem_cons.mpr ⟨ka_ri xs _, fun _ h => absurd h List.not_mem_nil⟩⟩) hmN (by unfold sp_X6_off; exact ⟨rfl, by rw [eN]; exact hI, fun M' h => ⟨by rw [eN], by rw [h, eN]⟩⟩) rfl hPN (C.hDN _) C.hAN hS hPX (C.hdN _) hl (Nat.le_of_ble_eq_true rfl) rfl dl_241 (fun v MN H locs hQ hmN hPN hPX hS => ?_)
  obtain ⟨rfl, eN⟩ := hQ
  refine W.eq (g2 := F0 m 244 ls [.int (Int32.ofInt (op_off S (ka xs (n + 1)) (ka xs (n + 2)))), .int (Int32.ofInt (op_off S (ka xs (n + 1)) (ka xs (n + 2))))]) rfl ?_
  exact kg_eqI rfl C dl_244 (by decide) (kk _ _ _ ⟨MX, MN, hPX, hPN, hmX, hmN, eX, eN, hI, hS⟩)
set_option maxHeartbeats 4000000 in
theorem kc_sun : kw_case 249 := by
  intro p l e s m below meth c b L xs D cA adX adN H locs ls n S Qf C hL hn hl hd kk
  obtain ⟨MX, MN, hPX, hPN, hmX, hmN, eX, eN, hI, hS⟩ := hd
  refine lv_aload_n C.hx C.hb dl_249 rfl (lv_at hl 2 rfl) ?_
  refine kg_arg (k := 1) C hL hn hl hS (by decide) dl_250 dl_251 dl_252 dl_253 dl_254 ?_
  refine kg_callV (Lc := LX) (ad := adX) (M := MX) (ci := 5) (T := TX5) (N := 10) (k := 1) (as := [.inl (ka xs (n + 1))]) (rest := []) (Q := fun v M' => v = some (.inl (op_sun S (ka xs (n + 1)))) ∧ ff_X M' = S) C so_X5_sun q_237 q_72 ⟨by decide +kernel, by decide +kernel, by decide +kernel⟩ q_234 q_235 q_236 rfl rfl ⟨by decide, by decide⟩ (List.forall_mem_cons.mpr ⟨ka_ri xs _, fun _ h => absurd h List.not_mem_nil⟩) hmX (by unfold sp_X5_sun; exact ⟨rfl, by rw [eX]; exact hI, fun M' h => ⟨by rw [eX], by rw [h, eX]⟩⟩) rfl hPX (C.hDX _) C.hAX hS hPN (C.hdX _) hl (Nat.le_of_ble_eq_true rfl) rfl dl_255 (fun v MX H locs hQ hmX hPX hPN hS => ?_)
  obtain ⟨rfl, eX⟩ := hQ
  refine W.eq (g2 := F0 m 258 ls [.int (Int32.ofInt (op_sun S (ka xs (n + 1))))]) rfl ?_
  refine lv_aload_n C.hx C.hb dl_258 rfl (lv_at hl 1 rfl) ?_
  refine kg_arg (k := 1) C hL hn hl hS (by decide) dl_259 dl_260 dl_261 dl_262 dl_263 ?_
  refine kg_callV (Lc := LM) (ad := adN) (M := MN) (ci := 6) (T := TX6) (N := 28) (k := 1) (as := [.inl (ka xs (n + 1))]) (rest := [.int (Int32.ofInt (op_sun S (ka xs (n + 1))))]) (Q := fun v M' => v = some (.inl (op_sun S (ka xs (n + 1)))) ∧ ff_N M' = S) C so_X6_sun q_770 q_78 ⟨by decide +kernel, by decide +kernel, by decide +kernel⟩ q_767 q_768 q_769 rfl rfl ⟨by decide, by decide⟩ (List.forall_mem_cons.mpr ⟨ka_ri xs _, fun _ h => absurd h List.not_mem_nil⟩) hmN (by unfold sp_X6_sun; exact ⟨rfl, by rw [eN]; exact hI, fun M' h => ⟨by rw [eN], by rw [h, eN]⟩⟩) rfl hPN (C.hDN _) C.hAN hS hPX (C.hdN _) hl (Nat.le_of_ble_eq_true rfl) rfl dl_264 (fun v MN H locs hQ hmN hPN hPX hS => ?_)
  obtain ⟨rfl, eN⟩ := hQ
  refine W.eq (g2 := F0 m 267 ls [.int (Int32.ofInt (op_sun S (ka xs (n + 1)))), .int (Int32.ofInt (op_sun S (ka xs (n + 1))))]) rfl ?_
  exact kg_eqI rfl C dl_267 (by decide) (kk _ _ _ ⟨MX, MN, hPX, hPN, hmX, hmN, eX, eN, hI, hS⟩)
set_option maxHeartbeats 4000000 in
theorem kc_edge : kw_case 272 := by
  intro p l e s m below meth c b L xs D cA adX adN H locs ls n S Qf C hL hn hl hd kk
  obtain ⟨MX, MN, hPX, hPN, hmX, hmN, eX, eN, hI, hS⟩ := hd
  refine lv_aload_n C.hx C.hb dl_272 rfl (lv_at hl 2 rfl) ?_
  refine kg_arg (k := 1) C hL hn hl hS (by decide) dl_273 dl_274 dl_275 dl_276 dl_277 ?_
  refine kg_arg (k := 2) C hL hn hl hS (by decide) dl_278 dl_279 dl_280 dl_281 dl_282 ?_
  refine kg_arg (k := 3) C hL hn hl hS (by decide) dl_283 dl_284 dl_285 dl_286 dl_287 ?_
  refine kg_callV (Lc := LX) (ad := adX) (M := MX) (ci := 5) (T := TX5) (N := 10) (k := 3) (as := [.inl (ka xs (n + 1)), .inl (ka xs (n + 2)), .inl (ka xs (n + 3))]) (rest := []) (Q := fun v M' => v = some (.inl (op_edge S (ka xs (n + 1)) (ka xs (n + 2)) (ka xs (n + 3)))) ∧ ff_X M' = op_edge_s S (ka xs (n + 1)) (ka xs (n + 2)) (ka xs (n + 3))) C so_X5_edge q_249 q_72 ⟨by decide +kernel, by decide +kernel, by decide +kernel⟩ q_246 q_247 q_248 rfl rfl ⟨by decide, by decide⟩ (List.forall_mem_cons.mpr ⟨ka_ri xs _, List.forall_mem_cons.mpr ⟨ka_ri xs _, List.forall_mem_cons.mpr ⟨ka_ri xs _, fun _ h => absurd h List.not_mem_nil⟩⟩⟩) hmX (by unfold sp_X5_edge; exact ⟨rfl, by rw [eX]; exact hI, fun M' h => ⟨by rw [eX], by rw [h, eX]⟩⟩) rfl hPX (C.hDX _) C.hAX hS hPN (C.hdX _) hl (Nat.le_of_ble_eq_true rfl) rfl dl_288 (fun v MX H locs hQ hmX hPX hPN hS => ?_)
  obtain ⟨rfl, eX⟩ := hQ
  refine W.eq (g2 := F0 m 291 ls [.int (Int32.ofInt (op_edge S (ka xs (n + 1)) (ka xs (n + 2)) (ka xs (n + 3))))]) rfl ?_
  refine lv_aload_n C.hx C.hb dl_291 rfl (lv_at hl 1 rfl) ?_
  refine kg_arg (k := 1) C hL hn hl hS (by decide) dl_292 dl_293 dl_294 dl_295 dl_296 ?_
  refine kg_arg (k := 2) C hL hn hl hS (by decide) dl_297 dl_298 dl_299 dl_300 dl_301 ?_
  refine kg_arg (k := 3) C hL hn hl hS (by decide) dl_302 dl_303 dl_304 dl_305 dl_306 ?_
  refine kg_callV (Lc := LM) (ad := adN) (M := MN) (ci := 6) (T := TX6) (N := 28) (k := 3) (as := [.inl (ka xs (n + 1)), .inl (ka xs (n + 2)), .inl (ka xs (n + 3))]) (rest := [.int (Int32.ofInt (op_edge S (ka xs (n + 1)) (ka xs (n + 2)) (ka xs (n + 3))))]) (Q := fun v M' => v = some (.inl (op_edge S (ka xs (n + 1)) (ka xs (n + 2)) (ka xs (n + 3)))) ∧ ff_N M' = op_edge_s S (ka xs (n + 1)) (ka xs (n + 2)) (ka xs (n + 3))) C so_X6_edge q_781 q_78 ⟨by decide +kernel, by decide +kernel, by decide +kernel⟩ q_778 q_779 q_780 rfl rfl ⟨by decide, by decide⟩ (List.forall_mem_cons.mpr ⟨ka_ri xs _, List.forall_mem_cons.mpr ⟨ka_ri xs _, List.forall_mem_cons.mpr ⟨ka_ri xs _, fun _ h => absurd h List.not_mem_nil⟩⟩⟩) hmN (by unfold sp_X6_edge; exact ⟨rfl, by rw [eN]; exact hI, fun M' h => ⟨by rw [eN], by rw [h, eN]⟩⟩) rfl hPN (C.hDN _) C.hAN hS hPX (C.hdN _) hl (Nat.le_of_ble_eq_true rfl) rfl dl_307 (fun v MN H locs hQ hmN hPN hPX hS => ?_)
  obtain ⟨rfl, eN⟩ := hQ
  refine W.eq (g2 := F0 m 310 ls [.int (Int32.ofInt (op_edge S (ka xs (n + 1)) (ka xs (n + 2)) (ka xs (n + 3)))), .int (Int32.ofInt (op_edge S (ka xs (n + 1)) (ka xs (n + 2)) (ka xs (n + 3))))]) rfl ?_
  exact kg_eqI rfl C dl_310 (by decide) (kk _ _ _ ⟨MX, MN, hPX, hPN, hmX, hmN, eX, eN, (ff_Inv_edge hI _ _ _), hS⟩)
set_option maxHeartbeats 4000000 in
theorem kc_rise : kw_case 315 := by
  intro p l e s m below meth c b L xs D cA adX adN H locs ls n S Qf C hL hn hl hd kk
  obtain ⟨MX, MN, hPX, hPN, hmX, hmN, eX, eN, hI, hS⟩ := hd
  refine lv_aload_n C.hx C.hb dl_315 rfl (lv_at hl 2 rfl) ?_
  refine kg_arg (k := 1) C hL hn hl hS (by decide) dl_316 dl_317 dl_318 dl_319 dl_320 ?_
  refine kg_arg (k := 2) C hL hn hl hS (by decide) dl_321 dl_322 dl_323 dl_324 dl_325 ?_
  refine kg_callV (Lc := LX) (ad := adX) (M := MX) (ci := 5) (T := TX5) (N := 10) (k := 2) (as := [.inl (ka xs (n + 1)), .inl (ka xs (n + 2))]) (rest := []) (Q := fun v M' => v = some (.inl (op_rise S (ka xs (n + 1)) (ka xs (n + 2)))) ∧ ff_X M' = S) C so_X5_rise q_264 q_72 ⟨by decide +kernel, by decide +kernel, by decide +kernel⟩ q_261 q_262 q_263 rfl rfl ⟨by decide, by decide⟩ (List.forall_mem_cons.mpr ⟨ka_ri xs _, List.forall_mem_cons.mpr ⟨ka_ri xs _, fun _ h => absurd h List.not_mem_nil⟩⟩) hmX (by unfold sp_X5_rise; exact ⟨rfl, by rw [eX]; exact hI, fun M' h => ⟨by rw [eX], by rw [h, eX]⟩⟩) rfl hPX (C.hDX _) C.hAX hS hPN (C.hdX _) hl (Nat.le_of_ble_eq_true rfl) rfl dl_326 (fun v MX H locs hQ hmX hPX hPN hS => ?_)
  obtain ⟨rfl, eX⟩ := hQ
  refine W.eq (g2 := F0 m 329 ls [.int (Int32.ofInt (op_rise S (ka xs (n + 1)) (ka xs (n + 2))))]) rfl ?_
  refine lv_aload_n C.hx C.hb dl_329 rfl (lv_at hl 1 rfl) ?_
  refine kg_arg (k := 1) C hL hn hl hS (by decide) dl_330 dl_331 dl_332 dl_333 dl_334 ?_
  refine kg_arg (k := 2) C hL hn hl hS (by decide) dl_335 dl_336 dl_337 dl_338 dl_339 ?_
  refine kg_callV (Lc := LM) (ad := adN) (M := MN) (ci := 6) (T := TX6) (N := 28) (k := 2) (as := [.inl (ka xs (n + 1)), .inl (ka xs (n + 2))]) (rest := [.int (Int32.ofInt (op_rise S (ka xs (n + 1)) (ka xs (n + 2))))]) (Q := fun v M' => v = some (.inl (op_rise S (ka xs (n + 1)) (ka xs (n + 2)))) ∧ ff_N M' = S) C so_X6_rise q_791 q_78 ⟨by decide +kernel, by decide +kernel, by decide +kernel⟩ q_788 q_789 q_790 rfl rfl ⟨by decide, by decide⟩ (List.forall_mem_cons.mpr ⟨ka_ri xs _, List.forall_mem_cons.mpr ⟨ka_ri xs _, fun _ h => absurd h List.not_mem_nil⟩⟩) hmN (by unfold sp_X6_rise; exact ⟨rfl, by rw [eN]; exact hI, fun M' h => ⟨by rw [eN], by rw [h, eN]⟩⟩) rfl hPN (C.hDN _) C.hAN hS hPX (C.hdN _) hl (Nat.le_of_ble_eq_true rfl) rfl dl_340 (fun v MN H locs hQ hmN hPN hPX hS => ?_)
  obtain ⟨rfl, eN⟩ := hQ
  refine W.eq (g2 := F0 m 343 ls [.int (Int32.ofInt (op_rise S (ka xs (n + 1)) (ka xs (n + 2)))), .int (Int32.ofInt (op_rise S (ka xs (n + 1)) (ka xs (n + 2))))]) rfl ?_
  exact kg_eqI rfl C dl_343 (by decide) (kk _ _ _ ⟨MX, MN, hPX, hPN, hmX, hmN, eX, eN, hI, hS⟩)
set_option maxHeartbeats 4000000 in
theorem kc_switched : kw_case 348 := by
  intro p l e s m below meth c b L xs D cA adX adN H locs ls n S Qf C hL hn hl hd kk
  obtain ⟨MX, MN, hPX, hPN, hmX, hmN, eX, eN, hI, hS⟩ := hd
  refine lv_aload_n C.hx C.hb dl_348 rfl (lv_at hl 2 rfl) ?_
  refine kg_arg (k := 1) C hL hn hl hS (by decide) dl_349 dl_350 dl_351 dl_352 dl_353 ?_
  refine kg_callV (Lc := LX) (ad := adX) (M := MX) (ci := 5) (T := TX5) (N := 10) (k := 1) (as := [.inl (ka xs (n + 1))]) (rest := []) (Q := fun v M' => v = some (.inl (op_switched S (ka xs (n + 1)))) ∧ ff_X M' = op_switched_s S (ka xs (n + 1))) C so_X5_switched q_275 q_72 ⟨by decide +kernel, by decide +kernel, by decide +kernel⟩ q_272 q_273 q_274 rfl rfl ⟨by decide, by decide⟩ (List.forall_mem_cons.mpr ⟨ka_ri xs _, fun _ h => absurd h List.not_mem_nil⟩) hmX (by unfold sp_X5_switched; exact ⟨rfl, by rw [eX]; exact hI, fun M' h => ⟨by rw [eX], by rw [h, eX]⟩⟩) rfl hPX (C.hDX _) C.hAX hS hPN (C.hdX _) hl (Nat.le_of_ble_eq_true rfl) rfl dl_354 (fun v MX H locs hQ hmX hPX hPN hS => ?_)
  obtain ⟨rfl, eX⟩ := hQ
  refine W.eq (g2 := F0 m 357 ls [.int (Int32.ofInt (op_switched S (ka xs (n + 1))))]) rfl ?_
  refine lv_aload_n C.hx C.hb dl_357 rfl (lv_at hl 1 rfl) ?_
  refine kg_arg (k := 1) C hL hn hl hS (by decide) dl_358 dl_359 dl_360 dl_361 dl_362 ?_
  refine kg_callV (Lc := LM) (ad := adN) (M := MN) (ci := 6) (T := TX6) (N := 28) (k := 1) (as := [.inl (ka xs (n + 1))]) (rest := [.int (Int32.ofInt (op_switched S (ka xs (n + 1))))]) (Q := fun v M' => v = some (.inl (op_switched S (ka xs (n + 1)))) ∧ ff_N M' = op_switched_s S (ka xs (n + 1))) C so_X6_switched q_799 q_78 ⟨by decide +kernel, by decide +kernel, by decide +kernel⟩ q_796 q_797 q_798 rfl rfl ⟨by decide, by decide⟩ (List.forall_mem_cons.mpr ⟨ka_ri xs _, fun _ h => absurd h List.not_mem_nil⟩) hmN (by unfold sp_X6_switched; exact ⟨rfl, by rw [eN]; exact hI, fun M' h => ⟨by rw [eN], by rw [h, eN]⟩⟩) rfl hPN (C.hDN _) C.hAN hS hPX (C.hdN _) hl (Nat.le_of_ble_eq_true rfl) rfl dl_363 (fun v MN H locs hQ hmN hPN hPX hS => ?_)
  obtain ⟨rfl, eN⟩ := hQ
  refine W.eq (g2 := F0 m 366 ls [.int (Int32.ofInt (op_switched S (ka xs (n + 1)))), .int (Int32.ofInt (op_switched S (ka xs (n + 1))))]) rfl ?_
  exact kg_eqI rfl C dl_366 (by decide) (kk _ _ _ ⟨MX, MN, hPX, hPN, hmX, hmN, eX, eN, (ff_Inv_switched hI _), hS⟩)
set_option maxHeartbeats 4000000 in
theorem kc_day : kw_case 371 := by
  intro p l e s m below meth c b L xs D cA adX adN H locs ls n S Qf C hL hn hl hd kk
  obtain ⟨MX, MN, hPX, hPN, hmX, hmN, eX, eN, hI, hS⟩ := hd
  refine lv_aload_n C.hx C.hb dl_371 rfl (lv_at hl 2 rfl) ?_
  refine kg_arg (k := 1) C hL hn hl hS (by decide) dl_372 dl_373 dl_374 dl_375 dl_376 ?_
  refine kg_arg (k := 2) C hL hn hl hS (by decide) dl_377 dl_378 dl_379 dl_380 dl_381 ?_
  refine kg_callV (Lc := LX) (ad := adX) (M := MX) (ci := 5) (T := TX5) (N := 10) (k := 2) (as := [.inl (ka xs (n + 1)), .inl (ka xs (n + 2))]) (rest := []) (Q := fun v M' => v = some (.inl (op_day S (ka xs (n + 1)) (ka xs (n + 2)))) ∧ ff_X M' = S) C so_X5_day q_279 q_72 ⟨by decide +kernel, by decide +kernel, by decide +kernel⟩ q_276 q_277 q_278 rfl rfl ⟨by decide, by decide⟩ (List.forall_mem_cons.mpr ⟨ka_ri xs _, List.forall_mem_cons.mpr ⟨ka_ri xs _, fun _ h => absurd h List.not_mem_nil⟩⟩) hmX (by unfold sp_X5_day; exact ⟨rfl, by rw [eX]; exact hI, fun M' h => ⟨by rw [eX], by rw [h, eX]⟩⟩) rfl hPX (C.hDX _) C.hAX hS hPN (C.hdX _) hl (Nat.le_of_ble_eq_true rfl) rfl dl_382 (fun v MX H locs hQ hmX hPX hPN hS => ?_)
  obtain ⟨rfl, eX⟩ := hQ
  refine W.eq (g2 := F0 m 385 ls [.int (Int32.ofInt (op_day S (ka xs (n + 1)) (ka xs (n + 2))))]) rfl ?_
  refine lv_aload_n C.hx C.hb dl_385 rfl (lv_at hl 1 rfl) ?_
  refine kg_arg (k := 1) C hL hn hl hS (by decide) dl_386 dl_387 dl_388 dl_389 dl_390 ?_
  refine kg_arg (k := 2) C hL hn hl hS (by decide) dl_391 dl_392 dl_393 dl_394 dl_395 ?_
  refine kg_callV (Lc := LM) (ad := adN) (M := MN) (ci := 6) (T := TX6) (N := 28) (k := 2) (as := [.inl (ka xs (n + 1)), .inl (ka xs (n + 2))]) (rest := [.int (Int32.ofInt (op_day S (ka xs (n + 1)) (ka xs (n + 2))))]) (Q := fun v M' => v = some (.inl (op_day S (ka xs (n + 1)) (ka xs (n + 2)))) ∧ ff_N M' = S) C so_X6_day q_804 q_78 ⟨by decide +kernel, by decide +kernel, by decide +kernel⟩ q_801 q_802 q_803 rfl rfl ⟨by decide, by decide⟩ (List.forall_mem_cons.mpr ⟨ka_ri xs _, List.forall_mem_cons.mpr ⟨ka_ri xs _, fun _ h => absurd h List.not_mem_nil⟩⟩) hmN (by unfold sp_X6_day; exact ⟨rfl, by rw [eN]; exact hI, fun M' h => ⟨by rw [eN], by rw [h, eN]⟩⟩) rfl hPN (C.hDN _) C.hAN hS hPX (C.hdN _) hl (Nat.le_of_ble_eq_true rfl) rfl dl_396 (fun v MN H locs hQ hmN hPN hPX hS => ?_)
  obtain ⟨rfl, eN⟩ := hQ
  refine W.eq (g2 := F0 m 399 ls [.int (Int32.ofInt (op_day S (ka xs (n + 1)) (ka xs (n + 2)))), .int (Int32.ofInt (op_day S (ka xs (n + 1)) (ka xs (n + 2))))]) rfl ?_
  exact kg_eqI rfl C dl_399 (by decide) (kk _ _ _ ⟨MX, MN, hPX, hPN, hmX, hmN, eX, eN, hI, hS⟩)
set_option maxHeartbeats 4000000 in
theorem kc_feast : kw_case 404 := by
  intro p l e s m below meth c b L xs D cA adX adN H locs ls n S Qf C hL hn hl hd kk
  obtain ⟨MX, MN, hPX, hPN, hmX, hmN, eX, eN, hI, hS⟩ := hd
  refine lv_aload_n C.hx C.hb dl_404 rfl (lv_at hl 2 rfl) ?_
  refine kg_arg (k := 1) C hL hn hl hS (by decide) dl_405 dl_406 dl_407 dl_408 dl_409 ?_
  refine kg_callV (Lc := LX) (ad := adX) (M := MX) (ci := 5) (T := TX5) (N := 10) (k := 1) (as := [.inl (ka xs (n + 1))]) (rest := []) (Q := fun v M' => v = some (.inl (op_feast S (ka xs (n + 1)))) ∧ ff_X M' = op_feast_s S (ka xs (n + 1))) C so_X5_feast q_294 q_72 ⟨by decide +kernel, by decide +kernel, by decide +kernel⟩ q_291 q_292 q_293 rfl rfl ⟨by decide, by decide⟩ (List.forall_mem_cons.mpr ⟨ka_ri xs _, fun _ h => absurd h List.not_mem_nil⟩) hmX (by unfold sp_X5_feast; exact ⟨rfl, by rw [eX]; exact hI, fun M' h => ⟨by rw [eX], by rw [h, eX]⟩⟩) rfl hPX (C.hDX _) C.hAX hS hPN (C.hdX _) hl (Nat.le_of_ble_eq_true rfl) rfl dl_410 (fun v MX H locs hQ hmX hPX hPN hS => ?_)
  obtain ⟨rfl, eX⟩ := hQ
  refine W.eq (g2 := F0 m 413 ls [.int (Int32.ofInt (op_feast S (ka xs (n + 1))))]) rfl ?_
  refine lv_aload_n C.hx C.hb dl_413 rfl (lv_at hl 1 rfl) ?_
  refine kg_arg (k := 1) C hL hn hl hS (by decide) dl_414 dl_415 dl_416 dl_417 dl_418 ?_
  refine kg_callV (Lc := LM) (ad := adN) (M := MN) (ci := 6) (T := TX6) (N := 28) (k := 1) (as := [.inl (ka xs (n + 1))]) (rest := [.int (Int32.ofInt (op_feast S (ka xs (n + 1))))]) (Q := fun v M' => v = some (.inl (op_feast S (ka xs (n + 1)))) ∧ ff_N M' = op_feast_s S (ka xs (n + 1))) C so_X6_feast q_816 q_78 ⟨by decide +kernel, by decide +kernel, by decide +kernel⟩ q_813 q_814 q_815 rfl rfl ⟨by decide, by decide⟩ (List.forall_mem_cons.mpr ⟨ka_ri xs _, fun _ h => absurd h List.not_mem_nil⟩) hmN (by unfold sp_X6_feast; exact ⟨rfl, by rw [eN]; exact hI, fun M' h => ⟨by rw [eN], by rw [h, eN]⟩⟩) rfl hPN (C.hDN _) C.hAN hS hPX (C.hdN _) hl (Nat.le_of_ble_eq_true rfl) rfl dl_419 (fun v MN H locs hQ hmN hPN hPX hS => ?_)
  obtain ⟨rfl, eN⟩ := hQ
  refine W.eq (g2 := F0 m 422 ls [.int (Int32.ofInt (op_feast S (ka xs (n + 1)))), .int (Int32.ofInt (op_feast S (ka xs (n + 1))))]) rfl ?_
  exact kg_eqI rfl C dl_422 (by decide) (kk _ _ _ ⟨MX, MN, hPX, hPN, hmX, hmN, eX, eN, (ff_Inv_feast hI _), hS⟩)
set_option maxHeartbeats 4000000 in
theorem kc_write : kw_case 427 := by
  intro p l e s m below meth c b L xs D cA adX adN H locs ls n S Qf C hL hn hl hd kk
  obtain ⟨MX, MN, hPX, hPN, hmX, hmN, eX, eN, hI, hS⟩ := hd
  refine lv_aload_n C.hx C.hb dl_427 rfl (lv_at hl 2 rfl) ?_
  refine kg_arg (k := 1) C hL hn hl hS (by decide) dl_428 dl_429 dl_430 dl_431 dl_432 ?_
  refine kg_long C hL hn hl hS dl_433 dl_434 dl_435 dl_436 dl_437 dl_438 dl_439 dl_441 dl_442 dl_443 dl_444 dl_445 dl_446 dl_447 dl_448 dl_451 dl_452 ?_
  refine kg_callV (Lc := LX) (ad := adX) (M := MX) (ci := 5) (T := TX5) (N := 10) (k := 2) (as := [.inl (ka xs (n + 1)), .inr (.inl (kw_long (Int32.ofInt (ka xs (n + 2))) (Int32.ofInt (ka xs (n + 3)))).toInt)]) (rest := []) (Q := fun v M' => v = some (.inl (op_write S (ka xs (n + 1)) (kw_long (Int32.ofInt (ka xs (n + 2))) (Int32.ofInt (ka xs (n + 3)))).toInt)) ∧ ff_X M' = op_write_s S (ka xs (n + 1)) (kw_long (Int32.ofInt (ka xs (n + 2))) (Int32.ofInt (ka xs (n + 3)))).toInt) C so_X5_write q_298 q_72 ⟨by decide +kernel, by decide +kernel, by decide +kernel⟩ q_295 q_296 q_297 rfl rfl ⟨by decide, by decide⟩ (List.forall_mem_cons.mpr ⟨ka_ri xs _, List.forall_mem_cons.mpr ⟨ez_lr _, fun _ h => absurd h List.not_mem_nil⟩⟩) hmX (by unfold sp_X5_write; exact ⟨rfl, by rw [eX]; exact hI, fun M' h => ⟨by rw [eX], by rw [h, eX]⟩⟩) rfl hPX (C.hDX _) C.hAX hS hPN (C.hdX _) hl (Nat.le_of_ble_eq_true rfl) rfl dl_453 (fun v MX H locs hQ hmX hPX hPN hS => ?_)
  obtain ⟨rfl, eX⟩ := hQ
  refine W.eq (g2 := F0 m 456 ls [.int (Int32.ofInt (op_write S (ka xs (n + 1)) (kw_long (Int32.ofInt (ka xs (n + 2))) (Int32.ofInt (ka xs (n + 3)))).toInt))]) rfl ?_
  refine lv_aload_n C.hx C.hb dl_456 rfl (lv_at hl 1 rfl) ?_
  refine kg_arg (k := 1) C hL hn hl hS (by decide) dl_457 dl_458 dl_459 dl_460 dl_461 ?_
  refine kg_long C hL hn hl hS dl_462 dl_463 dl_464 dl_465 dl_466 dl_467 dl_468 dl_470 dl_471 dl_472 dl_473 dl_474 dl_475 dl_476 dl_477 dl_480 dl_481 ?_
  refine kg_callV (Lc := LM) (ad := adN) (M := MN) (ci := 6) (T := TX6) (N := 28) (k := 2) (as := [.inl (ka xs (n + 1)), .inr (.inl (kw_long (Int32.ofInt (ka xs (n + 2))) (Int32.ofInt (ka xs (n + 3)))).toInt)]) (rest := [.int (Int32.ofInt (op_write S (ka xs (n + 1)) (kw_long (Int32.ofInt (ka xs (n + 2))) (Int32.ofInt (ka xs (n + 3)))).toInt))]) (Q := fun v M' => v = some (.inl (op_write S (ka xs (n + 1)) (kw_long (Int32.ofInt (ka xs (n + 2))) (Int32.ofInt (ka xs (n + 3)))).toInt)) ∧ ff_N M' = op_write_s S (ka xs (n + 1)) (kw_long (Int32.ofInt (ka xs (n + 2))) (Int32.ofInt (ka xs (n + 3)))).toInt) C so_X6_write q_820 q_78 ⟨by decide +kernel, by decide +kernel, by decide +kernel⟩ q_817 q_818 q_819 rfl rfl ⟨by decide, by decide⟩ (List.forall_mem_cons.mpr ⟨ka_ri xs _, List.forall_mem_cons.mpr ⟨ez_lr _, fun _ h => absurd h List.not_mem_nil⟩⟩) hmN (by unfold sp_X6_write; exact ⟨rfl, by rw [eN]; exact hI, fun M' h => ⟨by rw [eN], by rw [h, eN]⟩⟩) rfl hPN (C.hDN _) C.hAN hS hPX (C.hdN _) hl (Nat.le_of_ble_eq_true rfl) rfl dl_482 (fun v MN H locs hQ hmN hPN hPX hS => ?_)
  obtain ⟨rfl, eN⟩ := hQ
  refine W.eq (g2 := F0 m 485 ls [.int (Int32.ofInt (op_write S (ka xs (n + 1)) (kw_long (Int32.ofInt (ka xs (n + 2))) (Int32.ofInt (ka xs (n + 3)))).toInt)), .int (Int32.ofInt (op_write S (ka xs (n + 1)) (kw_long (Int32.ofInt (ka xs (n + 2))) (Int32.ofInt (ka xs (n + 3)))).toInt))]) rfl ?_
  exact kg_eqI rfl C dl_485 (by decide) (kk _ _ _ ⟨MX, MN, hPX, hPN, hmX, hmN, eX, eN, (ff_Inv_write hI _ _), hS⟩)
set_option maxHeartbeats 4000000 in
theorem kc_wipe : kw_case 490 := by
  intro p l e s m below meth c b L xs D cA adX adN H locs ls n S Qf C hL hn hl hd kk
  obtain ⟨MX, MN, hPX, hPN, hmX, hmN, eX, eN, hI, hS⟩ := hd
  refine lv_aload_n C.hx C.hb dl_490 rfl (lv_at hl 2 rfl) ?_
  refine kg_callV (Lc := LX) (ad := adX) (M := MX) (ci := 5) (T := TX5) (N := 10) (k := 0) (as := []) (rest := []) (Q := fun v M' => v = some (.inl (op_wipe S)) ∧ ff_X M' = op_wipe_s S) C so_X5_wipe q_311 q_72 ⟨by decide +kernel, by decide +kernel, by decide +kernel⟩ q_308 q_309 q_310 rfl rfl ⟨by decide, by decide⟩ (fun _ h => absurd h List.not_mem_nil) hmX (by unfold sp_X5_wipe; exact ⟨rfl, by rw [eX]; exact hI, fun M' h => ⟨by rw [eX], by rw [h, eX]⟩⟩) rfl hPX (C.hDX _) C.hAX hS hPN (C.hdX _) hl (Nat.le_of_ble_eq_true rfl) rfl dl_491 (fun v MX H locs hQ hmX hPX hPN hS => ?_)
  obtain ⟨rfl, eX⟩ := hQ
  refine W.eq (g2 := F0 m 494 ls [.int (Int32.ofInt (op_wipe S))]) rfl ?_
  refine lv_aload_n C.hx C.hb dl_494 rfl (lv_at hl 1 rfl) ?_
  refine kg_callV (Lc := LM) (ad := adN) (M := MN) (ci := 6) (T := TX6) (N := 28) (k := 0) (as := []) (rest := [.int (Int32.ofInt (op_wipe S))]) (Q := fun v M' => v = some (.inl (op_wipe S)) ∧ ff_N M' = op_wipe_s S) C so_X6_wipe q_825 q_78 ⟨by decide +kernel, by decide +kernel, by decide +kernel⟩ q_822 q_823 q_824 rfl rfl ⟨by decide, by decide⟩ (fun _ h => absurd h List.not_mem_nil) hmN (by unfold sp_X6_wipe; exact ⟨rfl, by rw [eN]; exact hI, fun M' h => ⟨by rw [eN], by rw [h, eN]⟩⟩) rfl hPN (C.hDN _) C.hAN hS hPX (C.hdN _) hl (Nat.le_of_ble_eq_true rfl) rfl dl_495 (fun v MN H locs hQ hmN hPN hPX hS => ?_)
  obtain ⟨rfl, eN⟩ := hQ
  refine W.eq (g2 := F0 m 498 ls [.int (Int32.ofInt (op_wipe S)), .int (Int32.ofInt (op_wipe S))]) rfl ?_
  exact kg_eqI rfl C dl_498 (by decide) (kk _ _ _ ⟨MX, MN, hPX, hPN, hmX, hmN, eX, eN, (ff_Inv_wipe hI), hS⟩)
set_option maxHeartbeats 4000000 in
theorem kc_fault : kw_case 503 := by
  intro p l e s m below meth c b L xs D cA adX adN H locs ls n S Qf C hL hn hl hd kk
  obtain ⟨MX, MN, hPX, hPN, hmX, hmN, eX, eN, hI, hS⟩ := hd
  refine lv_aload_n C.hx C.hb dl_503 rfl (lv_at hl 2 rfl) ?_
  refine kg_callV (Lc := LX) (ad := adX) (M := MX) (ci := 5) (T := TX5) (N := 10) (k := 0) (as := []) (rest := []) (Q := fun v M' => v = some (.inl (op_fault S)) ∧ ff_X M' = S) C so_X5_fault q_319 q_72 ⟨by decide +kernel, by decide +kernel, by decide +kernel⟩ q_316 q_317 q_318 rfl rfl ⟨by decide, by decide⟩ (fun _ h => absurd h List.not_mem_nil) hmX (by unfold sp_X5_fault; exact ⟨rfl, by rw [eX]; exact hI, fun M' h => ⟨by rw [eX], by rw [h, eX]⟩⟩) rfl hPX (C.hDX _) C.hAX hS hPN (C.hdX _) hl (Nat.le_of_ble_eq_true rfl) rfl dl_504 (fun v MX H locs hQ hmX hPX hPN hS => ?_)
  obtain ⟨rfl, eX⟩ := hQ
  refine W.eq (g2 := F0 m 507 ls [.int (Int32.ofInt (op_fault S))]) rfl ?_
  refine lv_aload_n C.hx C.hb dl_507 rfl (lv_at hl 1 rfl) ?_
  refine kg_callV (Lc := LM) (ad := adN) (M := MN) (ci := 6) (T := TX6) (N := 28) (k := 0) (as := []) (rest := [.int (Int32.ofInt (op_fault S))]) (Q := fun v M' => v = some (.inl (op_fault S)) ∧ ff_N M' = S) C so_X6_fault q_829 q_78 ⟨by decide +kernel, by decide +kernel, by decide +kernel⟩ q_826 q_827 q_828 rfl rfl ⟨by decide, by decide⟩ (fun _ h => absurd h List.not_mem_nil) hmN (by unfold sp_X6_fault; exact ⟨rfl, by rw [eN]; exact hI, fun M' h => ⟨by rw [eN], by rw [h, eN]⟩⟩) rfl hPN (C.hDN _) C.hAN hS hPX (C.hdN _) hl (Nat.le_of_ble_eq_true rfl) rfl dl_508 (fun v MN H locs hQ hmN hPN hPX hS => ?_)
  obtain ⟨rfl, eN⟩ := hQ
  refine W.eq (g2 := F0 m 511 ls [.int (Int32.ofInt (op_fault S)), .int (Int32.ofInt (op_fault S))]) rfl ?_
  exact kg_eqI rfl C dl_511 (by decide) (kk _ _ _ ⟨MX, MN, hPX, hPN, hmX, hmN, eX, eN, hI, hS⟩)
set_option maxHeartbeats 4000000 in
theorem kc_book : kw_case 516 := by
  intro p l e s m below meth c b L xs D cA adX adN H locs ls n S Qf C hL hn hl hd kk
  obtain ⟨MX, MN, hPX, hPN, hmX, hmN, eX, eN, hI, hS⟩ := hd
  refine lv_aload_n C.hx C.hb dl_516 rfl (lv_at hl 2 rfl) ?_
  refine kg_callV (Lc := LX) (ad := adX) (M := MX) (ci := 5) (T := TX5) (N := 10) (k := 0) (as := []) (rest := []) (Q := fun v M' => v = some (.inl (op_book S)) ∧ ff_X M' = op_book_s S) C so_X5_book q_343 q_72 ⟨by decide +kernel, by decide +kernel, by decide +kernel⟩ q_340 q_341 q_342 rfl rfl ⟨by decide, by decide⟩ (fun _ h => absurd h List.not_mem_nil) hmX (by unfold sp_X5_book; exact ⟨rfl, by rw [eX]; exact hI, fun M' h => ⟨by rw [eX], by rw [h, eX]⟩⟩) rfl hPX (C.hDX _) C.hAX hS hPN (C.hdX _) hl (Nat.le_of_ble_eq_true rfl) rfl dl_517 (fun v MX H locs hQ hmX hPX hPN hS => ?_)
  obtain ⟨rfl, eX⟩ := hQ
  refine W.eq (g2 := F0 m 520 ls [.int (Int32.ofInt (op_book S))]) rfl ?_
  refine lv_aload_n C.hx C.hb dl_520 rfl (lv_at hl 1 rfl) ?_
  refine kg_callV (Lc := LM) (ad := adN) (M := MN) (ci := 6) (T := TX6) (N := 28) (k := 0) (as := []) (rest := [.int (Int32.ofInt (op_book S))]) (Q := fun v M' => v = some (.inl (op_book S)) ∧ ff_N M' = op_book_s S) C so_X6_book q_849 q_78 ⟨by decide +kernel, by decide +kernel, by decide +kernel⟩ q_846 q_847 q_848 rfl rfl ⟨by decide, by decide⟩ (fun _ h => absurd h List.not_mem_nil) hmN (by unfold sp_X6_book; exact ⟨rfl, by rw [eN]; exact hI, fun M' h => ⟨by rw [eN], by rw [h, eN]⟩⟩) rfl hPN (C.hDN _) C.hAN hS hPX (C.hdN _) hl (Nat.le_of_ble_eq_true rfl) rfl dl_521 (fun v MN H locs hQ hmN hPN hPX hS => ?_)
  obtain ⟨rfl, eN⟩ := hQ
  refine W.eq (g2 := F0 m 524 ls [.int (Int32.ofInt (op_book S)), .int (Int32.ofInt (op_book S))]) rfl ?_
  exact kg_eqI rfl C dl_524 (by decide) (kk _ _ _ ⟨MX, MN, hPX, hPN, hmX, hmN, eX, eN, (ff_Inv_book hI), hS⟩)
set_option maxHeartbeats 4000000 in
theorem kc_needle : kw_case 529 := by
  intro p l e s m below meth c b L xs D cA adX adN H locs ls n S Qf C hL hn hl hd kk
  obtain ⟨MX, MN, hPX, hPN, hmX, hmN, eX, eN, hI, hS⟩ := hd
  refine lv_aload_n C.hx C.hb dl_529 rfl (lv_at hl 2 rfl) ?_
  refine kg_arg (k := 1) C hL hn hl hS (by decide) dl_530 dl_531 dl_532 dl_533 dl_534 ?_
  refine kg_callV (Lc := LX) (ad := adX) (M := MX) (ci := 5) (T := TX5) (N := 10) (k := 1) (as := [.inl (ka xs (n + 1))]) (rest := []) (Q := fun v M' => v = some (.inl (op_needle S (ka xs (n + 1)))) ∧ ff_X M' = S) C so_X5_needle q_351 q_72 ⟨by decide +kernel, by decide +kernel, by decide +kernel⟩ q_348 q_349 q_350 rfl rfl ⟨by decide, by decide⟩ (List.forall_mem_cons.mpr ⟨ka_ri xs _, fun _ h => absurd h List.not_mem_nil⟩) hmX (by unfold sp_X5_needle; exact ⟨rfl, by rw [eX]; exact hI, fun M' h => ⟨by rw [eX], by rw [h, eX]⟩⟩) rfl hPX (C.hDX _) C.hAX hS hPN (C.hdX _) hl (Nat.le_of_ble_eq_true rfl) rfl dl_535 (fun v MX H locs hQ hmX hPX hPN hS => ?_)
  obtain ⟨rfl, eX⟩ := hQ
  refine W.eq (g2 := F0 m 538 ls [.int (Int32.ofInt (op_needle S (ka xs (n + 1))))]) rfl ?_
  refine lv_aload_n C.hx C.hb dl_538 rfl (lv_at hl 1 rfl) ?_
  refine kg_arg (k := 1) C hL hn hl hS (by decide) dl_539 dl_540 dl_541 dl_542 dl_543 ?_
  refine kg_callV (Lc := LM) (ad := adN) (M := MN) (ci := 6) (T := TX6) (N := 28) (k := 1) (as := [.inl (ka xs (n + 1))]) (rest := [.int (Int32.ofInt (op_needle S (ka xs (n + 1))))]) (Q := fun v M' => v = some (.inl (op_needle S (ka xs (n + 1)))) ∧ ff_N M' = S) C so_X6_needle q_853 q_78 ⟨by decide +kernel, by decide +kernel, by decide +kernel⟩ q_850 q_851 q_852 rfl rfl ⟨by decide, by decide⟩ (List.forall_mem_cons.mpr ⟨ka_ri xs _, fun _ h => absurd h List.not_mem_nil⟩) hmN (by unfold sp_X6_needle; exact ⟨rfl, by rw [eN]; exact hI, fun M' h => ⟨by rw [eN], by rw [h, eN]⟩⟩) rfl hPN (C.hDN _) C.hAN hS hPX (C.hdN _) hl (Nat.le_of_ble_eq_true rfl) rfl dl_544 (fun v MN H locs hQ hmN hPN hPX hS => ?_)
  obtain ⟨rfl, eN⟩ := hQ
  refine W.eq (g2 := F0 m 547 ls [.int (Int32.ofInt (op_needle S (ka xs (n + 1)))), .int (Int32.ofInt (op_needle S (ka xs (n + 1))))]) rfl ?_
  exact kg_eqI rfl C dl_547 (by decide) (kk _ _ _ ⟨MX, MN, hPX, hPN, hmX, hmN, eX, eN, hI, hS⟩)
set_option maxHeartbeats 4000000 in
theorem kc_church : kw_case 552 := by
  intro p l e s m below meth c b L xs D cA adX adN H locs ls n S Qf C hL hn hl hd kk
  obtain ⟨MX, MN, hPX, hPN, hmX, hmN, eX, eN, hI, hS⟩ := hd
  refine lv_aload_n C.hx C.hb dl_552 rfl (lv_at hl 2 rfl) ?_
  refine kg_arg (k := 1) C hL hn hl hS (by decide) dl_553 dl_554 dl_555 dl_556 dl_557 ?_
  refine kg_arg (k := 2) C hL hn hl hS (by decide) dl_558 dl_559 dl_560 dl_561 dl_562 ?_
  refine kg_arg (k := 3) C hL hn hl hS (by decide) dl_563 dl_564 dl_565 dl_566 dl_567 ?_
  refine kg_arg (k := 4) C hL hn hl hS (by decide) dl_568 dl_569 dl_570 dl_571 dl_572 ?_
  refine kg_arg (k := 5) C hL hn hl hS (by decide) dl_573 dl_574 dl_575 dl_576 dl_577 ?_
  refine kg_callV (Lc := LX) (ad := adX) (M := MX) (ci := 5) (T := TX5) (N := 10) (k := 5) (as := [.inl (ka xs (n + 1)), .inl (ka xs (n + 2)), .inl (ka xs (n + 3)), .inl (ka xs (n + 4)), .inl (ka xs (n + 5))]) (rest := []) (Q := fun v M' => v = some (.inl (op_church S (ka xs (n + 1)) (ka xs (n + 2)) (ka xs (n + 3)) (ka xs (n + 4)) (ka xs (n + 5)))) ∧ ff_X M' = op_church_s S (ka xs (n + 1)) (ka xs (n + 2)) (ka xs (n + 3)) (ka xs (n + 4)) (ka xs (n + 5))) C so_X5_church q_359 q_72 ⟨by decide +kernel, by decide +kernel, by decide +kernel⟩ q_356 q_357 q_358 rfl rfl ⟨by decide, by decide⟩ (List.forall_mem_cons.mpr ⟨ka_ri xs _, List.forall_mem_cons.mpr ⟨ka_ri xs _, List.forall_mem_cons.mpr ⟨ka_ri xs _, List.forall_mem_cons.mpr ⟨ka_ri xs _, List.forall_mem_cons.mpr ⟨ka_ri xs _, fun _ h => absurd h List.not_mem_nil⟩⟩⟩⟩⟩) hmX (by unfold sp_X5_church; exact ⟨rfl, by rw [eX]; exact hI, fun M' h => ⟨by rw [eX], by rw [h, eX]⟩⟩) rfl hPX (C.hDX _) C.hAX hS hPN (C.hdX _) hl (Nat.le_of_ble_eq_true rfl) rfl dl_578 (fun v MX H locs hQ hmX hPX hPN hS => ?_)
  obtain ⟨rfl, eX⟩ := hQ
  refine W.eq (g2 := F0 m 581 ls [.int (Int32.ofInt (op_church S (ka xs (n + 1)) (ka xs (n + 2)) (ka xs (n + 3)) (ka xs (n + 4)) (ka xs (n + 5))))]) rfl ?_
  refine lv_aload_n C.hx C.hb dl_581 rfl (lv_at hl 1 rfl) ?_
  refine kg_arg (k := 1) C hL hn hl hS (by decide) dl_582 dl_583 dl_584 dl_585 dl_586 ?_
  refine kg_arg (k := 2) C hL hn hl hS (by decide) dl_587 dl_588 dl_589 dl_590 dl_591 ?_
  refine kg_arg (k := 3) C hL hn hl hS (by decide) dl_592 dl_593 dl_594 dl_595 dl_596 ?_
  refine kg_arg (k := 4) C hL hn hl hS (by decide) dl_597 dl_598 dl_599 dl_600 dl_601 ?_
  refine kg_arg (k := 5) C hL hn hl hS (by decide) dl_602 dl_603 dl_604 dl_605 dl_606 ?_
  refine kg_callV (Lc := LM) (ad := adN) (M := MN) (ci := 6) (T := TX6) (N := 28) (k := 5) (as := [.inl (ka xs (n + 1)), .inl (ka xs (n + 2)), .inl (ka xs (n + 3)), .inl (ka xs (n + 4)), .inl (ka xs (n + 5))]) (rest := [.int (Int32.ofInt (op_church S (ka xs (n + 1)) (ka xs (n + 2)) (ka xs (n + 3)) (ka xs (n + 4)) (ka xs (n + 5))))]) (Q := fun v M' => v = some (.inl (op_church S (ka xs (n + 1)) (ka xs (n + 2)) (ka xs (n + 3)) (ka xs (n + 4)) (ka xs (n + 5)))) ∧ ff_N M' = op_church_s S (ka xs (n + 1)) (ka xs (n + 2)) (ka xs (n + 3)) (ka xs (n + 4)) (ka xs (n + 5))) C so_X6_church q_861 q_78 ⟨by decide +kernel, by decide +kernel, by decide +kernel⟩ q_858 q_859 q_860 rfl rfl ⟨by decide, by decide⟩ (List.forall_mem_cons.mpr ⟨ka_ri xs _, List.forall_mem_cons.mpr ⟨ka_ri xs _, List.forall_mem_cons.mpr ⟨ka_ri xs _, List.forall_mem_cons.mpr ⟨ka_ri xs _, List.forall_mem_cons.mpr ⟨ka_ri xs _, fun _ h => absurd h List.not_mem_nil⟩⟩⟩⟩⟩) hmN (by unfold sp_X6_church; exact ⟨rfl, by rw [eN]; exact hI, fun M' h => ⟨by rw [eN], by rw [h, eN]⟩⟩) rfl hPN (C.hDN _) C.hAN hS hPX (C.hdN _) hl (Nat.le_of_ble_eq_true rfl) rfl dl_607 (fun v MN H locs hQ hmN hPN hPX hS => ?_)
  obtain ⟨rfl, eN⟩ := hQ
  refine W.eq (g2 := F0 m 610 ls [.int (Int32.ofInt (op_church S (ka xs (n + 1)) (ka xs (n + 2)) (ka xs (n + 3)) (ka xs (n + 4)) (ka xs (n + 5)))), .int (Int32.ofInt (op_church S (ka xs (n + 1)) (ka xs (n + 2)) (ka xs (n + 3)) (ka xs (n + 4)) (ka xs (n + 5))))]) rfl ?_
  exact kg_eqI rfl C dl_610 (by decide) (kk _ _ _ ⟨MX, MN, hPX, hPN, hmX, hmN, eX, eN, (ff_Inv_church hI _ _ _ _ _), hS⟩)
set_option maxHeartbeats 4000000 in
theorem kc_tell : kw_case 615 := by
  intro p l e s m below meth c b L xs D cA adX adN H locs ls n S Qf C hL hn hl hd kk
  obtain ⟨MX, MN, hPX, hPN, hmX, hmN, eX, eN, hI, hS⟩ := hd
  refine lv_aload_n C.hx C.hb dl_615 rfl (lv_at hl 2 rfl) ?_
  refine kg_arg (k := 1) C hL hn hl hS (by decide) dl_616 dl_617 dl_618 dl_619 dl_620 ?_
  refine kg_arg (k := 2) C hL hn hl hS (by decide) dl_621 dl_622 dl_623 dl_624 dl_625 ?_
  refine kg_arg (k := 3) C hL hn hl hS (by decide) dl_626 dl_627 dl_628 dl_629 dl_630 ?_
  refine kg_callV (Lc := LX) (ad := adX) (M := MX) (ci := 5) (T := TX5) (N := 10) (k := 3) (as := [.inl (ka xs (n + 1)), .inl (ka xs (n + 2)), .inl (ka xs (n + 3))]) (rest := []) (Q := fun v M' => v = some (.inl (op_tell S (ka xs (n + 1)) (ka xs (n + 2)) (ka xs (n + 3)))) ∧ ff_X M' = op_tell_s S (ka xs (n + 1)) (ka xs (n + 2)) (ka xs (n + 3))) C so_X5_tell q_377 q_72 ⟨by decide +kernel, by decide +kernel, by decide +kernel⟩ q_374 q_375 q_376 rfl rfl ⟨by decide, by decide⟩ (List.forall_mem_cons.mpr ⟨ka_ri xs _, List.forall_mem_cons.mpr ⟨ka_ri xs _, List.forall_mem_cons.mpr ⟨ka_ri xs _, fun _ h => absurd h List.not_mem_nil⟩⟩⟩) hmX (by unfold sp_X5_tell; exact ⟨rfl, by rw [eX]; exact hI, fun M' h => ⟨by rw [eX], by rw [h, eX]⟩⟩) rfl hPX (C.hDX _) C.hAX hS hPN (C.hdX _) hl (Nat.le_of_ble_eq_true rfl) rfl dl_631 (fun v MX H locs hQ hmX hPX hPN hS => ?_)
  obtain ⟨rfl, eX⟩ := hQ
  refine W.eq (g2 := F0 m 634 ls [.int (Int32.ofInt (op_tell S (ka xs (n + 1)) (ka xs (n + 2)) (ka xs (n + 3))))]) rfl ?_
  refine lv_aload_n C.hx C.hb dl_634 rfl (lv_at hl 1 rfl) ?_
  refine kg_arg (k := 1) C hL hn hl hS (by decide) dl_635 dl_636 dl_637 dl_638 dl_639 ?_
  refine kg_arg (k := 2) C hL hn hl hS (by decide) dl_640 dl_641 dl_642 dl_643 dl_644 ?_
  refine kg_arg (k := 3) C hL hn hl hS (by decide) dl_645 dl_646 dl_647 dl_648 dl_649 ?_
  refine kg_callV (Lc := LM) (ad := adN) (M := MN) (ci := 6) (T := TX6) (N := 28) (k := 3) (as := [.inl (ka xs (n + 1)), .inl (ka xs (n + 2)), .inl (ka xs (n + 3))]) (rest := [.int (Int32.ofInt (op_tell S (ka xs (n + 1)) (ka xs (n + 2)) (ka xs (n + 3))))]) (Q := fun v M' => v = some (.inl (op_tell S (ka xs (n + 1)) (ka xs (n + 2)) (ka xs (n + 3)))) ∧ ff_N M' = op_tell_s S (ka xs (n + 1)) (ka xs (n + 2)) (ka xs (n + 3))) C so_X6_tell q_868 q_78 ⟨by decide +kernel, by decide +kernel, by decide +kernel⟩ q_865 q_866 q_867 rfl rfl ⟨by decide, by decide⟩ (List.forall_mem_cons.mpr ⟨ka_ri xs _, List.forall_mem_cons.mpr ⟨ka_ri xs _, List.forall_mem_cons.mpr ⟨ka_ri xs _, fun _ h => absurd h List.not_mem_nil⟩⟩⟩) hmN (by unfold sp_X6_tell; exact ⟨rfl, by rw [eN]; exact hI, fun M' h => ⟨by rw [eN], by rw [h, eN]⟩⟩) rfl hPN (C.hDN _) C.hAN hS hPX (C.hdN _) hl (Nat.le_of_ble_eq_true rfl) rfl dl_650 (fun v MN H locs hQ hmN hPN hPX hS => ?_)
  obtain ⟨rfl, eN⟩ := hQ
  refine W.eq (g2 := F0 m 653 ls [.int (Int32.ofInt (op_tell S (ka xs (n + 1)) (ka xs (n + 2)) (ka xs (n + 3)))), .int (Int32.ofInt (op_tell S (ka xs (n + 1)) (ka xs (n + 2)) (ka xs (n + 3))))]) rfl ?_
  exact kg_eqI rfl C dl_653 (by decide) (kk _ _ _ ⟨MX, MN, hPX, hPN, hmX, hmN, eX, eN, (ff_Inv_tell hI _ _ _), hS⟩)

