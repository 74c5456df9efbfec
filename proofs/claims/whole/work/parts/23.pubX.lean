theorem k_X5_65 {d : Nat} (h : 1 < d) : ez_CallOK LX RX5 d (65, 0, 1, sp_X5_isDegree) := ez_callS (y := yX5_isDegree) (bytes := cX5_isDegree) so_X5_isDegree h (by decide) q_221 q_72 ⟨by decide +kernel, by decide +kernel, by decide +kernel⟩ (Or.inl q_219) q_220
def sp_X5_off : ez_Sp := fun as M Q => match as with | [.inr (.inr q), .inl a, .inl b] => q = 0 ∧ ff_Inv (ff_X M) ∧ (∀ M' : ez_M, ff_X M' = ff_X M → Q (some (.inl (op_off (ff_X M) a b))) M') | _ => False
def e_X5_off : ez_E := (fl_X5, co_X5, [(65, 0, 1, sp_X5_isDegree), (69, 0, 2, sp_X5_apart)], 0, 3)
set_option maxHeartbeats 4000000 in
set_option maxRecDepth 100000 in
theorem b_X5_off : ez_Body LX e_X5_off p_X5_off sp_X5_off := by
  intro as M Q has hM hsp
  unfold sp_X5_off at hsp
  split at hsp
  rotate_left
  · exact hsp.elim
  rename_i q a b
  have g_a : -2147483648 ≤ a ∧ a ≤ 2147483647 := ez_hd (ez_tl (has))
  have g_b : -2147483648 ≤ b ∧ b ≤ 2147483647 := ez_hd (ez_tl (ez_tl (has)))
  obtain ⟨rfl, hI, hsp⟩ := hsp
  have hn := ff_n_X hI
  have hsp := hsp M rfl
  unfold op_off at hsp
  refine ⟨Nat.le_of_ble_eq_true rfl, fun cut hcut hkut => hcut [] 60 0 _ _ _ ?_⟩
  split at hsp <;> (repeat' (first | (intro hh; exfalso; omega) | (refine And.intro (by first | assumption | omega) ?_) | (refine And.intro rfl ?_) | (refine And.intro ?_ ?_) | (intro qq hq1 hq2 hq3; have hq4 := hq2 (by omega) (by omega); subst hq4) | (intro hh) | omega | exact trivial))
  all_goals exact hsp
theorem so_X5_off : ez_Sound LX yX5_off cX5_off 3 (some .int) 2 sp_X5_off := ez_sound (E := e_X5_off) (prog := p_X5_off) LX_ok (by decide +kernel) rfl (fun _ h => h) fo_X5 co_X5_ok (List.forall_mem_cons.mpr ⟨k_X5_65 (by decide), List.forall_mem_cons.mpr ⟨k_X5_69 (by decide), fun _ h => absurd h List.not_mem_nil⟩⟩) dp_X5_off b_X5_off
theorem k_X5_73 {d : Nat} (h : 1 < d) : ez_CallOK LX RX5 d (73, 0, 1, sp_X5_isDay) := ez_callS (y := yX5_isDay) (bytes := cX5_isDay) so_X5_isDay h (by decide) q_240 q_72 ⟨by decide +kernel, by decide +kernel, by decide +kernel⟩ (Or.inl q_238) q_239
theorem k_X5_76 {d : Nat} (h : 1 < d) : ez_CallOK LX RX5 d (76, 0, 1, sp_X4_sunAt) := ez_callS (y := yX4_sunAt) (bytes := cX4_sunAt) so_X4_sunAt h (by decide) q_243 q_73 ⟨by decide +kernel, by decide +kernel, by decide +kernel⟩ (Or.inr ⟨"EastNearly", q_241⟩) q_242
def sp_X5_sun : ez_Sp := fun as M Q => match as with | [.inr (.inr q), .inl d] => q = 0 ∧ ff_Inv (ff_X M) ∧ (∀ M' : ez_M, ff_X M' = ff_X M → Q (some (.inl (op_sun (ff_X M) d))) M') | _ => False
def e_X5_sun : ez_E := (fl_X5, co_X5, [(73, 0, 1, sp_X5_isDay), (76, 0, 1, sp_X4_sunAt)], 0, 2)
set_option maxHeartbeats 4000000 in
set_option maxRecDepth 100000 in
theorem b_X5_sun : ez_Body LX e_X5_sun p_X5_sun sp_X5_sun := by
  intro as M Q has hM hsp
  unfold sp_X5_sun at hsp
  split at hsp
  rotate_left
  · exact hsp.elim
  rename_i q d
  have g_d : -2147483648 ≤ d ∧ d ≤ 2147483647 := ez_hd (ez_tl (has))
  obtain ⟨rfl, hI, hsp⟩ := hsp
  have hn := ff_n_X hI
  have hsp := hsp M rfl
  unfold op_sun at hsp
  refine ⟨Nat.le_of_ble_eq_true rfl, fun cut hcut hkut => hcut [] 60 0 _ _ _ ?_⟩
  split at hsp <;> (repeat' (first | (intro hh; exfalso; omega) | (refine And.intro (by first | assumption | omega) ?_) | (refine And.intro rfl ?_) | (refine And.intro ?_ ?_) | (intro qq hq1 hq2 hq3; have hq4 := hq2 (by omega) (by omega); subst hq4) | (intro hh) | omega | exact trivial))
  all_goals exact hsp
theorem so_X5_sun : ez_Sound LX yX5_sun cX5_sun 2 (some .int) 2 sp_X5_sun := ez_sound (E := e_X5_sun) (prog := p_X5_sun) LX_ok (by decide +kernel) rfl (fun _ h => h) fo_X5 co_X5_ok (List.forall_mem_cons.mpr ⟨k_X5_73 (by decide), List.forall_mem_cons.mpr ⟨k_X5_76 (by decide), fun _ h => absurd h List.not_mem_nil⟩⟩) dp_X5_sun b_X5_sun
theorem k_X5_80 {d : Nat} (h : 1 < d) : ez_CallOK LX RX5 d (80, 0, 1, sp_X5_isLand) := ez_callS (y := yX5_isLand) (bytes := cX5_isLand) so_X5_isLand h (by decide) q_252 q_72 ⟨by decide +kernel, by decide +kernel, by decide +kernel⟩ (Or.inl q_250) q_251
theorem k_X5_87 {d : Nat} (h : 1 < d) : ez_CallOK LX RX5 d (87, 4+1, 3, sp_X4_setHeight) := ez_callV (y := yX4_setHeight) (bytes := cX4_setHeight) so_X4_setHeight h (by decide) q_256 q_73 ⟨by decide +kernel, by decide +kernel, by decide +kernel⟩ (Or.inr ⟨"EastNearly", q_253⟩) q_255 q_0 (T := TX4) (N := 2) rfl
def sp_X5_edge : ez_Sp := fun as M Q => match as with | [.inr (.inr q), .inl l, .inl t, .inl h] => q = 0 ∧ ff_Inv (ff_X M) ∧ (∀ M' : ez_M, ff_X M' = op_edge_s (ff_X M) l t h → Q (some (.inl (op_edge (ff_X M) l t h))) M') | _ => False
def e_X5_edge : ez_E := (fl_X5, co_X5, [(80, 0, 1, sp_X5_isLand), (83, 0, 3, sp_X5_within), (87, 4+1, 3, sp_X4_setHeight)], 0, 4)
set_option maxHeartbeats 4000000 in
set_option maxRecDepth 100000 in
theorem b_X5_edge : ez_Body LX e_X5_edge p_X5_edge sp_X5_edge := by
  intro as M Q has hM hsp
  unfold sp_X5_edge at hsp
  split at hsp
  rotate_left
  · exact hsp.elim
  rename_i q l t h
  have g_l : -2147483648 ≤ l ∧ l ≤ 2147483647 := ez_hd (ez_tl (has))
  have g_t : -2147483648 ≤ t ∧ t ≤ 2147483647 := ez_hd (ez_tl (ez_tl (has)))
  have g_h : -2147483648 ≤ h ∧ h ≤ 2147483647 := ez_hd (ez_tl (ez_tl (ez_tl (has))))
  obtain ⟨rfl, hI, hsp⟩ := hsp
  have hn := ff_n_X hI
  unfold op_edge op_edge_s at hsp
  refine ⟨Nat.le_of_ble_eq_true rfl, fun cut hcut hkut => hcut [] 60 0 _ _ _ ?_⟩
  by_cases h1 : (0 ≤ l ∧ l ≤ 3) ∧ (0 ≤ t ∧ t ≤ 35)
  · by_cases h2 : 0 ≤ h ∧ h ≤ 9
    · rw [if_pos ⟨h1, h2⟩, if_pos h1, if_pos h2] at hsp
      have hsp := hsp _ (ff_X_2 M _ _)
      repeat' (first | (intro hh; exfalso; omega) | (refine And.intro (by first | assumption | omega) ?_) | (refine And.intro rfl ?_) | (refine And.intro ?_ ?_) | (intro qq hq1 hq2 hq3; have hq4 := hq2 (by omega) (by omega); subst hq4) | (intro hh) | omega | exact trivial)
      all_goals exact hsp
    · rw [if_neg (fun z => h2 z.2), if_pos h1, if_neg h2] at hsp
      have hsp := hsp M rfl
      repeat' (first | (intro hh; exfalso; omega) | (refine And.intro (by first | assumption | omega) ?_) | (refine And.intro rfl ?_) | (refine And.intro ?_ ?_) | (intro qq hq1 hq2 hq3; have hq4 := hq2 (by omega) (by omega); subst hq4) | (intro hh) | omega | exact trivial)
      all_goals exact hsp
  · rw [if_neg (fun z => h1 z.1), if_neg h1] at hsp
    have hsp := hsp M rfl
    repeat' (first | (intro hh; exfalso; omega) | (refine And.intro (by first | assumption | omega) ?_) | (refine And.intro rfl ?_) | (refine And.intro ?_ ?_) | (intro qq hq1 hq2 hq3; have hq4 := hq2 (by omega) (by omega); subst hq4) | (intro hh) | omega | exact trivial)
    all_goals exact hsp
theorem so_X5_edge : ez_Sound LX yX5_edge cX5_edge 4 (some .int) 2 sp_X5_edge := ez_sound (E := e_X5_edge) (prog := p_X5_edge) LX_ok (by decide +kernel) rfl (fun _ h => h) fo_X5 co_X5_ok (List.forall_mem_cons.mpr ⟨k_X5_80 (by decide), List.forall_mem_cons.mpr ⟨k_X5_83 (by decide), List.forall_mem_cons.mpr ⟨k_X5_87 (by decide), fun _ h => absurd h List.not_mem_nil⟩⟩⟩) dp_X5_edge b_X5_edge
def sp_X5_rise : ez_Sp := fun as M Q => match as with | [.inr (.inr q), .inl l, .inl d] => q = 0 ∧ ff_Inv (ff_X M) ∧ (∀ M' : ez_M, ff_X M' = ff_X M → Q (some (.inl (op_rise (ff_X M) l d))) M') | _ => False
def e_X5_rise : ez_E := (fl_X5, co_X5, [(80, 0, 1, sp_X5_isLand), (73, 0, 1, sp_X5_isDay), (91, 4+1, 2, sp_X4_riseAt)], 0, 3)
set_option maxHeartbeats 4000000 in
set_option maxRecDepth 100000 in
theorem b_X5_rise : ez_Body LX e_X5_rise p_X5_rise sp_X5_rise := by
  intro as M Q has hM hsp
  unfold sp_X5_rise at hsp
  split at hsp
  rotate_left
  · exact hsp.elim
  rename_i q l d
  have g_l : -2147483648 ≤ l ∧ l ≤ 2147483647 := ez_hd (ez_tl (has))
  have g_d : -2147483648 ≤ d ∧ d ≤ 2147483647 := ez_hd (ez_tl (ez_tl (has)))
  obtain ⟨rfl, hI, hsp⟩ := hsp
  have hn := ff_n_X hI
  have hsp := hsp M rfl
  unfold op_rise at hsp
  refine ⟨Nat.le_of_ble_eq_true rfl, fun cut hcut hkut => hcut [] 60 0 _ _ _ ?_⟩
  split at hsp <;> (repeat' (first | (intro hh; exfalso; omega) | (refine And.intro (by first | assumption | omega) ?_) | (refine And.intro rfl ?_) | (refine And.intro ?_ ?_) | (intro qq hq1 hq2 hq3; have hq4 := hq2 (by omega) (by omega); subst hq4) | (intro hh) | omega | exact trivial))
  all_goals exact hsp
theorem so_X5_rise : ez_Sound LX yX5_rise cX5_rise 3 (some .int) 3 sp_X5_rise := ez_sound (E := e_X5_rise) (prog := p_X5_rise) LX_ok (by decide +kernel) rfl (fun _ h => h) fo_X5 co_X5_ok (List.forall_mem_cons.mpr ⟨k_X5_80 (by decide), List.forall_mem_cons.mpr ⟨k_X5_73 (by decide), List.forall_mem_cons.mpr ⟨k_X5_91 (by decide), fun _ h => absurd h List.not_mem_nil⟩⟩⟩) dp_X5_rise b_X5_rise
def sp_X5_switched : ez_Sp := fun as M Q => match as with | [.inr (.inr q), .inl y] => q = 0 ∧ ff_Inv (ff_X M) ∧ (∀ M' : ez_M, ff_X M' = op_switched_s (ff_X M) y → Q (some (.inl (op_switched (ff_X M) y))) M') | _ => False
def e_X5_switched : ez_E := (fl_X5, co_X5, [(83, 0, 3, sp_X5_within)], 0, 3)
set_option maxHeartbeats 4000000 in
set_option maxRecDepth 100000 in
theorem b_X5_switched : ez_Body LX e_X5_switched p_X5_switched sp_X5_switched := by
  intro as M Q has hM hsp
  unfold sp_X5_switched at hsp
  split at hsp
  rotate_left
  · exact hsp.elim
  rename_i q y
  have g_y : -2147483648 ≤ y ∧ y ≤ 2147483647 := ez_hd (ez_tl (has))
  obtain ⟨rfl, hI, hsp⟩ := hsp
  have hn := ff_n_X hI
  unfold op_switched op_switched_s at hsp
  refine ⟨Nat.le_of_ble_eq_true rfl, fun cut hcut hkut => hcut [] 60 0 _ _ _ ?_⟩
  by_cases h1 : 0 ≤ y ∧ y ≤ 600
  · rw [if_pos h1, if_pos h1] at hsp
    have hsp := hsp _ (ff_X_sw M _)
    repeat' (first | (intro hh; exfalso; omega) | (refine And.intro (by first | assumption | omega) ?_) | (refine And.intro rfl ?_) | (refine And.intro ?_ ?_) | (intro qq hq1 hq2 hq3; have hq4 := hq2 (by omega) (by omega); subst hq4) | (intro hh) | omega | exact trivial)
    all_goals exact hsp
  · rw [if_neg h1, if_neg h1] at hsp
    have hsp := hsp M rfl
    repeat' (first | (intro hh; exfalso; omega) | (refine And.intro (by first | assumption | omega) ?_) | (refine And.intro rfl ?_) | (refine And.intro ?_ ?_) | (intro qq hq1 hq2 hq3; have hq4 := hq2 (by omega) (by omega); subst hq4) | (intro hh) | omega | exact trivial)
    all_goals exact hsp
theorem so_X5_switched : ez_Sound LX yX5_switched cX5_switched 3 (some .int) 1 sp_X5_switched := ez_sound (E := e_X5_switched) (prog := p_X5_switched) LX_ok (by decide +kernel) rfl (fun _ h => h) fo_X5 co_X5_ok (List.forall_mem_cons.mpr ⟨k_X5_83 (by decide), fun _ h => absurd h List.not_mem_nil⟩) dp_X5_switched b_X5_switched
theorem k_X5_97 {d : Nat} (h : 1 < d) : ez_CallOK LX RX5 d (97, 0, 1, sp_X5_isDate) := ez_callS (y := yX5_isDate) (bytes := cX5_isDate) so_X5_isDate h (by decide) q_282 q_72 ⟨by decide +kernel, by decide +kernel, by decide +kernel⟩ (Or.inl q_280) q_281
theorem k_X5_100 {d : Nat} (h : 1 < d) : ez_CallOK LX RX5 d (100, 0, 1, sp_X5_isYear) := ez_callS (y := yX5_isYear) (bytes := cX5_isYear) so_X5_isYear h (by decide) q_285 q_72 ⟨by decide +kernel, by decide +kernel, by decide +kernel⟩ (Or.inl q_283) q_284
def sp_X5_day : ez_Sp := fun as M Q => match as with | [.inr (.inr q), .inl d, .inl y] => q = 0 ∧ ff_Inv (ff_X M) ∧ (∀ M' : ez_M, ff_X M' = ff_X M → Q (some (.inl (op_day (ff_X M) d y))) M') | _ => False
def e_X5_day : ez_E := (fl_X5, co_X5, [(97, 0, 1, sp_X5_isDate), (100, 0, 1, sp_X5_isYear), (103, 4+1, 2, sp_X4_dayOf)], 0, 3)
set_option maxHeartbeats 4000000 in
set_option maxRecDepth 100000 in
theorem b_X5_day : ez_Body LX e_X5_day p_X5_day sp_X5_day := by
  intro as M Q has hM hsp
  unfold sp_X5_day at hsp
  split at hsp
  rotate_left
  · exact hsp.elim
  rename_i q d y
  have g_d : -2147483648 ≤ d ∧ d ≤ 2147483647 := ez_hd (ez_tl (has))
  have g_y : -2147483648 ≤ y ∧ y ≤ 2147483647 := ez_hd (ez_tl (ez_tl (has)))
  obtain ⟨rfl, hI, hsp⟩ := hsp
  have hn := ff_n_X hI
  have hsp := hsp M rfl
  unfold op_day at hsp
  refine ⟨Nat.le_of_ble_eq_true rfl, fun cut hcut hkut => hcut [] 60 0 _ _ _ ?_⟩
  split at hsp <;> (repeat' (first | (intro hh; exfalso; omega) | (refine And.intro (by first | assumption | omega) ?_) | (refine And.intro rfl ?_) | (refine And.intro ?_ ?_) | (intro qq hq1 hq2 hq3; have hq4 := hq2 (by omega) (by omega); subst hq4) | (intro hh) | omega | exact trivial))
  all_goals exact hsp
theorem so_X5_day : ez_Sound LX yX5_day cX5_day 3 (some .int) 3 sp_X5_day := ez_sound (E := e_X5_day) (prog := p_X5_day) LX_ok (by decide +kernel) rfl (fun _ h => h) fo_X5 co_X5_ok (List.forall_mem_cons.mpr ⟨k_X5_97 (by decide), List.forall_mem_cons.mpr ⟨k_X5_100 (by decide), List.forall_mem_cons.mpr ⟨k_X5_103 (by decide), fun _ h => absurd h List.not_mem_nil⟩⟩⟩) dp_X5_day b_X5_day
def sp_X5_feast : ez_Sp := fun as M Q => match as with | [.inr (.inr q), .inl d] => q = 0 ∧ ff_Inv (ff_X M) ∧ (∀ M' : ez_M, ff_X M' = op_feast_s (ff_X M) d → Q (some (.inl (op_feast (ff_X M) d))) M') | _ => False
def e_X5_feast : ez_E := (fl_X5, co_X5, [(97, 0, 1, sp_X5_isDate)], 0, 3)
set_option maxHeartbeats 4000000 in
set_option maxRecDepth 100000 in
theorem b_X5_feast : ez_Body LX e_X5_feast p_X5_feast sp_X5_feast := by
  intro as M Q has hM hsp
  unfold sp_X5_feast at hsp
  split at hsp
  rotate_left
  · exact hsp.elim
  rename_i q d
  have g_d : -2147483648 ≤ d ∧ d ≤ 2147483647 := ez_hd (ez_tl (has))
  obtain ⟨rfl, hI, hsp⟩ := hsp
  have hn := ff_n_X hI
  unfold op_feast op_feast_s at hsp
  refine ⟨Nat.le_of_ble_eq_true rfl, fun cut hcut hkut => hcut [] 60 0 _ _ _ ?_⟩
  by_cases h1 : 0 ≤ d ∧ d ≤ 363
  · rw [if_pos h1, if_pos h1] at hsp
    have hsp := hsp _ (ff_X_fe M _)
    repeat' (first | (intro hh; exfalso; omega) | (refine And.intro (by first | assumption | omega) ?_) | (refine And.intro rfl ?_) | (refine And.intro ?_ ?_) | (intro qq hq1 hq2 hq3; have hq4 := hq2 (by omega) (by omega); subst hq4) | (intro hh) | omega | exact trivial)
    all_goals exact hsp
  · rw [if_neg h1, if_neg h1] at hsp
    have hsp := hsp M rfl
    repeat' (first | (intro hh; exfalso; omega) | (refine And.intro (by first | assumption | omega) ?_) | (refine And.intro rfl ?_) | (refine And.intro ?_ ?_) | (intro qq hq1 hq2 hq3; have hq4 := hq2 (by omega) (by omega); subst hq4) | (intro hh) | omega | exact trivial)
    all_goals exact hsp
theorem so_X5_feast : ez_Sound LX yX5_feast cX5_feast 3 (some .int) 2 sp_X5_feast := ez_sound (E := e_X5_feast) (prog := p_X5_feast) LX_ok (by decide +kernel) rfl (fun _ h => h) fo_X5 co_X5_ok (List.forall_mem_cons.mpr ⟨k_X5_97 (by decide), fun _ h => absurd h List.not_mem_nil⟩) dp_X5_feast b_X5_feast
theorem k_X5_106 {d : Nat} (h : 0 < d) : ez_CallOK LX RX5 d (106, 0+1, 0, sp_X0_room) := ez_callV (y := yX0_room) (bytes := cX0_room) so_X0_room h (by decide) q_302 q_74 ⟨by decide +kernel, by decide +kernel, by decide +kernel⟩ (Or.inr ⟨"EastNearly", q_299⟩) q_301 q_3 (T := TX0) (N := 5) rfl
theorem k_X5_110 {d : Nat} (h : 1 < d) : ez_CallOK LX RX5 d (110, 0+1, 2, sp_X0_append) := ez_callV (y := yX0_append) (bytes := cX0_append) so_X0_append h (by decide) q_306 q_74 ⟨by decide +kernel, by decide +kernel, by decide +kernel⟩ (Or.inr ⟨"EastNearly", q_303⟩) q_305 q_4 (T := TX0) (N := 5) rfl
def sp_X5_write : ez_Sp := fun as M Q => match as with | [.inr (.inr q), .inl n, .inr (.inl v)] => q = 0 ∧ ff_Inv (ff_X M) ∧ (∀ M' : ez_M, ff_X M' = op_write_s (ff_X M) n v → Q (some (.inl (op_write (ff_X M) n v))) M') | _ => False
def e_X5_write : ez_E := (fl_X5, co_X5, [(83, 0, 3, sp_X5_within), (106, 0+1, 0, sp_X0_room), (110, 0+1, 2, sp_X0_append)], 0, 4)
set_option maxHeartbeats 4000000 in
set_option maxRecDepth 100000 in
theorem b_X5_write : ez_Body LX e_X5_write p_X5_write sp_X5_write := by
  intro as M Q has hM hsp
  unfold sp_X5_write at hsp
  split at hsp
  rotate_left
  · exact hsp.elim
  rename_i q n v
  have g_n : -2147483648 ≤ n ∧ n ≤ 2147483647 := ez_hd (ez_tl (has))
  have g_v : -9223372036854775808 ≤ v ∧ v ≤ 9223372036854775807 := ez_hd (ez_tl (ez_tl (has)))
  obtain ⟨rfl, hI, hsp⟩ := hsp
  have hn := ff_n_X hI
  have hl : 0 ≤ M 3 3 ∧ M 3 3 ≤ 48 := hI.2.1.2.2.1
  have hsp : ∀ M' : ez_M, ff_X M' = (if (1 ≤ n ∧ n ≤ 8) ∧ M 3 3 + n ≤ 48 then ff_appS v n.toNat (ff_X M) else ff_X M) → Q (some (.inl (if 1 ≤ n ∧ n ≤ 8 then (if M 3 3 + n ≤ 48 then M 3 3 + n else -4) else -2))) M' := hsp
  refine ⟨Nat.le_of_ble_eq_true rfl, fun cut hcut hkut => hcut [] 60 0 _ _ _ ?_⟩
  by_cases h1 : 1 ≤ n ∧ n ≤ 8
  · by_cases h2 : M 3 3 + n ≤ 48
    · rw [if_pos ⟨h1, h2⟩, if_pos h1, if_pos h2] at hsp
      have hsp := hsp _ (ff_X_app v n.toNat M)
      have hlen := ff_app_len v n.toNat M
      repeat' (first | (intro hh; exfalso; omega) | (refine And.intro (by first | assumption | omega) ?_) | (refine And.intro rfl ?_) | (refine And.intro ?_ ?_) | (intro qq hq1 hq2 hq3; have hq4 := hq2 (by omega) (by omega); subst hq4) | (intro hh) | omega | exact trivial)
      all_goals exact ez_ret hsp (by omega)
    · rw [if_neg (fun z => h2 z.2), if_pos h1, if_neg h2] at hsp
      have hsp := hsp M rfl
      repeat' (first | (intro hh; exfalso; omega) | (refine And.intro (by first | assumption | omega) ?_) | (refine And.intro rfl ?_) | (refine And.intro ?_ ?_) | (intro qq hq1 hq2 hq3; have hq4 := hq2 (by omega) (by omega); subst hq4) | (intro hh) | omega | exact trivial)
      all_goals exact hsp
  · rw [if_neg (fun z => h1 z.1), if_neg h1] at hsp
    have hsp := hsp M rfl
    repeat' (first | (intro hh; exfalso; omega) | (refine And.intro (by first | assumption | omega) ?_) | (refine And.intro rfl ?_) | (refine And.intro ?_ ?_) | (intro qq hq1 hq2 hq3; have hq4 := hq2 (by omega) (by omega); subst hq4) | (intro hh) | omega | exact trivial)
    all_goals exact hsp
theorem so_X5_write : ez_Sound LX yX5_write cX5_write 4 (some .int) 2 sp_X5_write := ez_sound (E := e_X5_write) (prog := p_X5_write) LX_ok (by decide +kernel) rfl (fun _ h => h) fo_X5 co_X5_ok (List.forall_mem_cons.mpr ⟨k_X5_83 (by decide), List.forall_mem_cons.mpr ⟨k_X5_106 (by decide), List.forall_mem_cons.mpr ⟨k_X5_110 (by decide), fun _ h => absurd h List.not_mem_nil⟩⟩⟩) dp_X5_write b_X5_write
theorem k_X5_114 {d : Nat} (h : 0 < d) : ez_CallOK LX RX5 d (114, 0+1, 0, sp_X0_clearText) := ez_callV (y := yX0_clearText) (bytes := cX0_clearText) so_X0_clearText h (by decide) q_315 q_74 ⟨by decide +kernel, by decide +kernel, by decide +kernel⟩ (Or.inr ⟨"EastNearly", q_312⟩) q_314 q_5 (T := TX0) (N := 5) rfl
def sp_X5_wipe : ez_Sp := fun as M Q => match as with | [.inr (.inr q)] => q = 0 ∧ ff_Inv (ff_X M) ∧ (∀ M' : ez_M, ff_X M' = op_wipe_s (ff_X M) → Q (some (.inl (op_wipe (ff_X M)))) M') | _ => False
def e_X5_wipe : ez_E := (fl_X5, co_X5, [(114, 0+1, 0, sp_X0_clearText)], 0, 1)
set_option maxHeartbeats 4000000 in
set_option maxRecDepth 100000 in
theorem b_X5_wipe : ez_Body LX e_X5_wipe p_X5_wipe sp_X5_wipe := by
  intro as M Q has hM hsp
  unfold sp_X5_wipe at hsp
  split at hsp
  rotate_left
  · exact hsp.elim
  rename_i q
  obtain ⟨rfl, hI, hsp⟩ := hsp
  have hn := ff_n_X hI
  have hsp := hsp _ (ff_X_len M 0)
  refine ⟨Nat.le_of_ble_eq_true rfl, fun cut hcut hkut => hcut [] 60 0 _ _ _ ?_⟩
  repeat' (first | (intro hh; exfalso; omega) | (refine And.intro (by first | assumption | omega) ?_) | (refine And.intro rfl ?_) | (refine And.intro ?_ ?_) | (intro qq hq1 hq2 hq3; have hq4 := hq2 (by omega) (by omega); subst hq4) | (intro hh) | omega | exact trivial)
  all_goals exact hsp
theorem so_X5_wipe : ez_Sound LX yX5_wipe cX5_wipe 1 (some .int) 1 sp_X5_wipe := ez_sound (E := e_X5_wipe) (prog := p_X5_wipe) LX_ok (by decide +kernel) rfl (fun _ h => h) fo_X5 co_X5_ok (List.forall_mem_cons.mpr ⟨k_X5_114 (by decide), fun _ h => absurd h List.not_mem_nil⟩) dp_X5_wipe b_X5_wipe
theorem k_X5_117 {d : Nat} (h : 4 < d) : ez_CallOK LX RX5 d (117, 0+1, 0, sp_X0_firstFault) := ez_callV (y := yX0_firstFault) (bytes := cX0_firstFault) so_X0_firstFault h (by decide) q_323 q_74 ⟨by decide +kernel, by decide +kernel, by decide +kernel⟩ (Or.inr ⟨"EastNearly", q_320⟩) q_322 q_6 (T := TX0) (N := 5) rfl
def sp_X5_fault : ez_Sp := fun as M Q => match as with | [.inr (.inr q)] => q = 0 ∧ ff_Inv (ff_X M) ∧ (∀ M' : ez_M, ff_X M' = ff_X M → Q (some (.inl (op_fault (ff_X M)))) M') | _ => False
def e_X5_fault : ez_E := (fl_X5, co_X5, [(117, 0+1, 0, sp_X0_firstFault)], 0, 1)
set_option maxHeartbeats 4000000 in
set_option maxRecDepth 100000 in
theorem b_X5_fault : ez_Body LX e_X5_fault p_X5_fault sp_X5_fault := by
  intro as M Q has hM hsp
  unfold sp_X5_fault at hsp
  split at hsp
  rotate_left
  · exact hsp.elim
  rename_i q
  obtain ⟨rfl, hI, hsp⟩ := hsp
  have hn := ff_n_X hI
  have hsp := hsp M rfl
  have hl : 0 ≤ M 3 3 ∧ M 3 3 ≤ 48 := hI.2.1.2.2.1
  have hT : ∀ j, 0 ≤ M 4 j ∧ M 4 j ≤ 255 := hI.2.2.1
  refine ⟨Nat.le_of_ble_eq_true rfl, fun cut hcut hkut => hcut [] 60 0 _ _ _ ?_⟩
  repeat' (first | (intro hh; exfalso; omega) | (refine And.intro (by first | assumption | omega) ?_) | (refine And.intro rfl ?_) | (refine And.intro ?_ ?_) | (intro qq hq1 hq2 hq3; have hq4 := hq2 (by omega) (by omega); subst hq4) | (intro hh) | omega | exact trivial)
  all_goals exact hsp
theorem so_X5_fault : ez_Sound LX yX5_fault cX5_fault 1 (some .int) 5 sp_X5_fault := ez_sound (E := e_X5_fault) (prog := p_X5_fault) LX_ok (by decide +kernel) rfl (fun _ h => h) fo_X5 co_X5_ok (List.forall_mem_cons.mpr ⟨k_X5_117 (by decide), fun _ h => absurd h List.not_mem_nil⟩) dp_X5_fault b_X5_fault
theorem k_X5_120 {d : Nat} (h : 2 < d) : ez_CallOK LX RX5 d (120, 0+1, 0, sp_X0_readText) := ez_callV (y := yX0_readText) (bytes := cX0_readText) so_X0_readText h (by decide) q_347 q_74 ⟨by decide +kernel, by decide +kernel, by decide +kernel⟩ (Or.inr ⟨"EastNearly", q_344⟩) q_346 q_10 (T := TX0) (N := 5) rfl
def sp_X5_book : ez_Sp := fun as M Q => match as with | [.inr (.inr q)] => q = 0 ∧ ff_Inv (ff_X M) ∧ (∀ M' : ez_M, ff_X M' = op_book_s (ff_X M) → Q (some (.inl (op_book (ff_X M)))) M') | _ => False
def e_X5_book : ez_E := (fl_X5, co_X5, [(117, 0+1, 0, sp_X0_firstFault), (120, 0+1, 0, sp_X0_readText)], 0, 1)
set_option maxHeartbeats 4000000 in
set_option maxRecDepth 100000 in
theorem b_X5_book : ez_Body LX e_X5_book p_X5_book sp_X5_book := by
  intro as M Q has hM hsp
  unfold sp_X5_book at hsp
  split at hsp
  rotate_left
  · exact hsp.elim
  rename_i q
  obtain ⟨rfl, hI, hsp⟩ := hsp
  have hn := ff_n_X hI
  have hl : 0 ≤ M 3 3 ∧ M 3 3 ≤ 48 := hI.2.1.2.2.1
  have hT : ∀ j, 0 ≤ M 4 j ∧ M 4 j ≤ 255 := hI.2.2.1
  have hsp : ∀ M' : ez_M, ff_X M' = (if ff_fault (M 4) (M 3 3) = -9 then ff_rdS (ff_X M) ((M 3 3 + 1) / 7) else ff_X M) → Q (some (.inl (if ff_fault (M 4) (M 3 3) = -9 then (M 3 3 + 1) / 7 else -3))) M' := hsp
  refine ⟨Nat.le_of_ble_eq_true rfl, fun cut hcut hkut => hcut [] 60 0 _ _ _ ?_⟩
  by_cases h1 : ff_fault (M 4) (M 3 3) = -9
  · rw [if_pos h1, if_pos h1] at hsp
    have hsp := hsp _ (ff_X_rd M ((M 3 3 + 1) / 7) (by omega))
    repeat' (first | (intro hh; exfalso; omega) | (refine And.intro (by first | assumption | omega) ?_) | (refine And.intro rfl ?_) | (refine And.intro ?_ ?_) | (intro qq hq1 hq2 hq3; have hq4 := hq2 (by omega) (by omega); subst hq4) | (intro hh) | omega | exact trivial)
    all_goals exact hsp
  · rw [if_neg h1, if_neg h1] at hsp
    have hsp := hsp M rfl
    repeat' (first | (intro hh; exfalso; omega) | (refine And.intro (by first | assumption | omega) ?_) | (refine And.intro rfl ?_) | (refine And.intro ?_ ?_) | (intro qq hq1 hq2 hq3; have hq4 := hq2 (by omega) (by omega); subst hq4) | (intro hh) | omega | exact trivial)
    all_goals exact hsp
theorem so_X5_book : ez_Sound LX yX5_book cX5_book 1 (some .int) 5 sp_X5_book := ez_sound (E := e_X5_book) (prog := p_X5_book) LX_ok (by decide +kernel) rfl (fun _ h => h) fo_X5 co_X5_ok (List.forall_mem_cons.mpr ⟨k_X5_117 (by decide), List.forall_mem_cons.mpr ⟨k_X5_120 (by decide), fun _ h => absurd h List.not_mem_nil⟩⟩) dp_X5_book b_X5_book
def sp_X5_needle : ez_Sp := fun as M Q => match as with | [.inr (.inr q), .inl y] => q = 0 ∧ ff_Inv (ff_X M) ∧ (∀ M' : ez_M, ff_X M' = ff_X M → Q (some (.inl (op_needle (ff_X M) y))) M') | _ => False
def e_X5_needle : ez_E := (fl_X5, co_X5, [(100, 0, 1, sp_X5_isYear), (123, 0+1, 1, sp_X0_needleIn)], 0, 2)
set_option maxHeartbeats 4000000 in
set_option maxRecDepth 100000 in
theorem b_X5_needle : ez_Body LX e_X5_needle p_X5_needle sp_X5_needle := by
  intro as M Q has hM hsp
  unfold sp_X5_needle at hsp
  split at hsp
  rotate_left
  · exact hsp.elim
  rename_i q y
  have g_y : -2147483648 ≤ y ∧ y ≤ 2147483647 := ez_hd (ez_tl (has))
  obtain ⟨rfl, hI, hsp⟩ := hsp
  have hn := ff_n_X hI
  have hsp := hsp M rfl
  have hb := ff_bk_X hI
  have hsp : Q (some (.inl (if 0 ≤ y ∧ y ≤ 599 then ff_nd (M 3 4) (M 5) (M 6) y + 100 else -1))) M := by
    rw [← ff_nd_X M hb.1.1 y]
    exact hsp
  refine ⟨Nat.le_of_ble_eq_true rfl, fun cut hcut hkut => hcut [] 60 0 _ _ _ ?_⟩
  split at hsp
  · rename_i h1
    have hnd := ff_nd_r hb h1.1 h1.2
    repeat' (first | (intro hh; exfalso; omega) | (refine And.intro (by first | assumption | omega) ?_) | (refine And.intro rfl ?_) | (refine And.intro ?_ ?_) | (intro qq hq1 hq2 hq3; have hq4 := hq2 (by omega) (by omega); subst hq4) | (intro hh) | omega | exact trivial)
    all_goals exact hsp
  · (repeat' (first | (intro hh; exfalso; omega) | (refine And.intro (by first | assumption | omega) ?_) | (refine And.intro rfl ?_) | (refine And.intro ?_ ?_) | (intro qq hq1 hq2 hq3; have hq4 := hq2 (by omega) (by omega); subst hq4) | (intro hh) | omega | exact trivial))
    all_goals exact hsp
theorem so_X5_needle : ez_Sound LX yX5_needle cX5_needle 2 (some .int) 2 sp_X5_needle := ez_sound (E := e_X5_needle) (prog := p_X5_needle) LX_ok (by decide +kernel) rfl (fun _ h => h) fo_X5 co_X5_ok (List.forall_mem_cons.mpr ⟨k_X5_100 (by decide), List.forall_mem_cons.mpr ⟨k_X5_123 (by decide), fun _ h => absurd h List.not_mem_nil⟩⟩) dp_X5_needle b_X5_needle
theorem k_X5_129 {d : Nat} (h : 3 < d) : ez_CallOK LX RX5 d (129, 1+1, 5, sp_X1_add) := ez_callV (y := yX1_add) (bytes := cX1_add) so_X1_add h (by decide) q_363 q_75 ⟨by decide +kernel, by decide +kernel, by decide +kernel⟩ (Or.inr ⟨"EastNearly", q_360⟩) q_362 q_12 (T := TX1) (N := 3) rfl
def sp_X5_church : ez_Sp := fun as M Q => match as with | [.inr (.inr q), .inl l, .inl li, .inl s, .inl f, .inl t] => q = 0 ∧ ff_Inv (ff_X M) ∧ (∀ M' : ez_M, ff_X M' = op_church_s (ff_X M) l li s f t → Q (some (.inl (op_church (ff_X M) l li s f t))) M') | _ => False
def e_X5_church : ez_E := (fl_X5, co_X5, [(80, 0, 1, sp_X5_isLand), (65, 0, 1, sp_X5_isDegree), (100, 0, 1, sp_X5_isYear), (83, 0, 3, sp_X5_within), (129, 1+1, 5, sp_X1_add)], 0, 6)
set_option maxHeartbeats 4000000 in
set_option maxRecDepth 100000 in
theorem b_X5_church : ez_Body LX e_X5_church p_X5_church sp_X5_church := by
  intro as M Q has hM hsp
  unfold sp_X5_church at hsp
  split at hsp
  rotate_left
  · exact hsp.elim
  rename_i q l li s f t
  have g_l : -2147483648 ≤ l ∧ l ≤ 2147483647 := ez_hd (ez_tl (has))
  have g_li : -2147483648 ≤ li ∧ li ≤ 2147483647 := ez_hd (ez_tl (ez_tl (has)))
  have g_s : -2147483648 ≤ s ∧ s ≤ 2147483647 := ez_hd (ez_tl (ez_tl (ez_tl (has))))
  have g_f : -2147483648 ≤ f ∧ f ≤ 2147483647 := ez_hd (ez_tl (ez_tl (ez_tl (ez_tl (has)))))
  have g_t : -2147483648 ≤ t ∧ t ≤ 2147483647 := ez_hd (ez_tl (ez_tl (ez_tl (ez_tl (ez_tl (has))))))
  obtain ⟨rfl, hI, hsp⟩ := hsp
  have hn := ff_n_X hI
  have hx := ff_X_add M l li s f t
  unfold op_church op_church_s at hsp
  refine ⟨Nat.le_of_ble_eq_true rfl, fun cut hcut hkut => hcut [] 80 0 _ _ _ ?_⟩
  by_cases h1 : ((0 ≤ l ∧ l ≤ 3) ∧ (0 ≤ li ∧ li ≤ 359)) ∧ (0 ≤ f ∧ f ≤ 599) ∧ (0 ≤ t ∧ t ≤ 599)
  · by_cases h2 : (0 ≤ s ∧ s ≤ 9) ∧ (0 ≤ t - f ∧ t - f ≤ 60)
    · by_cases h3 : ff_X M 1 4 < 10
      · have h3m : M 7 1 < 10 := h3
        rw [if_pos ⟨h1, h2, h3⟩, if_pos h1, if_pos h2, if_pos h3] at hsp
        have hsp := hsp _ hx
        repeat' (first | (intro hh; exfalso; omega) | (refine And.intro (by first | assumption | omega) ?_) | (refine And.intro rfl ?_) | (refine And.intro ?_ ?_) | (intro qq hq1 hq2 hq3; have hq4 := hq2 (by omega) (by omega); subst hq4) | (intro hh) | omega | exact trivial)
        all_goals exact hsp
      · have h3m : ¬ (M 7 1 < 10) := h3
        rw [if_neg (fun z => h3 z.2.2), if_pos h1, if_pos h2, if_neg h3] at hsp
        have hsp := hsp M rfl
        repeat' (first | (intro hh; exfalso; omega) | (refine And.intro (by first | assumption | omega) ?_) | (refine And.intro rfl ?_) | (refine And.intro ?_ ?_) | (intro qq hq1 hq2 hq3; have hq4 := hq2 (by omega) (by omega); subst hq4) | (intro hh) | omega | exact trivial)
        all_goals exact hsp
    · rw [if_neg (fun z => h2 z.2.1), if_pos h1, if_neg h2] at hsp
      have hsp := hsp M rfl
      repeat' (first | (intro hh; exfalso; omega) | (refine And.intro (by first | assumption | omega) ?_) | (refine And.intro rfl ?_) | (refine And.intro ?_ ?_) | (intro qq hq1 hq2 hq3; have hq4 := hq2 (by omega) (by omega); subst hq4) | (intro hh) | omega | exact trivial)
      all_goals exact hsp
  · rw [if_neg (fun z => h1 z.1), if_neg h1] at hsp
    have hsp := hsp M rfl
    repeat' (first | (intro hh; exfalso; omega) | (refine And.intro (by first | assumption | omega) ?_) | (refine And.intro rfl ?_) | (refine And.intro ?_ ?_) | (intro qq hq1 hq2 hq3; have hq4 := hq2 (by omega) (by omega); subst hq4) | (intro hh) | omega | exact trivial)
    all_goals exact hsp
theorem so_X5_church : ez_Sound LX yX5_church cX5_church 6 (some .int) 4 sp_X5_church := ez_sound (E := e_X5_church) (prog := p_X5_church) LX_ok (by decide +kernel) rfl (fun _ h => h) fo_X5 co_X5_ok (List.forall_mem_cons.mpr ⟨k_X5_80 (by decide), List.forall_mem_cons.mpr ⟨k_X5_65 (by decide), List.forall_mem_cons.mpr ⟨k_X5_100 (by decide), List.forall_mem_cons.mpr ⟨k_X5_83 (by decide), List.forall_mem_cons.mpr ⟨k_X5_129 (by decide), fun _ h => absurd h List.not_mem_nil⟩⟩⟩⟩⟩) dp_X5_church b_X5_church
theorem k_X5_133 {d : Nat} (h : 0 < d) : ez_CallOK LX RX5 d (133, 1+1, 1, sp_X1_has) := ez_callV (y := yX1_has) (bytes := cX1_has) so_X1_has h (by decide) q_381 q_75 ⟨by decide +kernel, by decide +kernel, by decide +kernel⟩ (Or.inr ⟨"EastNearly", q_378⟩) q_380 q_15 (T := TX1) (N := 3) rfl
theorem k_X5_136 {d : Nat} (h : 2 < d) : ez_CallOK LX RX5 d (136, 1+1, 3, sp_X1_change) := ez_callV (y := yX1_change) (bytes := cX1_change) so_X1_change h (by decide) q_367 q_75 ⟨by decide +kernel, by decide +kernel, by decide +kernel⟩ (Or.inr ⟨"EastNearly", q_382⟩) q_366 q_13 (T := TX1) (N := 3) rfl
def sp_X5_tell : ez_Sp := fun as M Q => match as with | [.inr (.inr q), .inl c, .inl w, .inl v] => q = 0 ∧ ff_Inv (ff_X M) ∧ (∀ M' : ez_M, ff_X M' = op_tell_s (ff_X M) c w v → Q (some (.inl (op_tell (ff_X M) c w v))) M') | _ => False
def e_X5_tell : ez_E := (fl_X5, co_X5, [(133, 1+1, 1, sp_X1_has), (83, 0, 3, sp_X5_within), (97, 0, 1, sp_X5_isDate), (65, 0, 1, sp_X5_isDegree), (136, 1+1, 3, sp_X1_change)], 0, 6)
set_option maxHeartbeats 4000000 in
set_option maxRecDepth 100000 in
theorem b_X5_tell : ez_Body LX e_X5_tell p_X5_tell sp_X5_tell := by
  intro as M Q has hM hsp
  unfold sp_X5_tell at hsp
  split at hsp
  rotate_left
  · exact hsp.elim
  rename_i q c w v
  have g_c : -2147483648 ≤ c ∧ c ≤ 2147483647 := ez_hd (ez_tl (has))
  have g_w : -2147483648 ≤ w ∧ w ≤ 2147483647 := ez_hd (ez_tl (ez_tl (has)))
  have g_v : -2147483648 ≤ v ∧ v ≤ 2147483647 := ez_hd (ez_tl (ez_tl (ez_tl (has))))
  obtain ⟨rfl, hI, hsp⟩ := hsp
  have hn := ff_n_X hI
  have hx := ff_X_told M (11 * c + (5 + w)).toNat v
  unfold op_tell op_tell_s at hsp
  refine ⟨Nat.le_of_ble_eq_true rfl, fun cut hcut hkut => hcut [] 80 0 _ _ _ ?_⟩
  by_cases h1 : 0 ≤ c ∧ c < ff_X M 1 4
  · have h1m : 0 ≤ c ∧ c < M 7 1 := h1
    by_cases h2 : (0 ≤ w ∧ w ≤ 2) ∧ (v = -9 ∨ (0 ≤ v ∧ v ≤ (if w = 0 then 363 else 359)))
    · rw [if_pos ⟨h1, h2⟩, if_pos h1, if_pos h2] at hsp
      have hsp := hsp _ hx
      split at h2
      · (repeat' (first | (intro hh; exfalso; omega) | (refine And.intro (by first | assumption | omega) ?_) | (refine And.intro rfl ?_) | (refine And.intro ?_ ?_) | (intro qq hq1 hq2 hq3; have hq4 := hq2 (by omega) (by omega); subst hq4) | (intro hh) | omega | exact trivial))
        all_goals exact hsp
      · (repeat' (first | (intro hh; exfalso; omega) | (refine And.intro (by first | assumption | omega) ?_) | (refine And.intro rfl ?_) | (refine And.intro ?_ ?_) | (intro qq hq1 hq2 hq3; have hq4 := hq2 (by omega) (by omega); subst hq4) | (intro hh) | omega | exact trivial))
        all_goals exact hsp
    · rw [if_neg (fun z => h2 z.2), if_pos h1, if_neg h2] at hsp
      have hsp := hsp M rfl
      split at h2
      · (repeat' (first | (intro hh; exfalso; omega) | (refine And.intro (by first | assumption | omega) ?_) | (refine And.intro rfl ?_) | (refine And.intro ?_ ?_) | (intro qq hq1 hq2 hq3; have hq4 := hq2 (by omega) (by omega); subst hq4) | (intro hh) | omega | exact trivial))
        all_goals exact hsp
      · (repeat' (first | (intro hh; exfalso; omega) | (refine And.intro (by first | assumption | omega) ?_) | (refine And.intro rfl ?_) | (refine And.intro ?_ ?_) | (intro qq hq1 hq2 hq3; have hq4 := hq2 (by omega) (by omega); subst hq4) | (intro hh) | omega | exact trivial))
        all_goals exact hsp
  · have h1m : ¬ (0 ≤ c ∧ c < M 7 1) := h1
    rw [if_neg (fun z => h1 z.1), if_neg h1] at hsp
    have hsp := hsp M rfl
    repeat' (first | (intro hh; exfalso; omega) | (refine And.intro (by first | assumption | omega) ?_) | (refine And.intro rfl ?_) | (refine And.intro ?_ ?_) | (intro qq hq1 hq2 hq3; have hq4 := hq2 (by omega) (by omega); subst hq4) | (intro hh) | omega | exact trivial)
    all_goals exact hsp
theorem so_X5_tell : ez_Sound LX yX5_tell cX5_tell 6 (some .int) 3 sp_X5_tell := ez_sound (E := e_X5_tell) (prog := p_X5_tell) LX_ok (by decide +kernel) rfl (fun _ h => h) fo_X5 co_X5_ok (List.forall_mem_cons.mpr ⟨k_X5_133 (by decide), List.forall_mem_cons.mpr ⟨k_X5_83 (by decide), List.forall_mem_cons.mpr ⟨k_X5_97 (by decide), List.forall_mem_cons.mpr ⟨k_X5_65 (by decide), List.forall_mem_cons.mpr ⟨k_X5_136 (by decide), fun _ h => absurd h List.not_mem_nil⟩⟩⟩⟩⟩) dp_X5_tell b_X5_tell
def sp_X5_about : ez_Sp := fun as M Q => match as with | [.inr (.inr q), .inl c, .inl w] => q = 0 ∧ ff_Inv (ff_X M) ∧ (∀ M' : ez_M, ff_X M' = ff_X M → Q (some (.inl (op_about (ff_X M) c w))) M') | _ => False
def e_X5_about : ez_E := (fl_X5, co_X5, [(133, 1+1, 1, sp_X1_has), (83, 0, 3, sp_X5_within), (139, 1+1, 2, sp_X1_get)], 0, 3)
set_option maxHeartbeats 4000000 in
set_option maxRecDepth 100000 in
theorem b_X5_about : ez_Body LX e_X5_about p_X5_about sp_X5_about := by
  intro as M Q has hM hsp
  unfold sp_X5_about at hsp
  split at hsp
  rotate_left
  · exact hsp.elim
  rename_i q c w
  have g_c : -2147483648 ≤ c ∧ c ≤ 2147483647 := ez_hd (ez_tl (has))
  have g_w : -2147483648 ≤ w ∧ w ≤ 2147483647 := ez_hd (ez_tl (ez_tl (has)))
  obtain ⟨rfl, hI, hsp⟩ := hsp
  have hn := ff_n_X hI
  have hsp := hsp M rfl
  unfold op_about at hsp
  refine ⟨Nat.le_of_ble_eq_true rfl, fun cut hcut hkut => hcut [] 60 0 _ _ _ ?_⟩
  by_cases h1 : 0 ≤ c ∧ c < ff_X M 1 4
  · have h1m : 0 ≤ c ∧ c < M 7 1 := h1
    rw [if_pos h1] at hsp
    split at hsp <;> (repeat' (first | (intro hh; exfalso; omega) | (refine And.intro (by first | assumption | omega) ?_) | (refine And.intro rfl ?_) | (refine And.intro ?_ ?_) | (intro qq hq1 hq2 hq3; have hq4 := hq2 (by omega) (by omega); subst hq4) | (intro hh) | omega | exact trivial))
    all_goals exact hsp
  · have h1m : ¬ (0 ≤ c ∧ c < M 7 1) := h1
    rw [if_neg h1] at hsp
    repeat' (first | (intro hh; exfalso; omega) | (refine And.intro (by first | assumption | omega) ?_) | (refine And.intro rfl ?_) | (refine And.intro ?_ ?_) | (intro qq hq1 hq2 hq3; have hq4 := hq2 (by omega) (by omega); subst hq4) | (intro hh) | omega | exact trivial)
    all_goals exact hsp
theorem so_X5_about : ez_Sound LX yX5_about cX5_about 3 (some .int) 2 sp_X5_about := ez_sound (E := e_X5_about) (prog := p_X5_about) LX_ok (by decide +kernel) rfl (fun _ h => h) fo_X5 co_X5_ok (List.forall_mem_cons.mpr ⟨k_X5_133 (by decide), List.forall_mem_cons.mpr ⟨k_X5_83 (by decide), List.forall_mem_cons.mpr ⟨k_X5_139 (by decide), fun _ h => absurd h List.not_mem_nil⟩⟩⟩) dp_X5_about b_X5_about
theorem k_X5_142 {d : Nat} (h : 1 < d) : ez_CallOK LX RX5 d (142, 0, 1, sp_X5_isRule) := ez_callS (y := yX5_isRule) (bytes := cX5_isRule) so_X5_isRule h (by decide) q_394 q_72 ⟨by decide +kernel, by decide +kernel, by decide +kernel⟩ (Or.inl q_392) q_393
def sp_X5_line : ez_Sp := fun as M Q => match as with | [.inr (.inr q), .inl r, .inl c, .inl y] => q = 0 ∧ ff_Inv (ff_X M) ∧ (∀ M' : ez_M, ff_X M' = ff_X M → Q (some (.inl (op_line (ff_X M) r c y))) M') | _ => False
def e_X5_line : ez_E := (fl_X5, co_X5, [(142, 0, 1, sp_X5_isRule), (133, 1+1, 1, sp_X1_has), (100, 0, 1, sp_X5_isYear), (145, 5+1, 3, sp_X5_lineBy)], 0, 4)
set_option maxHeartbeats 4000000 in
set_option maxRecDepth 100000 in
theorem b_X5_line : ez_Body LX e_X5_line p_X5_line sp_X5_line := by
  intro as M Q has hM hsp
  unfold sp_X5_line at hsp
  split at hsp
  rotate_left
  · exact hsp.elim
  rename_i q r c y
  have g_r : -2147483648 ≤ r ∧ r ≤ 2147483647 := ez_hd (ez_tl (has))
  have g_c : -2147483648 ≤ c ∧ c ≤ 2147483647 := ez_hd (ez_tl (ez_tl (has)))
  have g_y : -2147483648 ≤ y ∧ y ≤ 2147483647 := ez_hd (ez_tl (ez_tl (ez_tl (has))))
  obtain ⟨rfl, hI, hsp⟩ := hsp
  have hn := ff_n_X hI
  have hsp := hsp M rfl
  unfold op_line at hsp
  refine ⟨Nat.le_of_ble_eq_true rfl, fun cut hcut hkut => hcut [] 60 0 _ _ _ ?_⟩
  by_cases h1 : (0 ≤ r ∧ r ≤ 5) ∧ (0 ≤ c ∧ c < ff_X M 1 4) ∧ (0 ≤ y ∧ y ≤ 599)
  · have h1m : (0 ≤ r ∧ r ≤ 5) ∧ (0 ≤ c ∧ c < M 7 1) ∧ (0 ≤ y ∧ y ≤ 599) := h1
    rw [if_pos h1] at hsp
    repeat' (first | (intro hh; exfalso; omega) | (refine And.intro (by first | assumption | omega) ?_) | (refine And.intro rfl ?_) | (refine And.intro ?_ ?_) | (intro qq hq1 hq2 hq3; have hq4 := hq2 (by omega) (by omega); subst hq4) | (intro hh) | omega | exact trivial)
    all_goals exact hsp
  · have h1m : ¬ ((0 ≤ r ∧ r ≤ 5) ∧ (0 ≤ c ∧ c < M 7 1) ∧ (0 ≤ y ∧ y ≤ 599)) := h1
    rw [if_neg h1] at hsp
    repeat' (first | (intro hh; exfalso; omega) | (refine And.intro (by first | assumption | omega) ?_) | (refine And.intro rfl ?_) | (refine And.intro ?_ ?_) | (intro qq hq1 hq2 hq3; have hq4 := hq2 (by omega) (by omega); subst hq4) | (intro hh) | omega | exact trivial)
    all_goals exact hsp
theorem so_X5_line : ez_Sound LX yX5_line cX5_line 4 (some .int) 4 sp_X5_line := ez_sound (E := e_X5_line) (prog := p_X5_line) LX_ok (by decide +kernel) rfl (fun _ h => h) fo_X5 co_X5_ok (List.forall_mem_cons.mpr ⟨k_X5_142 (by decide), List.forall_mem_cons.mpr ⟨k_X5_133 (by decide), List.forall_mem_cons.mpr ⟨k_X5_100 (by decide), List.forall_mem_cons.mpr ⟨k_X5_145 (by decide), fun _ h => absurd h List.not_mem_nil⟩⟩⟩⟩) dp_X5_line b_X5_line
def sp_X5_hits : ez_Sp := fun as M Q => match as with | [.inr (.inr q), .inl r, .inl c] => q = 0 ∧ ff_Inv (ff_X M) ∧ (∀ M' : ez_M, ff_X M' = ff_X M → Q (some (.inl (op_hits (ff_X M) r c))) M') | _ => False
def e_X5_hits : ez_E := (fl_X5, co_X5, [(142, 0, 1, sp_X5_isRule), (133, 1+1, 1, sp_X1_has), (148, 5+1, 2, sp_X5_countHits)], 0, 3)
set_option maxHeartbeats 4000000 in
set_option maxRecDepth 100000 in
theorem b_X5_hits : ez_Body LX e_X5_hits p_X5_hits sp_X5_hits := by
  intro as M Q has hM hsp
  unfold sp_X5_hits at hsp
  split at hsp
  rotate_left
  · exact hsp.elim
  rename_i q r c
  have g_r : -2147483648 ≤ r ∧ r ≤ 2147483647 := ez_hd (ez_tl (has))
  have g_c : -2147483648 ≤ c ∧ c ≤ 2147483647 := ez_hd (ez_tl (ez_tl (has)))
  obtain ⟨rfl, hI, hsp⟩ := hsp
  have hn := ff_n_X hI
  have hsp := hsp M rfl
  unfold op_hits at hsp
  refine ⟨Nat.le_of_ble_eq_true rfl, fun cut hcut hkut => hcut [] 60 0 _ _ _ ?_⟩
  by_cases h1 : (0 ≤ r ∧ r ≤ 5) ∧ (0 ≤ c ∧ c < ff_X M 1 4)
  · have h1m : (0 ≤ r ∧ r ≤ 5) ∧ (0 ≤ c ∧ c < M 7 1) := h1
    rw [if_pos h1] at hsp
    repeat' (first | (intro hh; exfalso; omega) | (refine And.intro (by first | assumption | omega) ?_) | (refine And.intro rfl ?_) | (refine And.intro ?_ ?_) | (intro qq hq1 hq2 hq3; have hq4 := hq2 (by omega) (by omega); subst hq4) | (intro hh) | omega | exact trivial)
    all_goals exact hsp
  · have h1m : ¬ ((0 ≤ r ∧ r ≤ 5) ∧ (0 ≤ c ∧ c < M 7 1)) := h1
    rw [if_neg h1] at hsp
    repeat' (first | (intro hh; exfalso; omega) | (refine And.intro (by first | assumption | omega) ?_) | (refine And.intro rfl ?_) | (refine And.intro ?_ ?_) | (intro qq hq1 hq2 hq3; have hq4 := hq2 (by omega) (by omega); subst hq4) | (intro hh) | omega | exact trivial)
    all_goals exact hsp
theorem so_X5_hits : ez_Sound LX yX5_hits cX5_hits 3 (some .int) 6 sp_X5_hits := ez_sound (E := e_X5_hits) (prog := p_X5_hits) LX_ok (by decide +kernel) rfl (fun _ h => h) fo_X5 co_X5_ok (List.forall_mem_cons.mpr ⟨k_X5_142 (by decide), List.forall_mem_cons.mpr ⟨k_X5_133 (by decide), List.forall_mem_cons.mpr ⟨k_X5_148 (by decide), fun _ h => absurd h List.not_mem_nil⟩⟩⟩) dp_X5_hits b_X5_hits
theorem k_X5_154 {d : Nat} (h : 5 < d) : ez_CallOK LX RX5 d (154, 5+1, 1, sp_X5_rulesThatExplain) := ez_callV (y := yX5_rulesThatExplain) (bytes := cX5_rulesThatExplain) so_X5_rulesThatExplain h (by decide) q_425 q_72 ⟨by decide +kernel, by decide +kernel, by decide +kernel⟩ (Or.inl q_422) q_424 q_19 (T := TX5) (N := 10) rfl
def sp_X5_explain : ez_Sp := fun as M Q => match as with | [.inr (.inr q), .inl c] => q = 0 ∧ ff_Inv (ff_X M) ∧ (∀ M' : ez_M, ff_X M' = ff_X M → Q (some (.inl (op_explain (ff_X M) c))) M') | _ => False
def e_X5_explain : ez_E := (fl_X5, co_X5, [(133, 1+1, 1, sp_X1_has), (154, 5+1, 1, sp_X5_rulesThatExplain)], 0, 2)
set_option maxHeartbeats 4000000 in
set_option maxRecDepth 100000 in
theorem b_X5_explain : ez_Body LX e_X5_explain p_X5_explain sp_X5_explain := by
  intro as M Q has hM hsp
  unfold sp_X5_explain at hsp
  split at hsp
  rotate_left
  · exact hsp.elim
  rename_i q c
  have g_c : -2147483648 ≤ c ∧ c ≤ 2147483647 := ez_hd (ez_tl (has))
  obtain ⟨rfl, hI, hsp⟩ := hsp
  have hn := ff_n_X hI
  have hsp := hsp M rfl
  unfold op_explain at hsp
  refine ⟨Nat.le_of_ble_eq_true rfl, fun cut hcut hkut => hcut [] 60 0 _ _ _ ?_⟩
  by_cases h1 : 0 ≤ c ∧ c < ff_X M 1 4
  · have h1m : 0 ≤ c ∧ c < M 7 1 := h1
    rw [if_pos h1] at hsp
    repeat' (first | (intro hh; exfalso; omega) | (refine And.intro (by first | assumption | omega) ?_) | (refine And.intro rfl ?_) | (refine And.intro ?_ ?_) | (intro qq hq1 hq2 hq3; have hq4 := hq2 (by omega) (by omega); subst hq4) | (intro hh) | omega | exact trivial)
    all_goals exact hsp
  · have h1m : ¬ (0 ≤ c ∧ c < M 7 1) := h1
    rw [if_neg h1] at hsp
    repeat' (first | (intro hh; exfalso; omega) | (refine And.intro (by first | assumption | omega) ?_) | (refine And.intro rfl ?_) | (refine And.intro ?_ ?_) | (intro qq hq1 hq2 hq3; have hq4 := hq2 (by omega) (by omega); subst hq4) | (intro hh) | omega | exact trivial)
    all_goals exact hsp
theorem so_X5_explain : ez_Sound LX yX5_explain cX5_explain 2 (some .int) 6 sp_X5_explain := ez_sound (E := e_X5_explain) (prog := p_X5_explain) LX_ok (by decide +kernel) rfl (fun _ h => h) fo_X5 co_X5_ok (List.forall_mem_cons.mpr ⟨k_X5_133 (by decide), List.forall_mem_cons.mpr ⟨k_X5_154 (by decide), fun _ h => absurd h List.not_mem_nil⟩⟩) dp_X5_explain b_X5_explain
theorem k_X5_61 {d : Nat} (h : 0 < d) : ez_CallOK LX RX5 d (61, 0, 3, sp_X5_put) := ez_callS (y := yX5_put) (bytes := cX5_put) so_X5_put h (by decide) q_183 q_72 ⟨by decide +kernel, by decide +kernel, by decide +kernel⟩ (Or.inl q_181) q_182
def sp_X5_weight : ez_Sp := fun as M Q => match as with | [.inr (.inr q), .inl r, .inl v] => q = 0 ∧ ff_Inv (ff_X M) ∧ (∀ M' : ez_M, ff_X M' = op_weight_s (ff_X M) r v → Q (some (.inl (op_weight (ff_X M) r v))) M') | _ => False
def e_X5_weight : ez_E := (fl_X5, co_X5, [(142, 0, 1, sp_X5_isRule), (83, 0, 3, sp_X5_within), (163, 0, 2, sp_X5_at), (61, 0, 3, sp_X5_put)], 0, 4)
set_option maxHeartbeats 4000000 in
set_option maxRecDepth 100000 in
theorem b_X5_weight : ez_Body LX e_X5_weight p_X5_weight sp_X5_weight := by
  intro as M Q has hM hsp
  unfold sp_X5_weight at hsp
  split at hsp
  rotate_left
  · exact hsp.elim
  rename_i q r v
  have g_r : -2147483648 ≤ r ∧ r ≤ 2147483647 := ez_hd (ez_tl (has))
  have g_v : -2147483648 ≤ v ∧ v ≤ 2147483647 := ez_hd (ez_tl (ez_tl (has)))
  obtain ⟨rfl, hI, hsp⟩ := hsp
  have hn := ff_n_X hI
  have hx := ff_X_wt M r.toNat v
  unfold op_weight op_weight_s at hsp
  refine ⟨Nat.le_of_ble_eq_true rfl, fun cut hcut hkut => hcut [] 60 0 _ _ _ ?_⟩
  by_cases h1 : 0 ≤ r ∧ r ≤ 5
  · by_cases h2 : 0 ≤ v ∧ v ≤ 9
    · rw [if_pos ⟨h1, h2⟩, if_pos h1, if_pos h2] at hsp
      have hsp := hsp _ hx
      repeat' (first | (intro hh; exfalso; omega) | (refine And.intro (by first | assumption | omega) ?_) | (refine And.intro rfl ?_) | (refine And.intro ?_ ?_) | (intro qq hq1 hq2 hq3; have hq4 := hq2 (by omega) (by omega); subst hq4) | (intro hh) | omega | exact trivial)
      all_goals exact hsp
    · rw [if_neg (fun z => h2 z.2), if_pos h1, if_neg h2] at hsp
      have hsp := hsp M rfl
      repeat' (first | (intro hh; exfalso; omega) | (refine And.intro (by first | assumption | omega) ?_) | (refine And.intro rfl ?_) | (refine And.intro ?_ ?_) | (intro qq hq1 hq2 hq3; have hq4 := hq2 (by omega) (by omega); subst hq4) | (intro hh) | omega | exact trivial)
      all_goals exact hsp
  · rw [if_neg (fun z => h1 z.1), if_neg h1] at hsp
    have hsp := hsp M rfl
    repeat' (first | (intro hh; exfalso; omega) | (refine And.intro (by first | assumption | omega) ?_) | (refine And.intro rfl ?_) | (refine And.intro ?_ ?_) | (intro qq hq1 hq2 hq3; have hq4 := hq2 (by omega) (by omega); subst hq4) | (intro hh) | omega | exact trivial)
    all_goals exact hsp
theorem so_X5_weight : ez_Sound LX yX5_weight cX5_weight 4 (some .int) 2 sp_X5_weight := ez_sound (E := e_X5_weight) (prog := p_X5_weight) LX_ok (by decide +kernel) rfl (fun _ h => h) fo_X5 co_X5_ok (List.forall_mem_cons.mpr ⟨k_X5_142 (by decide), List.forall_mem_cons.mpr ⟨k_X5_83 (by decide), List.forall_mem_cons.mpr ⟨k_X5_163 (by decide), List.forall_mem_cons.mpr ⟨k_X5_61 (by decide), fun _ h => absurd h List.not_mem_nil⟩⟩⟩⟩) dp_X5_weight b_X5_weight
theorem k_X5_180 {d : Nat} (h : 3 < d) : ez_CallOK LX RX5 d (180, 5+1, 2, sp_X5_isDayOfLine) := ez_callV (y := yX5_isDayOfLine) (bytes := cX5_isDayOfLine) so_X5_isDayOfLine h (by decide) q_484 q_72 ⟨by decide +kernel, by decide +kernel, by decide +kernel⟩ (Or.inl q_481) q_483 q_23 (T := TX5) (N := 10) rfl
def sp_X5_on : ez_Sp := fun as M Q => match as with | [.inr (.inr q), .inl c, .inl d] => q = 0 ∧ ff_Inv (ff_X M) ∧ (∀ M' : ez_M, ff_X M' = ff_X M → Q (some (.inl (op_on (ff_X M) c d))) M') | _ => False
def e_X5_on : ez_E := (fl_X5, co_X5, [(133, 1+1, 1, sp_X1_has), (73, 0, 1, sp_X5_isDay), (180, 5+1, 2, sp_X5_isDayOfLine)], 0, 3)
set_option maxHeartbeats 4000000 in
set_option maxRecDepth 100000 in
theorem b_X5_on : ez_Body LX e_X5_on p_X5_on sp_X5_on := by
  intro as M Q has hM hsp
  unfold sp_X5_on at hsp
  split at hsp
  rotate_left
  · exact hsp.elim
  rename_i q c d
  have g_c : -2147483648 ≤ c ∧ c ≤ 2147483647 := ez_hd (ez_tl (has))
  have g_d : -2147483648 ≤ d ∧ d ≤ 2147483647 := ez_hd (ez_tl (ez_tl (has)))
  obtain ⟨rfl, hI, hsp⟩ := hsp
  have hn := ff_n_X hI
  have hsp := hsp M rfl
  unfold op_on at hsp
  refine ⟨Nat.le_of_ble_eq_true rfl, fun cut hcut hkut => hcut [] 60 0 _ _ _ ?_⟩
  by_cases h1 : (0 ≤ c ∧ c < ff_X M 1 4) ∧ (0 ≤ d ∧ d ≤ 363)
  · have h1m : (0 ≤ c ∧ c < M 7 1) ∧ (0 ≤ d ∧ d ≤ 363) := h1
    rw [if_pos h1] at hsp
    split at hsp
    · rename_i h2
      repeat' (first | (intro hh; exfalso; omega) | (refine And.intro (by first | assumption | omega) ?_) | (refine And.intro rfl ?_) | (refine And.intro ?_ ?_) | (intro qq hq1 hq2 hq3; have hq4 := hq2 (by omega) (by omega); subst hq4) | (intro hh) | omega | exact trivial)
      all_goals first | exact hsp | (rename_i hz; rw [h2] at hz; cases hz; done)
    · rename_i h2
      repeat' (first | (intro hh; exfalso; omega) | (refine And.intro (by first | assumption | omega) ?_) | (refine And.intro rfl ?_) | (refine And.intro ?_ ?_) | (intro qq hq1 hq2 hq3; have hq4 := hq2 (by omega) (by omega); subst hq4) | (intro hh) | omega | exact trivial)
      all_goals first | exact absurd (by assumption) h2 | exact hsp
  · have h1m : ¬ ((0 ≤ c ∧ c < M 7 1) ∧ (0 ≤ d ∧ d ≤ 363)) := h1
    rw [if_neg h1] at hsp
    repeat' (first | (intro hh; exfalso; omega) | (refine And.intro (by first | assumption | omega) ?_) | (refine And.intro rfl ?_) | (refine And.intro ?_ ?_) | (intro qq hq1 hq2 hq3; have hq4 := hq2 (by omega) (by omega); subst hq4) | (intro hh) | omega | exact trivial)
    all_goals exact hsp
theorem so_X5_on : ez_Sound LX yX5_on cX5_on 3 (some .int) 4 sp_X5_on := ez_sound (E := e_X5_on) (prog := p_X5_on) LX_ok (by decide +kernel) rfl (fun _ h => h) fo_X5 co_X5_ok (List.forall_mem_cons.mpr ⟨k_X5_133 (by decide), List.forall_mem_cons.mpr ⟨k_X5_73 (by decide), List.forall_mem_cons.mpr ⟨k_X5_180 (by decide), fun _ h => absurd h List.not_mem_nil⟩⟩⟩) dp_X5_on b_X5_on
theorem k_X5_184 {d : Nat} (h : 5 < d) : ez_CallOK LX RX5 d (184, 5+1, 0, sp_X5_ownHits) := ez_callV (y := yX5_ownHits) (bytes := cX5_ownHits) so_X5_ownHits h (by decide) q_496 q_72 ⟨by decide +kernel, by decide +kernel, by decide +kernel⟩ (Or.inl q_493) q_495 q_24 (T := TX5) (N := 10) rfl
def sp_X5_own : ez_Sp := fun as M Q => match as with | [.inr (.inr q)] => q = 0 ∧ ff_Inv (ff_X M) ∧ (∀ M' : ez_M, ff_X M' = ff_X M → Q (some (.inl (op_own (ff_X M)))) M') | _ => False
def e_X5_own : ez_E := (fl_X5, co_X5, [(184, 5+1, 0, sp_X5_ownHits)], 0, 1)
set_option maxHeartbeats 4000000 in
set_option maxRecDepth 100000 in
theorem b_X5_own : ez_Body LX e_X5_own p_X5_own sp_X5_own := by
  intro as M Q has hM hsp
  unfold sp_X5_own at hsp
  split at hsp
  rotate_left
  · exact hsp.elim
  rename_i q
  obtain ⟨rfl, hI, hsp⟩ := hsp
  have hn := ff_n_X hI
  have hsp := hsp M rfl
  refine ⟨Nat.le_of_ble_eq_true rfl, fun cut hcut hkut => hcut [] 60 0 _ _ _ ?_⟩
  repeat' (first | (intro hh; exfalso; omega) | (refine And.intro (by first | assumption | omega) ?_) | (refine And.intro rfl ?_) | (refine And.intro ?_ ?_) | (intro qq hq1 hq2 hq3; have hq4 := hq2 (by omega) (by omega); subst hq4) | (intro hh) | omega | exact trivial)
  all_goals exact hsp
theorem so_X5_own : ez_Sound LX yX5_own cX5_own 1 (some .int) 6 sp_X5_own := ez_sound (E := e_X5_own) (prog := p_X5_own) LX_ok (by decide +kernel) rfl (fun _ h => h) fo_X5 co_X5_ok (List.forall_mem_cons.mpr ⟨k_X5_184 (by decide), fun _ h => absurd h List.not_mem_nil⟩) dp_X5_own b_X5_own
theorem k_X5_211 {d : Nat} (h : 2 < d) : ez_CallOK LX RX5 d (211, 1+1, 2, sp_X1_knows) := ez_callV (y := yX1_knows) (bytes := cX1_knows) so_X1_knows h (by decide) q_513 q_75 ⟨by decide +kernel, by decide +kernel, by decide +kernel⟩ (Or.inr ⟨"EastNearly", q_510⟩) q_512 q_27 (T := TX1) (N := 3) rfl
def sp_X5_bends : ez_Sp := fun as M Q => match as with | [.inr (.inr q), .inl c] => q = 0 ∧ ff_Inv (ff_X M) ∧ (∀ M' : ez_M, ff_X M' = ff_X M → Q (some (.inl (op_bends (ff_X M) c))) M') | _ => False
def e_X5_bends : ez_E := (fl_X5, co_X5, [(133, 1+1, 1, sp_X1_has), (211, 1+1, 2, sp_X1_knows), (139, 1+1, 2, sp_X1_get), (69, 0, 2, sp_X5_apart)], 0, 2)
set_option maxHeartbeats 4000000 in
set_option maxRecDepth 100000 in
theorem b_X5_bends : ez_Body LX e_X5_bends p_X5_bends sp_X5_bends := by
  intro as M Q has hM hsp
  unfold sp_X5_bends at hsp
  split at hsp
  rotate_left
  · exact hsp.elim
  rename_i q c
  have g_c : -2147483648 ≤ c ∧ c ≤ 2147483647 := ez_hd (ez_tl (has))
  obtain ⟨rfl, hI, hsp⟩ := hsp
  have hn := ff_n_X hI
  have hsp := hsp M rfl
  have hsp : Q (some (.inl (if 0 ≤ c ∧ c < M 7 1 then (if M 8 (11 * c + 8).toNat = -9 then -3 else ff_off (M 8 (11 * c + 8).toNat) (M 8 (11 * c + 1).toNat)) else -1))) M := hsp
  refine ⟨Nat.le_of_ble_eq_true rfl, fun cut hcut hkut => hcut [] 60 0 _ _ _ ?_⟩
  by_cases h1 : 0 ≤ c ∧ c < M 7 1
  · rw [if_pos h1] at hsp
    have hc := ff_ch_X hI (c := c) h1.1 h1.2
    unfold ff_ch at hc
    split at hsp <;> (repeat' (first | (intro hh; exfalso; omega) | (refine And.intro (by first | assumption | omega) ?_) | (refine And.intro rfl ?_) | (refine And.intro ?_ ?_) | (intro qq hq1 hq2 hq3; have hq4 := hq2 (by omega) (by omega); subst hq4) | (intro hh) | omega | exact trivial))
    all_goals exact hsp
  · rw [if_neg h1] at hsp
    repeat' (first | (intro hh; exfalso; omega) | (refine And.intro (by first | assumption | omega) ?_) | (refine And.intro rfl ?_) | (refine And.intro ?_ ?_) | (intro qq hq1 hq2 hq3; have hq4 := hq2 (by omega) (by omega); subst hq4) | (intro hh) | omega | exact trivial)
    all_goals exact hsp
theorem so_X5_bends : ez_Sound LX yX5_bends cX5_bends 2 (some .int) 3 sp_X5_bends := ez_sound (E := e_X5_bends) (prog := p_X5_bends) LX_ok (by decide +kernel) rfl (fun _ h => h) fo_X5 co_X5_ok (List.forall_mem_cons.mpr ⟨k_X5_133 (by decide), List.forall_mem_cons.mpr ⟨k_X5_211 (by decide), List.forall_mem_cons.mpr ⟨k_X5_139 (by decide), List.forall_mem_cons.mpr ⟨k_X5_69 (by decide), fun _ h => absurd h List.not_mem_nil⟩⟩⟩⟩) dp_X5_bends b_X5_bends
