theorem k_X6_92 {d : Nat} (h : 1 < d) : ez_CallOK LM RX6 d (92, 0, 1, sp_X6_noDay) := ez_callS (y := yX6_noDay) (bytes := cX6_noDay) so_X6_noDay h (by decide) q_773 q_78 ⟨by decide +kernel, by decide +kernel, by decide +kernel⟩ (Or.inl q_771) q_772
def sp_X6_sun : ez_Sp := fun as M Q => match as with | [.inr (.inr q), .inl d] => q = 0 ∧ ff_Inv (ff_N M) ∧ (∀ M' : ez_M, ff_N M' = ff_N M → Q (some (.inl (op_sun (ff_N M) d))) M') | _ => False
def e_X6_sun : ez_E := (fl_X6, co_X6, [(92, 0, 1, sp_X6_noDay), (95, 0, 1, sp_X6_sunOf)], 0, 2)
set_option maxHeartbeats 4000000 in
set_option maxRecDepth 100000 in
theorem b_X6_sun : ez_Body LM e_X6_sun p_X6_sun sp_X6_sun := by
  intro as M Q has hM hsp
  unfold sp_X6_sun at hsp
  split at hsp
  rotate_left
  · exact hsp.elim
  rename_i q d
  have g_d : -2147483648 ≤ d ∧ d ≤ 2147483647 := ez_hd (ez_tl (has))
  obtain ⟨rfl, hI, hsp⟩ := hsp
  refine ⟨Nat.le_of_ble_eq_true rfl, fun cut hcut hkut => ?_⟩
  suffices hgo : ∀ M' : ez_M, ff_N M' = ff_N M → cut 5 [(0, .inr (.inr 0)), (1, .inl d)] [] M' by
    refine hkut [(5, [0, 1])] 60 0 _ _ _ ?_
    exact hgo _ (ff_N_th M)
  clear hM
  intro M hth
  rw [← hth] at hI hsp
  clear hth
  have hn := ff_n_N hI
  unfold op_sun at hsp
  have hsp := hsp M rfl
  refine hkut [] 60 5 _ _ _ ?_
  split at hsp <;> (repeat' (first | (intro hh; exfalso; omega) | (refine And.intro (by first | assumption | omega) ?_) | (refine And.intro rfl ?_) | (refine And.intro ?_ ?_) | (intro qq hq1 hq2 hq3; have hq4 := hq2 (by omega) (by omega); subst hq4) | (intro hh) | omega | exact trivial))
  all_goals exact hsp
theorem so_X6_sun : ez_Sound LM yX6_sun cX6_sun 2 (some .int) 2 sp_X6_sun := ez_sound (E := e_X6_sun) (prog := p_X6_sun) LM_ok (by decide +kernel) rfl (fun _ h => h) fo_X6 co_X6_ok (List.forall_mem_cons.mpr ⟨k_X6_92 (by decide), List.forall_mem_cons.mpr ⟨k_X6_95 (by decide), fun _ h => absurd h List.not_mem_nil⟩⟩) dp_X6_sun b_X6_sun
theorem k_X6_99 {d : Nat} (h : 1 < d) : ez_CallOK LM RX6 d (99, 0, 1, sp_X6_noLand) := ez_callS (y := yX6_noLand) (bytes := cX6_noLand) so_X6_noLand h (by decide) q_784 q_78 ⟨by decide +kernel, by decide +kernel, by decide +kernel⟩ (Or.inl q_782) q_783
def sp_X6_edge : ez_Sp := fun as M Q => match as with | [.inr (.inr q), .inl l, .inl t, .inl h] => q = 0 ∧ ff_Inv (ff_N M) ∧ (∀ M' : ez_M, ff_N M' = op_edge_s (ff_N M) l t h → Q (some (.inl (op_edge (ff_N M) l t h))) M') | _ => False
def e_X6_edge : ez_E := (fl_X6, co_X6, [(99, 0, 1, sp_X6_noLand), (69, 0, 3, sp_X6_in)], 0, 5)
set_option maxHeartbeats 4000000 in
set_option maxRecDepth 100000 in
theorem b_X6_edge : ez_Body LM e_X6_edge p_X6_edge sp_X6_edge := by
  intro as M Q has hM hsp
  unfold sp_X6_edge at hsp
  split at hsp
  rotate_left
  · exact hsp.elim
  rename_i q l t h
  have g_l : -2147483648 ≤ l ∧ l ≤ 2147483647 := ez_hd (ez_tl (has))
  have g_t : -2147483648 ≤ t ∧ t ≤ 2147483647 := ez_hd (ez_tl (ez_tl (has)))
  have g_h : -2147483648 ≤ h ∧ h ≤ 2147483647 := ez_hd (ez_tl (ez_tl (ez_tl (has))))
  obtain ⟨rfl, hI, hsp⟩ := hsp
  refine ⟨Nat.le_of_ble_eq_true rfl, fun cut hcut hkut => ?_⟩
  suffices hgo : ∀ M' : ez_M, ff_N M' = ff_N M → cut 5 [(0, .inr (.inr 0)), (1, .inl l), (2, .inl t), (3, .inl h)] [] M' by
    refine hkut [(5, [0, 1, 2, 3])] 60 0 _ _ _ ?_
    exact hgo _ (ff_N_th M)
  clear hM
  intro M hth
  rw [← hth] at hI hsp
  clear hth
  have hn := ff_n_N hI
  unfold op_edge op_edge_s at hsp
  refine hkut [] 60 5 _ _ _ ?_
  by_cases h1 : (0 ≤ l ∧ l ≤ 3) ∧ (0 ≤ t ∧ t ≤ 35)
  · by_cases h2 : 0 ≤ h ∧ h ≤ 9
    · rw [if_pos ⟨h1, h2⟩, if_pos h1, if_pos h2] at hsp
      have hsp := hsp _ (ff_N_1 M _ _)
      repeat' (first | (intro hh; exfalso; omega) | (refine And.intro (by first | assumption | omega) ?_) | (refine And.intro rfl ?_) | (refine And.intro ?_ ?_) | (intro qq hq1 hq2 hq3; have hq4 := hq2 (by omega) (by omega); subst hq4) | (intro hh) | omega | exact trivial)
      all_goals exact hsp
    · rw [if_neg (fun z => h2 z.2), if_pos h1, if_neg h2] at hsp
      have hsp := hsp M rfl
      repeat' (first | (intro hh; exfalso; omega) | (refine And.intro (by first | assumption | omega) ?_) | (refine And.intro rfl ?_) | (refine And.intro ?_ ?_) | (intro qq hq1 hq2 hq3; have hq4 := hq2 (by omega) (by omega); subst hq4) | (intro hh) | omega | exact trivial)
      all_goals exact hsp
  · rw [if_neg (fun z => h1 z.1), if_neg h1] at hsp
    have hsp := hsp M rfl
    repeat' (first | (intro hh; exfalso; omega) | (refine And.intro (by first | assumption | omega) ?_) | (refine And.intro rfl ?_) | (refine And.intro ?_ ?_) | (intro qq hq1 hq2 hq3; have hq4 := hq2 (by omega) (by omega); subst hq4) | (intro hh) | omega | exact trivial)
    all_goals exact hsp
theorem so_X6_edge : ez_Sound LM yX6_edge cX6_edge 5 (some .int) 2 sp_X6_edge := ez_sound (E := e_X6_edge) (prog := p_X6_edge) LM_ok (by decide +kernel) rfl (fun _ h => h) fo_X6 co_X6_ok (List.forall_mem_cons.mpr ⟨k_X6_99 (by decide), List.forall_mem_cons.mpr ⟨k_X6_69 (by decide), fun _ h => absurd h List.not_mem_nil⟩⟩) dp_X6_edge b_X6_edge
theorem k_X6_106 {d : Nat} (h : 1 < d) : ez_CallOK LM RX6 d (106, 6+1, 2, sp_X6_riseOf) := ez_callV (y := yX6_riseOf) (bytes := cX6_riseOf) so_X6_riseOf h (by decide) q_795 q_78 ⟨by decide +kernel, by decide +kernel, by decide +kernel⟩ (Or.inl q_792) q_794 q_47 (T := TX6) (N := 28) rfl
def sp_X6_rise : ez_Sp := fun as M Q => match as with | [.inr (.inr q), .inl l, .inl d] => q = 0 ∧ ff_Inv (ff_N M) ∧ (∀ M' : ez_M, ff_N M' = ff_N M → Q (some (.inl (op_rise (ff_N M) l d))) M') | _ => False
def e_X6_rise : ez_E := (fl_X6, co_X6, [(99, 0, 1, sp_X6_noLand), (92, 0, 1, sp_X6_noDay), (106, 6+1, 2, sp_X6_riseOf)], 0, 3)
set_option maxHeartbeats 4000000 in
set_option maxRecDepth 100000 in
theorem b_X6_rise : ez_Body LM e_X6_rise p_X6_rise sp_X6_rise := by
  intro as M Q has hM hsp
  unfold sp_X6_rise at hsp
  split at hsp
  rotate_left
  · exact hsp.elim
  rename_i q l d
  have g_l : -2147483648 ≤ l ∧ l ≤ 2147483647 := ez_hd (ez_tl (has))
  have g_d : -2147483648 ≤ d ∧ d ≤ 2147483647 := ez_hd (ez_tl (ez_tl (has)))
  obtain ⟨rfl, hI, hsp⟩ := hsp
  refine ⟨Nat.le_of_ble_eq_true rfl, fun cut hcut hkut => ?_⟩
  suffices hgo : ∀ M' : ez_M, ff_N M' = ff_N M → cut 5 [(0, .inr (.inr 0)), (1, .inl l), (2, .inl d)] [] M' by
    refine hkut [(5, [0, 1, 2])] 60 0 _ _ _ ?_
    exact hgo _ (ff_N_th M)
  clear hM
  intro M hth
  rw [← hth] at hI hsp
  clear hth
  have hn := ff_n_N hI
  unfold op_rise at hsp
  have hsp := hsp M rfl
  have hh : ∀ j, 0 ≤ M 1 j ∧ M 1 j ≤ 9 := hI.1
  refine hkut [] 60 5 _ _ _ ?_
  split at hsp <;> (repeat' (first | (intro hh; exfalso; omega) | (refine And.intro (by first | assumption | omega) ?_) | (refine And.intro rfl ?_) | (refine And.intro ?_ ?_) | (intro qq hq1 hq2 hq3; have hq4 := hq2 (by omega) (by omega); subst hq4) | (intro hh) | omega | exact trivial))
  all_goals exact hsp
theorem so_X6_rise : ez_Sound LM yX6_rise cX6_rise 3 (some .int) 2 sp_X6_rise := ez_sound (E := e_X6_rise) (prog := p_X6_rise) LM_ok (by decide +kernel) rfl (fun _ h => h) fo_X6 co_X6_ok (List.forall_mem_cons.mpr ⟨k_X6_99 (by decide), List.forall_mem_cons.mpr ⟨k_X6_92 (by decide), List.forall_mem_cons.mpr ⟨k_X6_106 (by decide), fun _ h => absurd h List.not_mem_nil⟩⟩⟩) dp_X6_rise b_X6_rise
def sp_X6_switched : ez_Sp := fun as M Q => match as with | [.inr (.inr q), .inl y] => q = 0 ∧ ff_Inv (ff_N M) ∧ (∀ M' : ez_M, ff_N M' = op_switched_s (ff_N M) y → Q (some (.inl (op_switched (ff_N M) y))) M') | _ => False
def e_X6_switched : ez_E := (fl_X6, co_X6, [(69, 0, 3, sp_X6_in)], 0, 3)
set_option maxHeartbeats 4000000 in
set_option maxRecDepth 100000 in
theorem b_X6_switched : ez_Body LM e_X6_switched p_X6_switched sp_X6_switched := by
  intro as M Q has hM hsp
  unfold sp_X6_switched at hsp
  split at hsp
  rotate_left
  · exact hsp.elim
  rename_i q y
  have g_y : -2147483648 ≤ y ∧ y ≤ 2147483647 := ez_hd (ez_tl (has))
  obtain ⟨rfl, hI, hsp⟩ := hsp
  refine ⟨Nat.le_of_ble_eq_true rfl, fun cut hcut hkut => ?_⟩
  suffices hgo : ∀ M' : ez_M, ff_N M' = ff_N M → cut 5 [(0, .inr (.inr 0)), (1, .inl y)] [] M' by
    refine hkut [(5, [0, 1])] 60 0 _ _ _ ?_
    exact hgo _ (ff_N_th M)
  clear hM
  intro M hth
  rw [← hth] at hI hsp
  clear hth
  have hn := ff_n_N hI
  unfold op_switched op_switched_s at hsp
  refine hkut [] 60 5 _ _ _ ?_
  by_cases h1 : 0 ≤ y ∧ y ≤ 600
  · rw [if_pos h1, if_pos h1] at hsp
    have hsp := hsp _ (ff_N_sw M _)
    repeat' (first | (intro hh; exfalso; omega) | (refine And.intro (by first | assumption | omega) ?_) | (refine And.intro rfl ?_) | (refine And.intro ?_ ?_) | (intro qq hq1 hq2 hq3; have hq4 := hq2 (by omega) (by omega); subst hq4) | (intro hh) | omega | exact trivial)
    all_goals exact hsp
  · rw [if_neg h1, if_neg h1] at hsp
    have hsp := hsp M rfl
    repeat' (first | (intro hh; exfalso; omega) | (refine And.intro (by first | assumption | omega) ?_) | (refine And.intro rfl ?_) | (refine And.intro ?_ ?_) | (intro qq hq1 hq2 hq3; have hq4 := hq2 (by omega) (by omega); subst hq4) | (intro hh) | omega | exact trivial)
    all_goals exact hsp
theorem so_X6_switched : ez_Sound LM yX6_switched cX6_switched 3 (some .int) 1 sp_X6_switched := ez_sound (E := e_X6_switched) (prog := p_X6_switched) LM_ok (by decide +kernel) rfl (fun _ h => h) fo_X6 co_X6_ok (List.forall_mem_cons.mpr ⟨k_X6_69 (by decide), fun _ h => absurd h List.not_mem_nil⟩) dp_X6_switched b_X6_switched
theorem k_X6_111 {d : Nat} (h : 1 < d) : ez_CallOK LM RX6 d (111, 0, 1, sp_X6_noYear) := ez_callS (y := yX6_noYear) (bytes := cX6_noYear) so_X6_noYear h (by decide) q_807 q_78 ⟨by decide +kernel, by decide +kernel, by decide +kernel⟩ (Or.inl q_805) q_806
theorem k_X6_114 {d : Nat} (h : 0 < d) : ez_CallOK LM RX6 d (114, 6+1, 2, sp_X6_dayOf) := ez_callV (y := yX6_dayOf) (bytes := cX6_dayOf) so_X6_dayOf h (by decide) q_812 q_78 ⟨by decide +kernel, by decide +kernel, by decide +kernel⟩ (Or.inl q_809) q_811 q_48 (T := TX6) (N := 28) rfl
def sp_X6_day : ez_Sp := fun as M Q => match as with | [.inr (.inr q), .inl d, .inl y] => q = 0 ∧ ff_Inv (ff_N M) ∧ (∀ M' : ez_M, ff_N M' = ff_N M → Q (some (.inl (op_day (ff_N M) d y))) M') | _ => False
def e_X6_day : ez_E := (fl_X6, co_X6, [(92, 0, 1, sp_X6_noDay), (111, 0, 1, sp_X6_noYear), (114, 6+1, 2, sp_X6_dayOf)], 0, 3)
set_option maxHeartbeats 4000000 in
set_option maxRecDepth 100000 in
theorem b_X6_day : ez_Body LM e_X6_day p_X6_day sp_X6_day := by
  intro as M Q has hM hsp
  unfold sp_X6_day at hsp
  split at hsp
  rotate_left
  · exact hsp.elim
  rename_i q d y
  have g_d : -2147483648 ≤ d ∧ d ≤ 2147483647 := ez_hd (ez_tl (has))
  have g_y : -2147483648 ≤ y ∧ y ≤ 2147483647 := ez_hd (ez_tl (ez_tl (has)))
  obtain ⟨rfl, hI, hsp⟩ := hsp
  refine ⟨Nat.le_of_ble_eq_true rfl, fun cut hcut hkut => ?_⟩
  suffices hgo : ∀ M' : ez_M, ff_N M' = ff_N M → cut 5 [(0, .inr (.inr 0)), (1, .inl d), (2, .inl y)] [] M' by
    refine hkut [(5, [0, 1, 2])] 60 0 _ _ _ ?_
    exact hgo _ (ff_N_th M)
  clear hM
  intro M hth
  rw [← hth] at hI hsp
  clear hth
  have hn := ff_n_N hI
  unfold op_day at hsp
  have hsp := hsp M rfl
  refine hkut [] 60 5 _ _ _ ?_
  split at hsp <;> (repeat' (first | (intro hh; exfalso; omega) | (refine And.intro (by first | assumption | omega) ?_) | (refine And.intro rfl ?_) | (refine And.intro ?_ ?_) | (intro qq hq1 hq2 hq3; have hq4 := hq2 (by omega) (by omega); subst hq4) | (intro hh) | omega | exact trivial))
  all_goals exact hsp
theorem so_X6_day : ez_Sound LM yX6_day cX6_day 3 (some .int) 2 sp_X6_day := ez_sound (E := e_X6_day) (prog := p_X6_day) LM_ok (by decide +kernel) rfl (fun _ h => h) fo_X6 co_X6_ok (List.forall_mem_cons.mpr ⟨k_X6_92 (by decide), List.forall_mem_cons.mpr ⟨k_X6_111 (by decide), List.forall_mem_cons.mpr ⟨k_X6_114 (by decide), fun _ h => absurd h List.not_mem_nil⟩⟩⟩) dp_X6_day b_X6_day
def sp_X6_feast : ez_Sp := fun as M Q => match as with | [.inr (.inr q), .inl d] => q = 0 ∧ ff_Inv (ff_N M) ∧ (∀ M' : ez_M, ff_N M' = op_feast_s (ff_N M) d → Q (some (.inl (op_feast (ff_N M) d))) M') | _ => False
def e_X6_feast : ez_E := (fl_X6, co_X6, [(92, 0, 1, sp_X6_noDay)], 0, 3)
set_option maxHeartbeats 4000000 in
set_option maxRecDepth 100000 in
theorem b_X6_feast : ez_Body LM e_X6_feast p_X6_feast sp_X6_feast := by
  intro as M Q has hM hsp
  unfold sp_X6_feast at hsp
  split at hsp
  rotate_left
  · exact hsp.elim
  rename_i q d
  have g_d : -2147483648 ≤ d ∧ d ≤ 2147483647 := ez_hd (ez_tl (has))
  obtain ⟨rfl, hI, hsp⟩ := hsp
  refine ⟨Nat.le_of_ble_eq_true rfl, fun cut hcut hkut => ?_⟩
  suffices hgo : ∀ M' : ez_M, ff_N M' = ff_N M → cut 5 [(0, .inr (.inr 0)), (1, .inl d)] [] M' by
    refine hkut [(5, [0, 1])] 60 0 _ _ _ ?_
    exact hgo _ (ff_N_th M)
  clear hM
  intro M hth
  rw [← hth] at hI hsp
  clear hth
  have hn := ff_n_N hI
  unfold op_feast op_feast_s at hsp
  refine hkut [] 60 5 _ _ _ ?_
  by_cases h1 : 0 ≤ d ∧ d ≤ 363
  · rw [if_pos h1, if_pos h1] at hsp
    have hsp := hsp _ (ff_N_fe M _)
    repeat' (first | (intro hh; exfalso; omega) | (refine And.intro (by first | assumption | omega) ?_) | (refine And.intro rfl ?_) | (refine And.intro ?_ ?_) | (intro qq hq1 hq2 hq3; have hq4 := hq2 (by omega) (by omega); subst hq4) | (intro hh) | omega | exact trivial)
    all_goals exact hsp
  · rw [if_neg h1, if_neg h1] at hsp
    have hsp := hsp M rfl
    repeat' (first | (intro hh; exfalso; omega) | (refine And.intro (by first | assumption | omega) ?_) | (refine And.intro rfl ?_) | (refine And.intro ?_ ?_) | (intro qq hq1 hq2 hq3; have hq4 := hq2 (by omega) (by omega); subst hq4) | (intro hh) | omega | exact trivial)
    all_goals exact hsp
theorem so_X6_feast : ez_Sound LM yX6_feast cX6_feast 3 (some .int) 2 sp_X6_feast := ez_sound (E := e_X6_feast) (prog := p_X6_feast) LM_ok (by decide +kernel) rfl (fun _ h => h) fo_X6 co_X6_ok (List.forall_mem_cons.mpr ⟨k_X6_92 (by decide), fun _ h => absurd h List.not_mem_nil⟩) dp_X6_feast b_X6_feast
def ff_apn (v : Int) : Nat → ez_M → ez_M
  | 0, M => M
  | k + 1, M => ff_apn v k (ez_up (ez_up M 2 (M 0 5).toNat (ff_byte v k)) 0 5 (ez_up M 2 (M 0 5).toNat (ff_byte v k) 0 5 + 1))
theorem ff_N_apn (v : Int) : ∀ (k : Nat) (M : ez_M), ff_N (ff_apn v k M) = ff_appS v k (ff_N M)
  | 0, M => rfl
  | k + 1, M => by
    simp only [ff_apn, ff_appS]
    rw [ff_N_apn v k, ff_N_len, ff_N_txt]
    have e : ez_up M 2 (M 0 5).toNat (ff_byte v k) 0 5 = M 0 5 := by simp [ez_up]
    rw [e]
    rfl
theorem ff_apn_len (v : Int) : ∀ (k : Nat) (M : ez_M), ff_apn v k M 0 5 = M 0 5 + k
  | 0, M => by simp [ff_apn]
  | k + 1, M => by
    simp only [ff_apn]
    rw [ff_apn_len v k]
    simp [ez_up]
    omega
def sp_X6_write : ez_Sp := fun as M Q => match as with | [.inr (.inr q), .inl n, .inr (.inl v)] => q = 0 ∧ ff_Inv (ff_N M) ∧ (∀ M' : ez_M, ff_N M' = op_write_s (ff_N M) n v → Q (some (.inl (op_write (ff_N M) n v))) M') | _ => False
def e_X6_write : ez_E := (fl_X6, co_X6, [(69, 0, 3, sp_X6_in)], 0, 5)
set_option maxHeartbeats 4000000 in
set_option maxRecDepth 100000 in
theorem b_X6_write : ez_Body LM e_X6_write p_X6_write sp_X6_write := by
  intro as M Q has hM hsp
  unfold sp_X6_write at hsp
  split at hsp
  rotate_left
  · exact hsp.elim
  rename_i q n v
  have g_n : -2147483648 ≤ n ∧ n ≤ 2147483647 := ez_hd (ez_tl (has))
  have g_v : -9223372036854775808 ≤ v ∧ v ≤ 9223372036854775807 := ez_hd (ez_tl (ez_tl (has)))
  obtain ⟨rfl, hI, hsp⟩ := hsp
  refine ⟨Nat.le_of_ble_eq_true rfl, fun cut hcut hkut => ?_⟩
  suffices hgo : ∀ M' : ez_M, ff_N M' = ff_N M → cut 5 [(0, .inr (.inr 0)), (1, .inl n), (2, .inr (.inl v))] [] M' by
    refine hkut [(5, [0, 1, 2])] 60 0 _ _ _ ?_
    exact hgo _ (ff_N_th M)
  clear hM
  intro M hth
  rw [← hth] at hI hsp
  clear hth
  have hn := ff_n_N hI
  have hl : 0 ≤ M 0 5 ∧ M 0 5 ≤ 48 := hI.2.1.2.2.1
  have hsp : ∀ M' : ez_M, ff_N M' = (if (1 ≤ n ∧ n ≤ 8) ∧ M 0 5 + n ≤ 48 then ff_appS v n.toNat (ff_N M) else ff_N M) → Q (some (.inl (if 1 ≤ n ∧ n ≤ 8 then (if M 0 5 + n ≤ 48 then M 0 5 + n else -4) else -2))) M' := hsp
  by_cases h1 : 1 ≤ n ∧ n ≤ 8
  · by_cases h2 : M 0 5 + n ≤ 48
    · rw [if_pos ⟨h1, h2⟩, if_pos h1, if_pos h2] at hsp
      have hsp := hsp _ (ff_N_apn v n.toNat M)
      have hlen := ff_apn_len v n.toNat M
      have hsp := ez_ret hsp (show ff_apn v n.toNat M 0 5 = M 0 5 + n by omega)
      have loop : ∀ (k : Nat) (w : Int) (M : ez_M), w + 1 = k → k ≤ 8 → 0 ≤ M 0 5 → M 0 5 + k ≤ 48 → Q (some (.inl (ff_apn v k M 0 5))) (ff_apn v k M) → cut 39 [(0, .inr (.inr 0)), (2, .inr (.inl v)), (4, .inl w)] [] M := by
        intro k
        induction k with
        | zero =>
          intro w M hw h8 h0 h1 hq
          refine hkut [(39, [0, 2, 4])] 60 39 _ _ _ ?_
          repeat' (first | (intro hh; exfalso; omega) | (refine And.intro (by first | assumption | omega) ?_) | (refine And.intro rfl ?_) | (refine And.intro ?_ ?_) | (intro qq hq1 hq2 hq3; have hq4 := hq2 (by omega) (by omega); subst hq4) | (intro hh) | omega | exact trivial)
          all_goals exact hq
        | succ k ih =>
          intro w M hw h8 h0 h1 hq
          obtain rfl : w = (k : Int) := by omega
          have e : ∀ a b, ez_up M 2 a b 0 5 = M 0 5 := by
            intros
            simp [ez_up]
          refine hkut [(39, [0, 2, 4])] 60 39 _ _ _ ?_
          repeat' (first | (intro hh; exfalso; omega) | (refine And.intro (by first | assumption | omega | (simp [ez_up]; omega)) ?_) | (refine And.intro rfl ?_) | (refine And.intro ?_ ?_) | (intro qq hq1 hq2 hq3; have hq4 := hq2 (by omega) (by omega); subst hq4) | (intro hh) | omega | exact trivial)
          all_goals exact ih _ _ (by omega) (by omega) (by simp [ez_up]; omega) (by simp [ez_up]; omega) hq
      refine hkut [(39, [0, 2, 4])] 60 5 _ _ _ ?_
      repeat' (first | (intro hh; exfalso; omega) | (refine And.intro (by first | assumption | omega) ?_) | (refine And.intro rfl ?_) | (refine And.intro ?_ ?_) | (intro qq hq1 hq2 hq3; have hq4 := hq2 (by omega) (by omega); subst hq4) | (intro hh) | omega | exact trivial)
      all_goals exact loop n.toNat _ M (by omega) (by omega) (by omega) (by omega) hsp
    · rw [if_neg (fun z => h2 z.2), if_pos h1, if_neg h2] at hsp
      have hsp := hsp M rfl
      refine hkut [] 60 5 _ _ _ ?_
      repeat' (first | (intro hh; exfalso; omega) | (refine And.intro (by first | assumption | omega) ?_) | (refine And.intro rfl ?_) | (refine And.intro ?_ ?_) | (intro qq hq1 hq2 hq3; have hq4 := hq2 (by omega) (by omega); subst hq4) | (intro hh) | omega | exact trivial)
      all_goals exact hsp
  · rw [if_neg (fun z => h1 z.1), if_neg h1] at hsp
    have hsp := hsp M rfl
    refine hkut [] 60 5 _ _ _ ?_
    repeat' (first | (intro hh; exfalso; omega) | (refine And.intro (by first | assumption | omega) ?_) | (refine And.intro rfl ?_) | (refine And.intro ?_ ?_) | (intro qq hq1 hq2 hq3; have hq4 := hq2 (by omega) (by omega); subst hq4) | (intro hh) | omega | exact trivial)
    all_goals exact hsp
theorem so_X6_write : ez_Sound LM yX6_write cX6_write 5 (some .int) 1 sp_X6_write := ez_sound (E := e_X6_write) (prog := p_X6_write) LM_ok (by decide +kernel) rfl (fun _ h => h) fo_X6 co_X6_ok (List.forall_mem_cons.mpr ⟨k_X6_69 (by decide), fun _ h => absurd h List.not_mem_nil⟩) dp_X6_write b_X6_write
def sp_X6_wipe : ez_Sp := fun as M Q => match as with | [.inr (.inr q)] => q = 0 ∧ ff_Inv (ff_N M) ∧ (∀ M' : ez_M, ff_N M' = op_wipe_s (ff_N M) → Q (some (.inl (op_wipe (ff_N M)))) M') | _ => False
def e_X6_wipe : ez_E := (fl_X6, co_X6, [], 0, 2)
set_option maxHeartbeats 4000000 in
set_option maxRecDepth 100000 in
theorem b_X6_wipe : ez_Body LM e_X6_wipe p_X6_wipe sp_X6_wipe := by
  intro as M Q has hM hsp
  unfold sp_X6_wipe at hsp
  split at hsp
  rotate_left
  · exact hsp.elim
  rename_i q
  obtain ⟨rfl, hI, hsp⟩ := hsp
  refine ⟨Nat.le_of_ble_eq_true rfl, fun cut hcut hkut => ?_⟩
  suffices hgo : ∀ M' : ez_M, ff_N M' = ff_N M → cut 5 [(0, .inr (.inr 0))] [] M' by
    refine hkut [(5, [0])] 60 0 _ _ _ ?_
    exact hgo _ (ff_N_th M)
  clear hM
  intro M hth
  rw [← hth] at hI hsp
  clear hth
  have hn := ff_n_N hI
  have hsp := hsp _ (ff_N_len M 0)
  refine hkut [] 60 5 _ _ _ ?_
  repeat' (first | (intro hh; exfalso; omega) | (refine And.intro (by first | assumption | omega) ?_) | (refine And.intro rfl ?_) | (refine And.intro ?_ ?_) | (intro qq hq1 hq2 hq3; have hq4 := hq2 (by omega) (by omega); subst hq4) | (intro hh) | omega | exact trivial)
  all_goals exact hsp
theorem so_X6_wipe : ez_Sound LM yX6_wipe cX6_wipe 2 (some .int) 0 sp_X6_wipe := ez_sound (E := e_X6_wipe) (prog := p_X6_wipe) LM_ok (by decide +kernel) rfl (fun _ h => h) fo_X6 co_X6_ok (fun _ h => absurd h List.not_mem_nil) dp_X6_wipe b_X6_wipe
def sp_X6_noSpan : ez_Sp := fun as M Q => match as with | [.inl f, .inl t] => (0 ≤ f ∧ f ≤ 599 ∧ 0 ≤ t ∧ t ≤ 599) ∧ ((0 ≤ t - f ∧ t - f ≤ 60) → Q (some (.inl 0)) M) ∧ (¬ (0 ≤ t - f ∧ t - f ≤ 60) → Q (some (.inl 1)) M) | _ => False
def e_X6_noSpan : ez_E := (fl_X6, co_X6, [], 1, 2)
set_option maxHeartbeats 4000000 in
set_option maxRecDepth 100000 in
theorem b_X6_noSpan : ez_Body LM e_X6_noSpan p_X6_noSpan sp_X6_noSpan := by
  intro as M Q has hM hsp
  unfold sp_X6_noSpan at hsp
  split at hsp
  rotate_left
  · exact hsp.elim
  rename_i f t
  have g_f : -2147483648 ≤ f ∧ f ≤ 2147483647 := ez_hd (has)
  have g_t : -2147483648 ≤ t ∧ t ≤ 2147483647 := ez_hd (ez_tl (has))
  obtain ⟨hv, hsp⟩ := hsp
  refine ⟨Nat.le_of_ble_eq_true rfl, fun cut hcut hkut => hcut [] 60 0 _ _ _ ?_⟩
  repeat' (first | (intro hh; exfalso; omega) | (refine And.intro (by first | assumption | omega) ?_) | (refine And.intro rfl ?_) | (refine And.intro ?_ ?_) | (intro qq hq1 hq2 hq3; have hq4 := hq2 (by omega) (by omega); subst hq4) | (intro hh) | omega | exact trivial)
  all_goals first | exact hsp.1 (by omega) | exact hsp.2 (by omega)
theorem so_X6_noSpan : ez_Sound LM yX6_noSpan cX6_noSpan 2 (some .boolean) 0 sp_X6_noSpan := ez_sound (E := e_X6_noSpan) (prog := p_X6_noSpan) LM_ok (by decide +kernel) rfl (fun _ h => h) fo_X6 co_X6_ok (fun _ h => absurd h List.not_mem_nil) dp_X6_noSpan b_X6_noSpan
def ff_mB (M : ez_M) (n l li s f t : Int) : ez_M := ez_up (ez_up (ez_up (ez_up (ez_up M 7 (11 * n).toNat l) 7 (11 * n + 1).toNat li) 7 (11 * n + 2).toNat s) 7 (11 * n + 3).toNat f) 7 (11 * n + 4).toNat t
def ff_mF (M : ez_M) (n l li s f t : Int) (k : Nat) : ez_M := fun i j => if i = 7 ∧ (11 * n).toNat + 5 ≤ j ∧ j < (11 * n).toNat + k then -9 else ff_mB M n l li s f t i j
theorem ff_mF_5 (M : ez_M) (n l li s f t : Int) : ff_mF M n l li s f t 5 = ff_mB M n l li s f t := by
  funext i j
  simp only [ff_mF]
  rw [if_neg (by omega)]
theorem ff_mF_s {M : ez_M} {n l li s f t : Int} {k : Nat} (h : 0 ≤ n) (hk : 5 ≤ k) : ez_up (ff_mF M n l li s f t k) 7 (11 * n + (k : Int)).toNat (-9) = ff_mF M n l li s f t (k + 1) := by
  have e : (11 * n + (k : Int)).toNat = (11 * n).toNat + k := by omega
  rw [e]
  funext i j
  simp only [ez_up, ff_mF]
  grind
theorem ff_mF_13 (M : ez_M) (n l li s f t : Int) (k : Nat) : ff_mF M n l li s f t k 0 13 = M 0 13 := by
  simp [ff_mF, ff_mB, ez_up]
theorem ff_mF_0 (M : ez_M) (n l li s f t : Int) (k : Nat) (i : Nat) (h : ¬ i = 7) : ff_mF M n l li s f t k i = M i := by
  funext j
  simp [ff_mF, ff_mB, ez_up, h]
theorem ff_mF_7 (M : ez_M) (n l li s f t : Int) (h : 0 ≤ n) (j : Nat) : ff_mF M n l li s f t 11 7 j = ff_addf (M 7) n l li s f t j := by
  have e1 : (11 * n + 1).toNat = (11 * n).toNat + 1 := by omega
  have e2 : (11 * n + 2).toNat = (11 * n).toNat + 2 := by omega
  have e3 : (11 * n + 3).toNat = (11 * n).toNat + 3 := by omega
  have e4 : (11 * n + 4).toNat = (11 * n).toNat + 4 := by omega
  simp only [ff_mF, ff_mB, ff_addf]
  rw [e1, e2, e3, e4]
  simp only [ez_up]
  generalize (11 * n).toNat = b
  by_cases hb : b ≤ j ∧ j < b + 11
  · obtain ⟨k, rfl⟩ : ∃ k, j = b + k := ⟨j - b, by omega⟩
    have hk : k = 0 ∨ k = 1 ∨ k = 2 ∨ k = 3 ∨ k = 4 ∨ (5 ≤ k ∧ k < 11) := by omega
    rcases hk with rfl | rfl | rfl | rfl | rfl | hk
    · simp [ff_row]
      intro z
      omega
    · simp [ff_row]
    · simp [ff_row]
    · simp [ff_row]
    · simp [ff_row]
    · have h5 : ff_row l li s f t k = -9 := by
        obtain ⟨z, rfl⟩ : ∃ z, k = z + 5 := ⟨k - 5, by omega⟩
        rfl
      simp [h5, hk]
  · simp [hb, show ¬ j = b by omega, show ¬ j = b + 1 by omega, show ¬ j = b + 2 by omega, show ¬ j = b + 3 by omega, show ¬ j = b + 4 by omega, show ¬ (b + 5 ≤ j ∧ j < b + 11) by omega]
theorem ff_N_mF (M : ez_M) (l li s f t : Int) (h : 0 ≤ M 0 13) : ff_N (ez_up (ff_mF M (M 0 13) l li s f t 11) 0 13 (M 0 13 + 1)) = fun r j => if r = 5 then ff_addf (ff_N M 5) (ff_N M 1 4) l li s f t j else if r = 1 ∧ j = 4 then ff_N M 1 4 + 1 else ff_N M r j := by
  have h7 := ff_mF_7 M (M 0 13) l li s f t h
  have h0 := ff_mF_0 M (M 0 13) l li s f t 11
  generalize ff_mF M (M 0 13) l li s f t 11 = F at h7 h0
  funext r j
  rcases r with _ | _ | _ | _ | _ | _ | _ | _ | _ | _ | r
  · simp [ff_N, ez_up, h0]
  · rcases j with _ | _ | _ | _ | _ | j <;> simp [ff_N, ez_up, h0]
  · simp [ff_N, ez_up, h0]
  · simp [ff_N, ez_up, h0]
  · simp [ff_N, ez_up, h0]
  · have : ff_N (ez_up F 0 13 (M 0 13 + 1)) 5 j = F 7 j := by simp [ff_N, ez_up]
    show ff_N (ez_up F 0 13 (M 0 13 + 1)) 5 j = _
    rw [this, h7]
    rfl
  · simp [ff_N, ez_up, h0]
  · simp [ff_N, ez_up, h0]
  · simp [ff_N, ez_up, h0]
  · rcases j with _ | _ | _ | _ | j <;> simp [ff_N, ez_up, h0]
  · simp [ff_N]
theorem k_X6_150 {d : Nat} (h : 0 < d) : ez_CallOK LM RX6 d (150, 0, 2, sp_X6_noSpan) := ez_callS (y := yX6_noSpan) (bytes := cX6_noSpan) so_X6_noSpan h (by decide) q_864 q_78 ⟨by decide +kernel, by decide +kernel, by decide +kernel⟩ (Or.inl q_862) q_863
def sp_X6_church : ez_Sp := fun as M Q => match as with | [.inr (.inr q), .inl l, .inl li, .inl s, .inl f, .inl t] => q = 0 ∧ ff_Inv (ff_N M) ∧ (∀ M' : ez_M, ff_N M' = op_church_s (ff_N M) l li s f t → Q (some (.inl (op_church (ff_N M) l li s f t))) M') | _ => False
def e_X6_church : ez_E := (fl_X6, co_X6, [(99, 0, 1, sp_X6_noLand), (84, 0, 1, sp_X6_noDegree), (111, 0, 1, sp_X6_noYear), (69, 0, 3, sp_X6_in), (150, 0, 2, sp_X6_noSpan)], 0, 8)
set_option maxHeartbeats 4000000 in
set_option maxRecDepth 100000 in
theorem b_X6_church : ez_Body LM e_X6_church p_X6_church sp_X6_church := by
  intro as M Q has hM hsp
  unfold sp_X6_church at hsp
  split at hsp
  rotate_left
  · exact hsp.elim
  rename_i q l li s f t
  have g_l : -2147483648 ≤ l ∧ l ≤ 2147483647 := ez_hd (ez_tl (has))
  have g_li : -2147483648 ≤ li ∧ li ≤ 2147483647 := ez_hd (ez_tl (ez_tl (has)))
  have g_s : -2147483648 ≤ s ∧ s ≤ 2147483647 := ez_hd (ez_tl (ez_tl (ez_tl (has))))
  have g_f : -2147483648 ≤ f ∧ f ≤ 2147483647 := ez_hd (ez_tl (ez_tl (ez_tl (ez_tl (has)))))
  have g_t : -2147483648 ≤ t ∧ t ≤ 2147483647 := ez_hd (ez_tl (ez_tl (ez_tl (ez_tl (ez_tl (has))))))
  obtain ⟨rfl, hI, hsp⟩ := hsp
  refine ⟨Nat.le_of_ble_eq_true rfl, fun cut hcut hkut => ?_⟩
  suffices hgo : ∀ M' : ez_M, ff_N M' = ff_N M → cut 5 [(0, .inr (.inr 0)), (1, .inl l), (2, .inl li), (3, .inl s), (4, .inl f), (5, .inl t)] [] M' by
    refine hkut [(5, [0, 1, 2, 3, 4, 5])] 60 0 _ _ _ ?_
    exact hgo _ (ff_N_th M)
  clear hM
  intro M hth
  rw [← hth] at hI hsp
  clear hth
  have hn := ff_n_N hI
  have hx := ff_N_mF M l li s f t hn.1
  unfold op_church op_church_s at hsp
  by_cases h1 : ((0 ≤ l ∧ l ≤ 3) ∧ (0 ≤ li ∧ li ≤ 359)) ∧ (0 ≤ f ∧ f ≤ 599) ∧ (0 ≤ t ∧ t ≤ 599)
  · by_cases h2 : (0 ≤ s ∧ s ≤ 9) ∧ (0 ≤ t - f ∧ t - f ≤ 60)
    · by_cases h3 : ff_N M 1 4 < 10
      · have h3m : M 0 13 < 10 := h3
        rw [if_pos ⟨h1, h2, h3⟩, if_pos h1, if_pos h2, if_pos h3] at hsp
        have hsp := hsp _ hx
        have loop : ∀ (n k : Nat), k + n = 11 → 5 ≤ k → cut 136 [(0, .inr (.inr 0)), (6, .inl (11 * M 0 13)), (7, .inl (k : Int))] [] (ff_mF M (M 0 13) l li s f t k) := by
          intro n
          induction n with
          | zero =>
            intro k hk h5
            obtain rfl : k = 11 := by omega
            have e13 := ff_mF_13 M (M 0 13) l li s f t 11
            have e14 : ez_up (ff_mF M (M 0 13) l li s f t 11) 0 13 (ff_mF M (M 0 13) l li s f t 11 0 13 + 1) 0 13 = M 0 13 + 1 := by
              simp [ez_up, e13]
            refine hkut [(136, [0, 6, 7])] 60 136 _ _ _ ?_
            repeat' (first | (intro hh; exfalso; omega) | (refine And.intro (by first | assumption | omega) ?_) | (refine And.intro rfl ?_) | (refine And.intro ?_ ?_) | (intro qq hq1 hq2 hq3; have hq4 := hq2 (by omega) (by omega); subst hq4) | (intro hh) | omega | exact trivial)
            all_goals
              refine ez_retm hsp ?_ ?_
              · rw [e14]
                show M 0 13 + 1 - 1 = M 0 13
                omega
              · rw [e13]
          | succ n ih =>
            intro k hk h5
            have ih := ih (k + 1) (by omega) (by omega)
            rw [← ff_mF_s hn.1 h5] at ih
            refine hkut [(136, [0, 6, 7])] 60 136 _ _ _ ?_
            repeat' (first | (intro hh; exfalso; omega) | (refine And.intro (by first | assumption | omega) ?_) | (refine And.intro rfl ?_) | (refine And.intro ?_ ?_) | (intro qq hq1 hq2 hq3; have hq4 := hq2 (by omega) (by omega); subst hq4) | (intro hh) | omega | exact trivial)
            all_goals exact ih
        have hl := loop 6 5 (by omega) (by omega)
        rw [ff_mF_5] at hl
        refine hkut [(136, [0, 6, 7])] 100 5 _ _ _ ?_
        repeat' (first | (intro hh; exfalso; omega) | (refine And.intro (by first | assumption | omega) ?_) | (refine And.intro rfl ?_) | (refine And.intro ?_ ?_) | (intro qq hq1 hq2 hq3; have hq4 := hq2 (by omega) (by omega); subst hq4) | (intro hh) | omega | exact trivial)
        all_goals exact hl
      · have h3m : ¬ (M 0 13 < 10) := h3
        rw [if_neg (fun z => h3 z.2.2), if_pos h1, if_pos h2, if_neg h3] at hsp
        have hsp := hsp M rfl
        refine hkut [] 60 5 _ _ _ ?_
        repeat' (first | (intro hh; exfalso; omega) | (refine And.intro (by first | assumption | omega) ?_) | (refine And.intro rfl ?_) | (refine And.intro ?_ ?_) | (intro qq hq1 hq2 hq3; have hq4 := hq2 (by omega) (by omega); subst hq4) | (intro hh) | omega | exact trivial)
        all_goals exact hsp
    · rw [if_neg (fun z => h2 z.2.1), if_pos h1, if_neg h2] at hsp
      have hsp := hsp M rfl
      refine hkut [] 60 5 _ _ _ ?_
      repeat' (first | (intro hh; exfalso; omega) | (refine And.intro (by first | assumption | omega) ?_) | (refine And.intro rfl ?_) | (refine And.intro ?_ ?_) | (intro qq hq1 hq2 hq3; have hq4 := hq2 (by omega) (by omega); subst hq4) | (intro hh) | omega | exact trivial)
      all_goals exact hsp
  · rw [if_neg (fun z => h1 z.1), if_neg h1] at hsp
    have hsp := hsp M rfl
    refine hkut [] 60 5 _ _ _ ?_
    repeat' (first | (intro hh; exfalso; omega) | (refine And.intro (by first | assumption | omega) ?_) | (refine And.intro rfl ?_) | (refine And.intro ?_ ?_) | (intro qq hq1 hq2 hq3; have hq4 := hq2 (by omega) (by omega); subst hq4) | (intro hh) | omega | exact trivial)
    all_goals exact hsp
theorem so_X6_church : ez_Sound LM yX6_church cX6_church 8 (some .int) 2 sp_X6_church := ez_sound (E := e_X6_church) (prog := p_X6_church) LM_ok (by decide +kernel) rfl (fun _ h => h) fo_X6 co_X6_ok (List.forall_mem_cons.mpr ⟨k_X6_99 (by decide), List.forall_mem_cons.mpr ⟨k_X6_84 (by decide), List.forall_mem_cons.mpr ⟨k_X6_111 (by decide), List.forall_mem_cons.mpr ⟨k_X6_69 (by decide), List.forall_mem_cons.mpr ⟨k_X6_150 (by decide), fun _ h => absurd h List.not_mem_nil⟩⟩⟩⟩⟩) dp_X6_church b_X6_church
theorem k_X6_154 {d : Nat} (h : 1 < d) : ez_CallOK LM RX6 d (154, 6+1, 1, sp_X6_noChurch) := ez_callV (y := yX6_noChurch) (bytes := cX6_noChurch) so_X6_noChurch h (by decide) q_872 q_78 ⟨by decide +kernel, by decide +kernel, by decide +kernel⟩ (Or.inl q_869) q_871 q_54 (T := TX6) (N := 28) rfl
def sp_X6_tell : ez_Sp := fun as M Q => match as with | [.inr (.inr q), .inl c, .inl w, .inl v] => q = 0 ∧ ff_Inv (ff_N M) ∧ (∀ M' : ez_M, ff_N M' = op_tell_s (ff_N M) c w v → Q (some (.inl (op_tell (ff_N M) c w v))) M') | _ => False
def e_X6_tell : ez_E := (fl_X6, co_X6, [(154, 6+1, 1, sp_X6_noChurch), (69, 0, 3, sp_X6_in)], 0, 6)
set_option maxHeartbeats 4000000 in
set_option maxRecDepth 100000 in
theorem b_X6_tell : ez_Body LM e_X6_tell p_X6_tell sp_X6_tell := by
  intro as M Q has hM hsp
  unfold sp_X6_tell at hsp
  split at hsp
  rotate_left
  · exact hsp.elim
  rename_i q c w v
  have g_c : -2147483648 ≤ c ∧ c ≤ 2147483647 := ez_hd (ez_tl (has))
  have g_w : -2147483648 ≤ w ∧ w ≤ 2147483647 := ez_hd (ez_tl (ez_tl (has)))
  have g_v : -2147483648 ≤ v ∧ v ≤ 2147483647 := ez_hd (ez_tl (ez_tl (ez_tl (has))))
  obtain ⟨rfl, hI, hsp⟩ := hsp
  refine ⟨Nat.le_of_ble_eq_true rfl, fun cut hcut hkut => ?_⟩
  suffices hgo : ∀ M' : ez_M, ff_N M' = ff_N M → cut 5 [(0, .inr (.inr 0)), (1, .inl c), (2, .inl w), (3, .inl v)] [] M' by
    refine hkut [(5, [0, 1, 2, 3])] 60 0 _ _ _ ?_
    exact hgo _ (ff_N_th M)
  clear hM
  intro M hth
  rw [← hth] at hI hsp
  clear hth
  have hn := ff_n_N hI
  have hx := ff_N_told M (11 * c + (5 + w)).toNat v
  unfold op_tell op_tell_s at hsp
  refine hkut [] 80 5 _ _ _ ?_
  by_cases h1 : 0 ≤ c ∧ c < ff_N M 1 4
  · have h1m : 0 ≤ c ∧ c < M 0 13 := h1
    by_cases h2 : (0 ≤ w ∧ w ≤ 2) ∧ (v = -9 ∨ (0 ≤ v ∧ v ≤ (if w = 0 then 363 else 359)))
    · rw [if_pos ⟨h1, h2⟩, if_pos h1, if_pos h2] at hsp
      have hsp := hsp _ hx
      rw [← Int.add_assoc] at hsp
      split at h2
      · (repeat' (first | (intro hh; exfalso; omega) | (refine And.intro (by first | assumption | omega) ?_) | (refine And.intro rfl ?_) | (refine And.intro ?_ ?_) | (intro qq hq1 hq2 hq3; have hq4 := hq2 (by omega) (by omega); subst hq4) | (intro hh) | omega | exact trivial))
        all_goals exact hsp
      · (repeat' (first | (intro hh; exfalso; omega) | (refine And.intro (by first | assumption | omega) ?_) | (refine And.intro rfl ?_) | (refine And.intro ?_ ?_) | (intro qq hq1 hq2 hq3; have hq4 := hq2 (by omega) (by omega); subst hq4) | (intro hh) | omega | exact trivial))
        all_goals exact hsp
    · rw [if_neg (fun z => h2 z.2), if_pos h1, if_neg h2] at hsp
      have hsp := hsp M rfl
      split at h2
      · (repeat' (first | (intro hh; exfalso; omega) | (refine And.intro (by first | assumption | omega) ?_) | (refine And.intro rfl ?_) | (refine And.intro ?_ ?_) | (intro qq hq1 hq2 hq3; have hq4 := hq2 (by omega) (by omega); subst hq4) | (intro hh) | omega | exact trivial))
        all_goals exact hsp
      · (repeat' (first | (intro hh; exfalso; omega) | (refine And.intro (by first | assumption | omega) ?_) | (refine And.intro rfl ?_) | (refine And.intro ?_ ?_) | (intro qq hq1 hq2 hq3; have hq4 := hq2 (by omega) (by omega); subst hq4) | (intro hh) | omega | exact trivial))
        all_goals exact hsp
  · have h1m : ¬ (0 ≤ c ∧ c < M 0 13) := h1
    rw [if_neg (fun z => h1 z.1), if_neg h1] at hsp
    have hsp := hsp M rfl
    repeat' (first | (intro hh; exfalso; omega) | (refine And.intro (by first | assumption | omega) ?_) | (refine And.intro rfl ?_) | (refine And.intro ?_ ?_) | (intro qq hq1 hq2 hq3; have hq4 := hq2 (by omega) (by omega); subst hq4) | (intro hh) | omega | exact trivial)
    all_goals exact hsp
theorem so_X6_tell : ez_Sound LM yX6_tell cX6_tell 6 (some .int) 2 sp_X6_tell := ez_sound (E := e_X6_tell) (prog := p_X6_tell) LM_ok (by decide +kernel) rfl (fun _ h => h) fo_X6 co_X6_ok (List.forall_mem_cons.mpr ⟨k_X6_154 (by decide), List.forall_mem_cons.mpr ⟨k_X6_69 (by decide), fun _ h => absurd h List.not_mem_nil⟩⟩) dp_X6_tell b_X6_tell
def sp_X6_about : ez_Sp := fun as M Q => match as with | [.inr (.inr q), .inl c, .inl w] => q = 0 ∧ ff_Inv (ff_N M) ∧ (∀ M' : ez_M, ff_N M' = ff_N M → Q (some (.inl (op_about (ff_N M) c w))) M') | _ => False
def e_X6_about : ez_E := (fl_X6, co_X6, [(154, 6+1, 1, sp_X6_noChurch), (69, 0, 3, sp_X6_in)], 0, 3)
set_option maxHeartbeats 4000000 in
set_option maxRecDepth 100000 in
theorem b_X6_about : ez_Body LM e_X6_about p_X6_about sp_X6_about := by
  intro as M Q has hM hsp
  unfold sp_X6_about at hsp
  split at hsp
  rotate_left
  · exact hsp.elim
  rename_i q c w
  have g_c : -2147483648 ≤ c ∧ c ≤ 2147483647 := ez_hd (ez_tl (has))
  have g_w : -2147483648 ≤ w ∧ w ≤ 2147483647 := ez_hd (ez_tl (ez_tl (has)))
  obtain ⟨rfl, hI, hsp⟩ := hsp
  refine ⟨Nat.le_of_ble_eq_true rfl, fun cut hcut hkut => ?_⟩
  suffices hgo : ∀ M' : ez_M, ff_N M' = ff_N M → cut 5 [(0, .inr (.inr 0)), (1, .inl c), (2, .inl w)] [] M' by
    refine hkut [(5, [0, 1, 2])] 60 0 _ _ _ ?_
    exact hgo _ (ff_N_th M)
  clear hM
  intro M hth
  rw [← hth] at hI hsp
  clear hth
  have hn := ff_n_N hI
  have hsp := hsp M rfl
  unfold op_about at hsp
  refine hkut [] 60 5 _ _ _ ?_
  by_cases h1 : 0 ≤ c ∧ c < ff_N M 1 4
  · have h1m : 0 ≤ c ∧ c < M 0 13 := h1
    rw [if_pos h1] at hsp
    split at hsp <;> (repeat' (first | (intro hh; exfalso; omega) | (refine And.intro (by first | assumption | omega) ?_) | (refine And.intro rfl ?_) | (refine And.intro ?_ ?_) | (intro qq hq1 hq2 hq3; have hq4 := hq2 (by omega) (by omega); subst hq4) | (intro hh) | omega | exact trivial))
    all_goals exact hsp
  · have h1m : ¬ (0 ≤ c ∧ c < M 0 13) := h1
    rw [if_neg h1] at hsp
    repeat' (first | (intro hh; exfalso; omega) | (refine And.intro (by first | assumption | omega) ?_) | (refine And.intro rfl ?_) | (refine And.intro ?_ ?_) | (intro qq hq1 hq2 hq3; have hq4 := hq2 (by omega) (by omega); subst hq4) | (intro hh) | omega | exact trivial)
    all_goals exact hsp
theorem so_X6_about : ez_Sound LM yX6_about cX6_about 3 (some .int) 2 sp_X6_about := ez_sound (E := e_X6_about) (prog := p_X6_about) LM_ok (by decide +kernel) rfl (fun _ h => h) fo_X6 co_X6_ok (List.forall_mem_cons.mpr ⟨k_X6_154 (by decide), List.forall_mem_cons.mpr ⟨k_X6_69 (by decide), fun _ h => absurd h List.not_mem_nil⟩⟩) dp_X6_about b_X6_about
theorem k_X6_165 {d : Nat} (h : 1 < d) : ez_CallOK LM RX6 d (165, 0, 1, sp_X6_noRule) := ez_callS (y := yX6_noRule) (bytes := cX6_noRule) so_X6_noRule h (by decide) q_885 q_78 ⟨by decide +kernel, by decide +kernel, by decide +kernel⟩ (Or.inl q_883) q_884
def sp_X6_weight : ez_Sp := fun as M Q => match as with | [.inr (.inr q), .inl r, .inl v] => q = 0 ∧ ff_Inv (ff_N M) ∧ (∀ M' : ez_M, ff_N M' = op_weight_s (ff_N M) r v → Q (some (.inl (op_weight (ff_N M) r v))) M') | _ => False
def e_X6_weight : ez_E := (fl_X6, co_X6, [(165, 0, 1, sp_X6_noRule), (69, 0, 3, sp_X6_in)], 0, 4)
set_option maxHeartbeats 4000000 in
set_option maxRecDepth 100000 in
theorem b_X6_weight : ez_Body LM e_X6_weight p_X6_weight sp_X6_weight := by
  intro as M Q has hM hsp
  unfold sp_X6_weight at hsp
  split at hsp
  rotate_left
  · exact hsp.elim
  rename_i q r v
  have g_r : -2147483648 ≤ r ∧ r ≤ 2147483647 := ez_hd (ez_tl (has))
  have g_v : -2147483648 ≤ v ∧ v ≤ 2147483647 := ez_hd (ez_tl (ez_tl (has)))
  obtain ⟨rfl, hI, hsp⟩ := hsp
  refine ⟨Nat.le_of_ble_eq_true rfl, fun cut hcut hkut => ?_⟩
  suffices hgo : ∀ M' : ez_M, ff_N M' = ff_N M → cut 5 [(0, .inr (.inr 0)), (1, .inl r), (2, .inl v)] [] M' by
    refine hkut [(5, [0, 1, 2])] 60 0 _ _ _ ?_
    exact hgo _ (ff_N_th M)
  clear hM
  intro M hth
  rw [← hth] at hI hsp
  clear hth
  have hn := ff_n_N hI
  have hx := ff_N_wt M r.toNat v
  unfold op_weight op_weight_s at hsp
  refine hkut [] 60 5 _ _ _ ?_
  by_cases h1 : 0 ≤ r ∧ r ≤ 5
  · by_cases h2 : 0 ≤ v ∧ v ≤ 9
    · rw [if_pos ⟨h1, h2⟩, if_pos h1, if_pos h2] at hsp
      have hsp := hsp _ hx
      repeat' (first | (intro hh; exfalso; omega) | (refine And.intro (by first | assumption | omega) ?_) | (refine And.intro rfl ?_) | (refine And.intro ?_ ?_) | (intro qq hq1 hq2 hq3; have hq4 := hq2 (by omega) (by omega); subst hq4) | (intro hh) | omega | exact trivial)
      all_goals exact hsp
    · rw [if_neg (fun z => h2 z.2), if_pos h1, if_neg h2] at hsp
      have hsp := hsp M rfl
      repeat' (first | (intro hh; exfalso; omega) | (refine And.intro (by first | assumption | omega) ?_) | (refine And.intro rfl ?_) | (refine And.intro ?_ ?_) | (intro qq hq1 hq2 hq3; have hq4 := hq2 (by omega) (by omega); subst hq4) | (intro hh) | omega | exact trivial)
      all_goals exact hsp
  · rw [if_neg (fun z => h1 z.1), if_neg h1] at hsp
    have hsp := hsp M rfl
    repeat' (first | (intro hh; exfalso; omega) | (refine And.intro (by first | assumption | omega) ?_) | (refine And.intro rfl ?_) | (refine And.intro ?_ ?_) | (intro qq hq1 hq2 hq3; have hq4 := hq2 (by omega) (by omega); subst hq4) | (intro hh) | omega | exact trivial)
    all_goals exact hsp
theorem so_X6_weight : ez_Sound LM yX6_weight cX6_weight 4 (some .int) 2 sp_X6_weight := ez_sound (E := e_X6_weight) (prog := p_X6_weight) LM_ok (by decide +kernel) rfl (fun _ h => h) fo_X6 co_X6_ok (List.forall_mem_cons.mpr ⟨k_X6_165 (by decide), List.forall_mem_cons.mpr ⟨k_X6_69 (by decide), fun _ h => absurd h List.not_mem_nil⟩⟩) dp_X6_weight b_X6_weight
def sp_X6_bits : ez_Sp := fun as M Q => match as with | [.inl x] => Q (some (.inl (ff_pop x))) M | _ => False
def e_X6_bits : ez_E := (fl_X6, co_X6, [], 0, 3)
set_option maxHeartbeats 4000000 in
set_option maxRecDepth 100000 in
theorem b_X6_bits : ez_Body LM e_X6_bits p_X6_bits sp_X6_bits := by
  intro as M Q has hM hsp
  unfold sp_X6_bits at hsp
  split at hsp
  rotate_left
  · exact hsp.elim
  rename_i x
  have g_x : -2147483648 ≤ x ∧ x ≤ 2147483647 := ez_hd (has)
  refine ⟨Nat.le_of_ble_eq_true rfl, fun cut hcut hkut => ?_⟩
  have loop : ∀ (n : Nat) (k z : Int), k + n = 10 → 0 ≤ k → 0 ≤ z → z ≤ k → Q (some (.inl (z + ff_pps x n k))) M → cut 4 [(0, .inl x), (1, .inl z), (2, .inl k)] [] M := by
    intro n
    induction n with
    | zero =>
      intro k z hk h0 hz0 hz1 hq
      simp only [ff_pps, Int.add_zero] at hq
      refine hkut [(4, [0, 1, 2])] 60 4 _ _ _ ?_
      repeat' (first | (intro hh; exfalso; omega) | (refine And.intro (by first | assumption | omega) ?_) | (refine And.intro rfl ?_) | (refine And.intro ?_ ?_) | (intro qq hq1 hq2 hq3; have hq4 := hq2 (by omega) (by omega); subst hq4) | (intro hh) | omega | exact trivial)
      all_goals exact hq
    | succ n ih =>
      intro k z hk h0 hz0 hz1 hq
      simp only [ff_pps] at hq
      have hb := ez_and1 (ez_shr x k)
      have ih := ih (k + 1) (z + ez_and (ez_shr x k) 1) (by omega) (by omega) (by omega) (by omega) (ez_ret hq (by omega))
      refine hkut [(4, [0, 1, 2])] 60 4 _ _ _ ?_
      repeat' (first | (intro hh; exfalso; omega) | (refine And.intro (by first | assumption | omega) ?_) | (refine And.intro rfl ?_) | (refine And.intro ?_ ?_) | (intro qq hq1 hq2 hq3; have hq4 := hq2 (by omega) (by omega); subst hq4) | (intro hh) | omega | exact trivial)
      all_goals exact ih
  refine hkut [(4, [0, 1, 2])] 60 0 _ _ _ ?_
  exact loop 10 0 0 (by omega) (by omega) (by omega) (by omega) (ez_ret hsp (by rw [Int.zero_add]; rfl))
theorem so_X6_bits : ez_Sound LM yX6_bits cX6_bits 3 (some .int) 0 sp_X6_bits := ez_sound (E := e_X6_bits) (prog := p_X6_bits) LM_ok (by decide +kernel) rfl (fun _ h => h) fo_X6 co_X6_ok (fun _ h => absurd h List.not_mem_nil) dp_X6_bits b_X6_bits
