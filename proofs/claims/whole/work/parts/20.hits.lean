theorem k_X5_139 {d : Nat} (h : 1 < d) : ez_CallOK LX RX5 d (139, 1+1, 2, sp_X1_get) := ez_callV (y := yX1_get) (bytes := cX1_get) so_X1_get h (by decide) q_371 q_75 ⟨by decide +kernel, by decide +kernel, by decide +kernel⟩ (Or.inr ⟨"EastNearly", q_387⟩) q_370 q_14 (T := TX1) (N := 3) rfl
theorem k_X5_103 {d : Nat} (h : 2 < d) : ez_CallOK LX RX5 d (103, 4+1, 2, sp_X4_dayOf) := ez_callV (y := yX4_dayOf) (bytes := cX4_dayOf) so_X4_dayOf h (by decide) q_289 q_73 ⟨by decide +kernel, by decide +kernel, by decide +kernel⟩ (Or.inr ⟨"EastNearly", q_286⟩) q_288 q_2 (T := TX4) (N := 2) rfl
theorem k_X5_91 {d : Nat} (h : 2 < d) : ez_CallOK LX RX5 d (91, 4+1, 2, sp_X4_riseAt) := ez_callV (y := yX4_riseAt) (bytes := cX4_riseAt) so_X4_riseAt h (by decide) q_268 q_73 ⟨by decide +kernel, by decide +kernel, by decide +kernel⟩ (Or.inr ⟨"EastNearly", q_265⟩) q_267 q_1 (T := TX4) (N := 2) rfl
theorem k_X5_123 {d : Nat} (h : 1 < d) : ez_CallOK LX RX5 d (123, 0+1, 1, sp_X0_needleIn) := ez_callV (y := yX0_needleIn) (bytes := cX0_needleIn) so_X0_needleIn h (by decide) q_355 q_74 ⟨by decide +kernel, by decide +kernel, by decide +kernel⟩ (Or.inr ⟨"EastNearly", q_352⟩) q_354 q_11 (T := TX0) (N := 5) rfl
def sp_X5_lineBy : ez_Sp := fun as M Q => match as with | [.inr (.inr q), .inl r, .inl c, .inl y] => q = 0 ∧ (0 ≤ r ∧ r ≤ 5 ∧ 0 ≤ c ∧ c < M 7 1 ∧ 0 ≤ y ∧ y ≤ 599) ∧ ff_Inv (ff_X M) ∧ Q (some (.inl (ff_line (ff_X M) r c y))) M | _ => False
def e_X5_lineBy : ez_E := (fl_X5, co_X5, [(139, 1+1, 2, sp_X1_get), (103, 4+1, 2, sp_X4_dayOf), (91, 4+1, 2, sp_X4_riseAt), (123, 0+1, 1, sp_X0_needleIn)], 0, 5)
set_option maxHeartbeats 4000000 in
set_option maxRecDepth 100000 in
theorem b_X5_lineBy : ez_Body LX e_X5_lineBy p_X5_lineBy sp_X5_lineBy := by
  intro as M Q has hM hsp
  unfold sp_X5_lineBy at hsp
  split at hsp
  rotate_left
  · exact hsp.elim
  rename_i q r c y
  have g_r : -2147483648 ≤ r ∧ r ≤ 2147483647 := ez_hd (ez_tl (has))
  have g_c : -2147483648 ≤ c ∧ c ≤ 2147483647 := ez_hd (ez_tl (ez_tl (has)))
  have g_y : -2147483648 ≤ y ∧ y ≤ 2147483647 := ez_hd (ez_tl (ez_tl (ez_tl (has))))
  obtain ⟨rfl, hv, hI, hsp⟩ := hsp
  have hn := ff_n_X hI
  have hc := ff_ch_X hI (c := c) (by omega) (by omega)
  unfold ff_ch at hc
  have hb := ff_bk_X hI
  have hnd := ff_nd_r hb (y := y) (by omega) (by omega)
  have hf : 0 ≤ M 0 9 ∧ M 0 9 ≤ 363 := hI.2.1.2.1
  have hsp : Q (some (.inl (if r = 0 then 90 else if r = 1 then ff_rby (M 2) (M 1 1) (M 8 (11 * c + 0).toNat) (M 8 (11 * c + 5).toNat) y else if r = 2 then 90 + ff_nd (M 3 4) (M 5) (M 6) y else if r = 3 then M 8 (11 * c + 6).toNat else if r = 4 then M 8 (11 * c + 7).toNat else ff_rby (M 2) (M 1 1) (M 8 (11 * c + 0).toNat) (M 0 9) y))) M := by
    rw [← ff_nd_X M hb.1.1 y]
    exact hsp
  unfold ff_rby at hsp
  have hr : r = 0 ∨ r = 1 ∨ r = 2 ∨ r = 3 ∨ r = 4 ∨ r = 5 := by omega
  have hdf := ff_day_r (sw := M 1 1) (y := y) hf.1 hf.2
  refine ⟨Nat.le_of_ble_eq_true rfl, fun cut hcut hkut => hcut [] 80 0 _ _ _ ?_⟩
  rcases hr with rfl | rfl | rfl | rfl | rfl | rfl
  · rw [if_pos rfl] at hsp
    repeat' (first | (intro hh; exfalso; omega) | (refine And.intro (by first | assumption | omega) ?_) | (refine And.intro rfl ?_) | (refine And.intro ?_ ?_) | (intro qq hq1 hq2 hq3; have hq4 := hq2 (by omega) (by omega); subst hq4) | (intro hh) | omega | exact trivial)
    all_goals exact hsp
  · rw [if_neg (by decide), if_pos rfl] at hsp
    by_cases hs : M 8 (11 * c + 5).toNat = -9
    · rw [if_pos hs] at hsp
      repeat' (first | (intro hh; exfalso; omega) | (refine And.intro (by first | assumption | omega) ?_) | (refine And.intro rfl ?_) | (refine And.intro ?_ ?_) | (intro qq hq1 hq2 hq3; have hq4 := hq2 (by omega) (by omega); subst hq4) | (intro hh) | omega | exact trivial)
      all_goals exact hsp
    · rw [if_neg hs] at hsp
      have hd := ff_day_r (sw := M 1 1) (date := M 8 (11 * c + 5).toNat) (y := y) (by omega) (by omega)
      repeat' (first | (intro hh; exfalso; omega) | (refine And.intro (by first | assumption | omega) ?_) | (refine And.intro rfl ?_) | (refine And.intro ?_ ?_) | (intro qq hq1 hq2 hq3; have hq4 := hq2 (by omega) (by omega); subst hq4) | (intro hh) | omega | exact trivial)
      all_goals exact hsp
  · rw [if_neg (by decide), if_neg (by decide), if_pos rfl] at hsp
    repeat' (first | (intro hh; exfalso; omega) | (refine And.intro (by first | assumption | omega) ?_) | (refine And.intro rfl ?_) | (refine And.intro ?_ ?_) | (intro qq hq1 hq2 hq3; have hq4 := hq2 (by omega) (by omega); subst hq4) | (intro hh) | omega | exact trivial)
    all_goals exact hsp
  · rw [if_neg (by decide), if_neg (by decide), if_neg (by decide), if_pos rfl] at hsp
    repeat' (first | (intro hh; exfalso; omega) | (refine And.intro (by first | assumption | omega) ?_) | (refine And.intro rfl ?_) | (refine And.intro ?_ ?_) | (intro qq hq1 hq2 hq3; have hq4 := hq2 (by omega) (by omega); subst hq4) | (intro hh) | omega | exact trivial)
    all_goals exact hsp
  · rw [if_neg (by decide), if_neg (by decide), if_neg (by decide), if_neg (by decide), if_pos rfl] at hsp
    repeat' (first | (intro hh; exfalso; omega) | (refine And.intro (by first | assumption | omega) ?_) | (refine And.intro rfl ?_) | (refine And.intro ?_ ?_) | (intro qq hq1 hq2 hq3; have hq4 := hq2 (by omega) (by omega); subst hq4) | (intro hh) | omega | exact trivial)
    all_goals exact hsp
  · rw [if_neg (by decide), if_neg (by decide), if_neg (by decide), if_neg (by decide), if_neg (by decide), if_neg (by omega)] at hsp
    repeat' (first | (intro hh; exfalso; omega) | (refine And.intro (by first | assumption | omega) ?_) | (refine And.intro rfl ?_) | (refine And.intro ?_ ?_) | (intro qq hq1 hq2 hq3; have hq4 := hq2 (by omega) (by omega); subst hq4) | (intro hh) | omega | exact trivial)
    all_goals exact hsp
theorem so_X5_lineBy : ez_Sound LX yX5_lineBy cX5_lineBy 5 (some .int) 3 sp_X5_lineBy := ez_sound (E := e_X5_lineBy) (prog := p_X5_lineBy) LX_ok (by decide +kernel) rfl (fun _ h => h) fo_X5 co_X5_ok (List.forall_mem_cons.mpr ⟨k_X5_139 (by decide), List.forall_mem_cons.mpr ⟨k_X5_103 (by decide), List.forall_mem_cons.mpr ⟨k_X5_91 (by decide), List.forall_mem_cons.mpr ⟨k_X5_123 (by decide), fun _ h => absurd h List.not_mem_nil⟩⟩⟩⟩) dp_X5_lineBy b_X5_lineBy
theorem k_X5_145 {d : Nat} (h : 3 < d) : ez_CallOK LX RX5 d (145, 5+1, 3, sp_X5_lineBy) := ez_callV (y := yX5_lineBy) (bytes := cX5_lineBy) so_X5_lineBy h (by decide) q_398 q_72 ⟨by decide +kernel, by decide +kernel, by decide +kernel⟩ (Or.inl q_395) q_397 q_16 (T := TX5) (N := 10) rfl
theorem k_X5_248 {d : Nat} (h : 2 < d) : ez_CallOK LX RX5 d (248, 0, 3, sp_X5_isNear) := ez_callS (y := yX5_isNear) (bytes := cX5_isNear) so_X5_isNear h (by decide) q_413 q_72 ⟨by decide +kernel, by decide +kernel, by decide +kernel⟩ (Or.inl q_411) q_412
def sp_X5_ruleHits : ez_Sp := fun as M Q => match as with | [.inr (.inr q), .inl r, .inl c, .inl y] => q = 0 ∧ (0 ≤ r ∧ r ≤ 5 ∧ 0 ≤ c ∧ c < M 7 1 ∧ 0 ≤ y ∧ y ≤ 599) ∧ ff_Inv (ff_X M) ∧ (ff_hit (ff_X M) r c y = true → Q (some (.inl 1)) M) ∧ (ff_hit (ff_X M) r c y = false → Q (some (.inl 0)) M) | _ => False
def e_X5_ruleHits : ez_E := (fl_X5, co_X5, [(145, 5+1, 3, sp_X5_lineBy), (139, 1+1, 2, sp_X1_get), (248, 0, 3, sp_X5_isNear)], 1, 4)
set_option maxHeartbeats 4000000 in
set_option maxRecDepth 100000 in
theorem b_X5_ruleHits : ez_Body LX e_X5_ruleHits p_X5_ruleHits sp_X5_ruleHits := by
  intro as M Q has hM hsp
  unfold sp_X5_ruleHits at hsp
  split at hsp
  rotate_left
  · exact hsp.elim
  rename_i q r c y
  have g_r : -2147483648 ≤ r ∧ r ≤ 2147483647 := ez_hd (ez_tl (has))
  have g_c : -2147483648 ≤ c ∧ c ≤ 2147483647 := ez_hd (ez_tl (ez_tl (has)))
  have g_y : -2147483648 ≤ y ∧ y ≤ 2147483647 := ez_hd (ez_tl (ez_tl (ez_tl (has))))
  obtain ⟨rfl, hv, hI, hs1, hs2⟩ := hsp
  have hn := ff_n_X hI
  have hc := ff_ch_X hI (c := c) (by omega) (by omega)
  unfold ff_ch at hc
  have hl := ff_line_r hI (r := r) (c := c) (y := y) (by omega) hv.2.2.2.1 (by omega) (by omega)
  unfold ff_hit ff_nr at hs1 hs2
  rw [decide_eq_true_eq] at hs1
  rw [decide_eq_false_iff_not] at hs2
  refine ⟨Nat.le_of_ble_eq_true rfl, fun cut hcut hkut => hcut [] 60 0 _ _ _ ?_⟩
  repeat' (first | (intro hh; exfalso; omega) | (refine And.intro (by first | assumption | omega) ?_) | (refine And.intro rfl ?_) | (refine And.intro ?_ ?_) | (intro qq hq1 hq2 hq3; have hq4 := hq2 (by omega) (by omega); subst hq4) | (intro hh) | omega | exact trivial)
  all_goals first | exact hs1 (by assumption) | exact hs2 (by assumption)
theorem so_X5_ruleHits : ez_Sound LX yX5_ruleHits cX5_ruleHits 4 (some .boolean) 4 sp_X5_ruleHits := ez_sound (E := e_X5_ruleHits) (prog := p_X5_ruleHits) LX_ok (by decide +kernel) rfl (fun _ h => h) fo_X5 co_X5_ok (List.forall_mem_cons.mpr ⟨k_X5_145 (by decide), List.forall_mem_cons.mpr ⟨k_X5_139 (by decide), List.forall_mem_cons.mpr ⟨k_X5_248 (by decide), fun _ h => absurd h List.not_mem_nil⟩⟩⟩) dp_X5_ruleHits b_X5_ruleHits
def sp_X5_dateHits : ez_Sp := fun as M Q => match as with | [.inr (.inr q), .inl c, .inl d, .inl y] => q = 0 ∧ (0 ≤ c ∧ c < M 7 1 ∧ 0 ≤ y ∧ y ≤ 599 ∧ (d = -9 ∨ (0 ≤ d ∧ d ≤ 363))) ∧ ff_Inv (ff_X M) ∧ (ff_dhit (ff_X M) c d y = true → Q (some (.inl 1)) M) ∧ (ff_dhit (ff_X M) c d y = false → Q (some (.inl 0)) M) | _ => False
def e_X5_dateHits : ez_E := (fl_X5, co_X5, [(139, 1+1, 2, sp_X1_get), (103, 4+1, 2, sp_X4_dayOf), (91, 4+1, 2, sp_X4_riseAt), (248, 0, 3, sp_X5_isNear)], 1, 5)
set_option maxHeartbeats 4000000 in
set_option maxRecDepth 100000 in
theorem b_X5_dateHits : ez_Body LX e_X5_dateHits p_X5_dateHits sp_X5_dateHits := by
  intro as M Q has hM hsp
  unfold sp_X5_dateHits at hsp
  split at hsp
  rotate_left
  · exact hsp.elim
  rename_i q c d y
  have g_c : -2147483648 ≤ c ∧ c ≤ 2147483647 := ez_hd (ez_tl (has))
  have g_d : -2147483648 ≤ d ∧ d ≤ 2147483647 := ez_hd (ez_tl (ez_tl (has)))
  have g_y : -2147483648 ≤ y ∧ y ≤ 2147483647 := ez_hd (ez_tl (ez_tl (ez_tl (has))))
  obtain ⟨rfl, hv, hI, hs1, hs2⟩ := hsp
  have hn := ff_n_X hI
  have hc := ff_ch_X hI (c := c) (by omega) (by omega)
  unfold ff_ch at hc
  have hs1 : (¬ ff_rby (M 2) (M 1 1) (M 8 (11 * c + 0).toNat) d y = -9 ∧ ff_off (ff_rby (M 2) (M 1 1) (M 8 (11 * c + 0).toNat) d y) (M 8 (11 * c + 1).toNat) ≤ M 8 (11 * c + 2).toNat) → Q (some (.inl 1)) M := fun h => hs1 (decide_eq_true h)
  have hs2 : ¬ (¬ ff_rby (M 2) (M 1 1) (M 8 (11 * c + 0).toNat) d y = -9 ∧ ff_off (ff_rby (M 2) (M 1 1) (M 8 (11 * c + 0).toNat) d y) (M 8 (11 * c + 1).toNat) ≤ M 8 (11 * c + 2).toNat) → Q (some (.inl 0)) M := fun h => hs2 (decide_eq_false h)
  have hr := ff_rby_r (h := M 2) (sw := M 1 1) (l := M 8 (11 * c + 0).toNat) (date := d) (y := y) hv.2.2.2.2
  unfold ff_rby at hs1 hs2 hr
  refine ⟨Nat.le_of_ble_eq_true rfl, fun cut hcut hkut => hcut [] 80 0 _ _ _ ?_⟩
  by_cases h9 : d = -9
  · rw [if_pos h9] at hs1 hs2 hr
    repeat' (first | (intro hh; exfalso; omega) | (refine And.intro (by first | assumption | omega) ?_) | (refine And.intro rfl ?_) | (refine And.intro ?_ ?_) | (intro qq hq1 hq2 hq3; have hq4 := hq2 (by omega) (by omega); subst hq4) | (intro hh) | omega | exact trivial)
    all_goals first | exact hs1 (by assumption) | exact hs2 (by assumption)
  · rw [if_neg h9] at hs1 hs2 hr
    have hd := ff_day_r (sw := M 1 1) (date := d) (y := y) (by omega) (by omega)
    repeat' (first | (intro hh; exfalso; omega) | (refine And.intro (by first | assumption | omega) ?_) | (refine And.intro rfl ?_) | (refine And.intro ?_ ?_) | (intro qq hq1 hq2 hq3; have hq4 := hq2 (by omega) (by omega); subst hq4) | (intro hh) | omega | exact trivial)
    all_goals first | exact hs1 (by assumption) | exact hs2 (by assumption)
theorem so_X5_dateHits : ez_Sound LX yX5_dateHits cX5_dateHits 5 (some .boolean) 3 sp_X5_dateHits := ez_sound (E := e_X5_dateHits) (prog := p_X5_dateHits) LX_ok (by decide +kernel) rfl (fun _ h => h) fo_X5 co_X5_ok (List.forall_mem_cons.mpr ⟨k_X5_139 (by decide), List.forall_mem_cons.mpr ⟨k_X5_103 (by decide), List.forall_mem_cons.mpr ⟨k_X5_91 (by decide), List.forall_mem_cons.mpr ⟨k_X5_248 (by decide), fun _ h => absurd h List.not_mem_nil⟩⟩⟩⟩) dp_X5_dateHits b_X5_dateHits
theorem k_X5_151 {d : Nat} (h : 4 < d) : ez_CallOK LX RX5 d (151, 5+1, 3, sp_X5_ruleHits) := ez_callV (y := yX5_ruleHits) (bytes := cX5_ruleHits) so_X5_ruleHits h (by decide) q_410 q_72 ⟨by decide +kernel, by decide +kernel, by decide +kernel⟩ (Or.inl q_407) q_409 q_18 (T := TX5) (N := 10) rfl
def sp_X5_countHits : ez_Sp := fun as M Q => match as with | [.inr (.inr q), .inl r, .inl c] => q = 0 ∧ (0 ≤ r ∧ r ≤ 5 ∧ 0 ≤ c ∧ c < M 7 1) ∧ ff_Inv (ff_X M) ∧ Q (some (.inl (ff_hits (ff_X M) r c))) M | _ => False
def e_X5_countHits : ez_E := (fl_X5, co_X5, [(139, 1+1, 2, sp_X1_get), (151, 5+1, 3, sp_X5_ruleHits)], 0, 6)
set_option maxHeartbeats 4000000 in
set_option maxRecDepth 100000 in
theorem b_X5_countHits : ez_Body LX e_X5_countHits p_X5_countHits sp_X5_countHits := by
  intro as M Q has hM hsp
  unfold sp_X5_countHits at hsp
  split at hsp
  rotate_left
  · exact hsp.elim
  rename_i q r c
  have g_r : -2147483648 ≤ r ∧ r ≤ 2147483647 := ez_hd (ez_tl (has))
  have g_c : -2147483648 ≤ c ∧ c ≤ 2147483647 := ez_hd (ez_tl (ez_tl (has)))
  obtain ⟨rfl, hv, hI, hsp⟩ := hsp
  have hn := ff_n_X hI
  have hc := ff_ch_X hI (c := c) (by omega) (by omega)
  unfold ff_ch at hc
  refine ⟨Nat.le_of_ble_eq_true rfl, fun cut hcut hkut => ?_⟩
  have loop : ∀ (n : Nat) (y z : Int), y + n = M 8 (11 * c + 4).toNat + 1 → 0 ≤ y → 0 ≤ z → z + n ≤ 61 → Q (some (.inl (z + ff_cn (ff_hit (ff_X M) r c) n y))) M → cut 24 [(0, .inr (.inr 0)), (1, .inl r), (2, .inl c), (3, .inl z), (4, .inl (M 8 (11 * c + 4).toNat)), (5, .inl y)] [] M := by
    intro n
    induction n with
    | zero =>
      intro y z hy h0 hz0 hz1 hq
      refine hkut [(24, [0, 1, 2, 3, 4, 5])] 60 24 _ _ _ ?_
      simp only [ff_cn, Int.add_zero] at hq
      repeat' (first | (intro hh; exfalso; omega) | (refine And.intro (by first | assumption | omega) ?_) | (refine And.intro rfl ?_) | (refine And.intro ?_ ?_) | (intro qq hq1 hq2 hq3; have hq4 := hq2 (by omega) (by omega); subst hq4) | (intro hh) | omega | exact trivial)
      all_goals exact hq
    | succ n ih =>
      intro y z hy h0 hz0 hz1 hq
      refine hkut [(24, [0, 1, 2, 3, 4, 5])] 60 24 _ _ _ ?_
      simp only [ff_cn] at hq
      split at hq
      · rename_i hh1
        repeat' (first | (intro hh; exfalso; omega) | (refine And.intro (by first | assumption | omega) ?_) | (refine And.intro rfl ?_) | (refine And.intro ?_ ?_) | (intro qq hq1 hq2 hq3; have hq4 := hq2 (by omega) (by omega); subst hq4) | (intro hh) | omega | exact trivial)
        all_goals first | exact ih (y + 1) (z + 1) (by omega) (by omega) (by omega) (by omega) (ez_ret hq (by omega)) | (rename_i hh2; rw [hh1] at hh2; cases hh2; done)
      · rename_i hh1
        repeat' (first | (intro hh; exfalso; omega) | (refine And.intro (by first | assumption | omega) ?_) | (refine And.intro rfl ?_) | (refine And.intro ?_ ?_) | (intro qq hq1 hq2 hq3; have hq4 := hq2 (by omega) (by omega); subst hq4) | (intro hh) | omega | exact trivial)
        all_goals first | exact absurd (by assumption) hh1 | exact ih (y + 1) z (by omega) (by omega) (by omega) (by omega) (ez_ret hq (by omega))
  refine hkut [(24, [0, 1, 2, 3, 4, 5])] 60 0 _ _ _ ?_
  repeat' (first | (intro hh; exfalso; omega) | (refine And.intro (by first | assumption | omega) ?_) | (refine And.intro rfl ?_) | (refine And.intro ?_ ?_) | (intro qq hq1 hq2 hq3; have hq4 := hq2 (by omega) (by omega); subst hq4) | (intro hh) | omega | exact trivial)
  all_goals exact loop (M 8 (11 * c + 4).toNat - M 8 (11 * c + 3).toNat + 1).toNat _ 0 (by omega) (by omega) (by omega) (by omega) (ez_ret hsp (by rw [Int.zero_add]; rfl))
theorem so_X5_countHits : ez_Sound LX yX5_countHits cX5_countHits 6 (some .int) 5 sp_X5_countHits := ez_sound (E := e_X5_countHits) (prog := p_X5_countHits) LX_ok (by decide +kernel) rfl (fun _ h => h) fo_X5 co_X5_ok (List.forall_mem_cons.mpr ⟨k_X5_139 (by decide), List.forall_mem_cons.mpr ⟨k_X5_151 (by decide), fun _ h => absurd h List.not_mem_nil⟩⟩) dp_X5_countHits b_X5_countHits
