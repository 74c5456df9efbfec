/-! ===== the model's state ===== -/
def ff_N (M : ez_M) : ff_S := fun r j => match r with
  | 0 => M 1 j
  | 1 => (match j with
    | 0 => M 0 2
    | 1 => M 0 3
    | 2 => M 0 5
    | 3 => M 0 7
    | 4 => M 0 13
    | _ => 0)
  | 2 => M 2 j
  | 3 => if (j : Int) < M 0 7 then M 3 j else 0
  | 4 => if (j : Int) < M 0 7 then M 4 j else 0
  | 5 => M 7 j
  | 6 => M 8 j
  | 7 => if j < 110 then M 9 j else 0
  | 8 => if j < 110 then M 9 (110 + j) else 0
  | 9 => (match j with
    | 0 => M 10 0
    | 1 => M 10 1
    | 2 => M 11 0
    | 3 => M 11 1
    | _ => 0)
  | _ => 0
theorem ff_n_N {M : ez_M} (h : ff_Inv (ff_N M)) : 0 ≤ M 0 13 ∧ M 0 13 ≤ 10 := h.2.1.2.2.2
theorem ff_N_n (M : ez_M) : ff_N M 1 4 = M 0 13 := rfl
theorem ff_nd_N (M : ez_M) (h : 0 ≤ M 0 7) (y : Int) : ff_nd (ff_N M 1 3) (ff_N M 3) (ff_N M 4) y = ff_nd (M 0 7) (M 3) (M 4) y := by
  refine ff_nd_congr h (fun j hj => ?_) (fun j hj => ?_) y
  · show (if (j : Int) < M 0 7 then M 3 j else 0) = _
    rw [if_pos hj]
  · show (if (j : Int) < M 0 7 then M 4 j else 0) = _
    rw [if_pos hj]
theorem ff_bk_N {M : ez_M} (h : ff_Inv (ff_N M)) : ff_bk (M 0 7) (M 3) (M 4) := by
  obtain ⟨a, b, c⟩ := h.2.2.2.1
  have e3 : ∀ j : Nat, (j : Int) < M 0 7 → ff_N M 3 j = M 3 j := fun j hj => if_pos hj
  have e4 : ∀ j : Nat, (j : Int) < M 0 7 → ff_N M 4 j = M 4 j := fun j hj => if_pos hj
  refine ⟨a, fun j hj => ?_, fun i j hij hj => ?_⟩
  · have := b j hj
    rw [e3 j hj, e4 j hj] at this
    exact this
  · have := c i j hij hj
    rw [e3 j hj, e3 i (by omega)] at this
    exact this
theorem ff_ch_N {M : ez_M} (h : ff_Inv (ff_N M)) {c : Int} (h0 : 0 ≤ c) (h1 : c < M 0 13) : ff_ch (M 7) c := h.2.2.2.2.1 c h0 h1
theorem ff_N_1 (M : ez_M) (k : Nat) (v : Int) : ff_N (ez_up M 1 k v) = ez_up (ff_N M) 0 k v := by
  funext r j
  rcases r with _ | _ | _ | _ | _ | _ | _ | _ | _ | _ | r <;> simp [ff_N, ez_up]
theorem ff_N_sw (M : ez_M) (v : Int) : ff_N (ez_up M 0 2 v) = ez_up (ff_N M) 1 0 v := by
  funext r j
  rcases r with _ | _ | _ | _ | _ | _ | _ | _ | _ | _ | r <;> simp [ff_N, ez_up]
  rcases j with _ | _ | _ | _ | _ | j <;> simp
theorem ff_N_fe (M : ez_M) (v : Int) : ff_N (ez_up M 0 3 v) = ez_up (ff_N M) 1 1 v := by
  funext r j
  rcases r with _ | _ | _ | _ | _ | _ | _ | _ | _ | _ | r <;> simp [ff_N, ez_up]
  rcases j with _ | _ | _ | _ | _ | j <;> simp
theorem ff_N_len (M : ez_M) (v : Int) : ff_N (ez_up M 0 5 v) = ez_up (ff_N M) 1 2 v := by
  funext r j
  rcases r with _ | _ | _ | _ | _ | _ | _ | _ | _ | _ | r <;> simp [ff_N, ez_up]
  rcases j with _ | _ | _ | _ | _ | j <;> simp
theorem ff_N_txt (M : ez_M) (k : Nat) (v : Int) : ff_N (ez_up M 2 k v) = ez_up (ff_N M) 2 k v := by
  funext r j
  rcases r with _ | _ | _ | _ | _ | _ | _ | _ | _ | _ | r <;> simp [ff_N, ez_up]
theorem ff_N_told (M : ez_M) (k : Nat) (v : Int) : ff_N (ez_up M 7 k v) = ez_up (ff_N M) 5 k v := by
  funext r j
  rcases r with _ | _ | _ | _ | _ | _ | _ | _ | _ | _ | r <;> simp [ff_N, ez_up]
theorem ff_N_wt (M : ez_M) (k : Nat) (v : Int) : ff_N (ez_up M 8 k v) = ez_up (ff_N M) 6 k v := by
  funext r j
  rcases r with _ | _ | _ | _ | _ | _ | _ | _ | _ | _ | r <;> simp [ff_N, ez_up]
theorem ff_N_fld (M : ez_M) (k : Nat) (v : Int) (h : ¬ k = 2 ∧ ¬ k = 3 ∧ ¬ k = 5 ∧ ¬ k = 7 ∧ ¬ k = 13) : ff_N (ez_up M 0 k v) = ff_N M := by
  obtain ⟨h1, h2, h3, h4, h5⟩ := h
  have g1 : ¬ 2 = k := by omega
  have g2 : ¬ 3 = k := by omega
  have g3 : ¬ 5 = k := by omega
  have g4 : ¬ 7 = k := by omega
  have g5 : ¬ 13 = k := by omega
  funext r j
  rcases r with _ | _ | _ | _ | _ | _ | _ | _ | _ | _ | r <;> simp [ff_N, ez_up, g1, g2, g3, g4, g5]
theorem ff_N_th (M : ez_M) : ff_N (ez_up M 0 0 0) = ff_N M := ff_N_fld M 0 0 (by decide)
theorem ff_N_scr (M : ez_M) (q k : Nat) (v : Int) (h : q = 5 ∨ q = 6 ∨ 12 ≤ q) : ff_N (ez_up M q k v) = ff_N M := by
  have a0 : ¬ 0 = q := by omega
  have a1 : ¬ 1 = q := by omega
  have a2 : ¬ 2 = q := by omega
  have a3 : ¬ 3 = q := by omega
  have a4 : ¬ 4 = q := by omega
  have a7 : ¬ 7 = q := by omega
  have a8 : ¬ 8 = q := by omega
  have a9 : ¬ 9 = q := by omega
  have a10 : ¬ 10 = q := by omega
  have a11 : ¬ 11 = q := by omega
  funext r j
  rcases r with _ | _ | _ | _ | _ | _ | _ | _ | _ | _ | r <;> simp [ff_N, ez_up, a0, a1, a2, a3, a4, a7, a8, a9, a10, a11]
def sp_X6_in : ez_Sp := fun as M Q => match as with | [.inr (.inl v), .inr (.inl a), .inr (.inl b)] => ((a ≤ v ∧ v ≤ b) → Q (some (.inl 1)) M) ∧ (¬ (a ≤ v ∧ v ≤ b) → Q (some (.inl 0)) M) | _ => False
def e_X6_in : ez_E := (fl_X6, co_X6, [], 1, 6)
set_option maxHeartbeats 4000000 in
set_option maxRecDepth 100000 in
theorem b_X6_in : ez_Body LM e_X6_in p_X6_in sp_X6_in := by
  intro as M Q has hM hsp
  unfold sp_X6_in at hsp
  split at hsp
  rotate_left
  · exact hsp.elim
  rename_i v a b
  have g_v : -9223372036854775808 ≤ v ∧ v ≤ 9223372036854775807 := ez_hd (has)
  have g_a : -9223372036854775808 ≤ a ∧ a ≤ 9223372036854775807 := ez_hd (ez_tl (has))
  have g_b : -9223372036854775808 ≤ b ∧ b ≤ 9223372036854775807 := ez_hd (ez_tl (ez_tl (has)))
  refine ⟨Nat.le_of_ble_eq_true rfl, fun cut hcut hkut => hcut [] 60 0 _ _ _ ?_⟩
  repeat' (first | (intro hh; exfalso; omega) | (refine And.intro (by first | assumption | omega) ?_) | (refine And.intro rfl ?_) | (refine And.intro ?_ ?_) | (intro qq hq1 hq2 hq3; have hq4 := hq2 (by omega) (by omega); subst hq4) | (intro hh) | omega | exact trivial)
  all_goals first | exact hsp.1 (by omega) | exact hsp.2 (by omega)
theorem so_X6_in : ez_Sound LM yX6_in cX6_in 6 (some .boolean) 0 sp_X6_in := ez_sound (E := e_X6_in) (prog := p_X6_in) LM_ok (by decide +kernel) rfl (fun _ h => h) fo_X6 co_X6_ok (fun _ h => absurd h List.not_mem_nil) dp_X6_in b_X6_in
theorem k_X6_69 {d : Nat} (h : 0 < d) : ez_CallOK LM RX6 d (69, 0, 3, sp_X6_in) := ez_callS (y := yX6_in) (bytes := cX6_in) so_X6_in h (by decide) q_763 q_78 ⟨by decide +kernel, by decide +kernel, by decide +kernel⟩ (Or.inl q_761) q_762
def sp_X6_noDegree : ez_Sp := fun as M Q => match as with | [.inl v] => ((0 ≤ v ∧ v ≤ 359) → Q (some (.inl 0)) M) ∧ (¬ (0 ≤ v ∧ v ≤ 359) → Q (some (.inl 1)) M) | _ => False
def e_X6_noDegree : ez_E := (fl_X6, co_X6, [(69, 0, 3, sp_X6_in)], 1, 1)
set_option maxHeartbeats 4000000 in
set_option maxRecDepth 100000 in
theorem b_X6_noDegree : ez_Body LM e_X6_noDegree p_X6_noDegree sp_X6_noDegree := by
  intro as M Q has hM hsp
  unfold sp_X6_noDegree at hsp
  split at hsp
  rotate_left
  · exact hsp.elim
  rename_i v
  have g_v : -2147483648 ≤ v ∧ v ≤ 2147483647 := ez_hd (has)
  refine ⟨Nat.le_of_ble_eq_true rfl, fun cut hcut hkut => hcut [] 60 0 _ _ _ ?_⟩
  repeat' (first | (intro hh; exfalso; omega) | (refine And.intro (by first | assumption | omega) ?_) | (refine And.intro rfl ?_) | (refine And.intro ?_ ?_) | (intro qq hq1 hq2 hq3; have hq4 := hq2 (by omega) (by omega); subst hq4) | (intro hh) | omega | exact trivial)
  all_goals first | exact hsp.1 (by omega) | exact hsp.2 (by omega)
theorem so_X6_noDegree : ez_Sound LM yX6_noDegree cX6_noDegree 1 (some .boolean) 1 sp_X6_noDegree := ez_sound (E := e_X6_noDegree) (prog := p_X6_noDegree) LM_ok (by decide +kernel) rfl (fun _ h => h) fo_X6 co_X6_ok (List.forall_mem_cons.mpr ⟨k_X6_69 (by decide), fun _ h => absurd h List.not_mem_nil⟩) dp_X6_noDegree b_X6_noDegree
def sp_X6_noYear : ez_Sp := fun as M Q => match as with | [.inl v] => ((0 ≤ v ∧ v ≤ 599) → Q (some (.inl 0)) M) ∧ (¬ (0 ≤ v ∧ v ≤ 599) → Q (some (.inl 1)) M) | _ => False
def e_X6_noYear : ez_E := (fl_X6, co_X6, [(69, 0, 3, sp_X6_in)], 1, 1)
set_option maxHeartbeats 4000000 in
set_option maxRecDepth 100000 in
theorem b_X6_noYear : ez_Body LM e_X6_noYear p_X6_noYear sp_X6_noYear := by
  intro as M Q has hM hsp
  unfold sp_X6_noYear at hsp
  split at hsp
  rotate_left
  · exact hsp.elim
  rename_i v
  have g_v : -2147483648 ≤ v ∧ v ≤ 2147483647 := ez_hd (has)
  refine ⟨Nat.le_of_ble_eq_true rfl, fun cut hcut hkut => hcut [] 60 0 _ _ _ ?_⟩
  repeat' (first | (intro hh; exfalso; omega) | (refine And.intro (by first | assumption | omega) ?_) | (refine And.intro rfl ?_) | (refine And.intro ?_ ?_) | (intro qq hq1 hq2 hq3; have hq4 := hq2 (by omega) (by omega); subst hq4) | (intro hh) | omega | exact trivial)
  all_goals first | exact hsp.1 (by omega) | exact hsp.2 (by omega)
theorem so_X6_noYear : ez_Sound LM yX6_noYear cX6_noYear 1 (some .boolean) 1 sp_X6_noYear := ez_sound (E := e_X6_noYear) (prog := p_X6_noYear) LM_ok (by decide +kernel) rfl (fun _ h => h) fo_X6 co_X6_ok (List.forall_mem_cons.mpr ⟨k_X6_69 (by decide), fun _ h => absurd h List.not_mem_nil⟩) dp_X6_noYear b_X6_noYear
def sp_X6_noDay : ez_Sp := fun as M Q => match as with | [.inl v] => ((0 ≤ v ∧ v ≤ 363) → Q (some (.inl 0)) M) ∧ (¬ (0 ≤ v ∧ v ≤ 363) → Q (some (.inl 1)) M) | _ => False
def e_X6_noDay : ez_E := (fl_X6, co_X6, [(69, 0, 3, sp_X6_in)], 1, 1)
set_option maxHeartbeats 4000000 in
set_option maxRecDepth 100000 in
theorem b_X6_noDay : ez_Body LM e_X6_noDay p_X6_noDay sp_X6_noDay := by
  intro as M Q has hM hsp
  unfold sp_X6_noDay at hsp
  split at hsp
  rotate_left
  · exact hsp.elim
  rename_i v
  have g_v : -2147483648 ≤ v ∧ v ≤ 2147483647 := ez_hd (has)
  refine ⟨Nat.le_of_ble_eq_true rfl, fun cut hcut hkut => hcut [] 60 0 _ _ _ ?_⟩
  repeat' (first | (intro hh; exfalso; omega) | (refine And.intro (by first | assumption | omega) ?_) | (refine And.intro rfl ?_) | (refine And.intro ?_ ?_) | (intro qq hq1 hq2 hq3; have hq4 := hq2 (by omega) (by omega); subst hq4) | (intro hh) | omega | exact trivial)
  all_goals first | exact hsp.1 (by omega) | exact hsp.2 (by omega)
theorem so_X6_noDay : ez_Sound LM yX6_noDay cX6_noDay 1 (some .boolean) 1 sp_X6_noDay := ez_sound (E := e_X6_noDay) (prog := p_X6_noDay) LM_ok (by decide +kernel) rfl (fun _ h => h) fo_X6 co_X6_ok (List.forall_mem_cons.mpr ⟨k_X6_69 (by decide), fun _ h => absurd h List.not_mem_nil⟩) dp_X6_noDay b_X6_noDay
def sp_X6_noLand : ez_Sp := fun as M Q => match as with | [.inl v] => ((0 ≤ v ∧ v ≤ 3) → Q (some (.inl 0)) M) ∧ (¬ (0 ≤ v ∧ v ≤ 3) → Q (some (.inl 1)) M) | _ => False
def e_X6_noLand : ez_E := (fl_X6, co_X6, [(69, 0, 3, sp_X6_in)], 1, 1)
set_option maxHeartbeats 4000000 in
set_option maxRecDepth 100000 in
theorem b_X6_noLand : ez_Body LM e_X6_noLand p_X6_noLand sp_X6_noLand := by
  intro as M Q has hM hsp
  unfold sp_X6_noLand at hsp
  split at hsp
  rotate_left
  · exact hsp.elim
  rename_i v
  have g_v : -2147483648 ≤ v ∧ v ≤ 2147483647 := ez_hd (has)
  refine ⟨Nat.le_of_ble_eq_true rfl, fun cut hcut hkut => hcut [] 60 0 _ _ _ ?_⟩
  repeat' (first | (intro hh; exfalso; omega) | (refine And.intro (by first | assumption | omega) ?_) | (refine And.intro rfl ?_) | (refine And.intro ?_ ?_) | (intro qq hq1 hq2 hq3; have hq4 := hq2 (by omega) (by omega); subst hq4) | (intro hh) | omega | exact trivial)
  all_goals first | exact hsp.1 (by omega) | exact hsp.2 (by omega)
theorem so_X6_noLand : ez_Sound LM yX6_noLand cX6_noLand 1 (some .boolean) 1 sp_X6_noLand := ez_sound (E := e_X6_noLand) (prog := p_X6_noLand) LM_ok (by decide +kernel) rfl (fun _ h => h) fo_X6 co_X6_ok (List.forall_mem_cons.mpr ⟨k_X6_69 (by decide), fun _ h => absurd h List.not_mem_nil⟩) dp_X6_noLand b_X6_noLand
def sp_X6_noRule : ez_Sp := fun as M Q => match as with | [.inl v] => ((0 ≤ v ∧ v ≤ 5) → Q (some (.inl 0)) M) ∧ (¬ (0 ≤ v ∧ v ≤ 5) → Q (some (.inl 1)) M) | _ => False
def e_X6_noRule : ez_E := (fl_X6, co_X6, [(69, 0, 3, sp_X6_in)], 1, 1)
set_option maxHeartbeats 4000000 in
set_option maxRecDepth 100000 in
theorem b_X6_noRule : ez_Body LM e_X6_noRule p_X6_noRule sp_X6_noRule := by
  intro as M Q has hM hsp
  unfold sp_X6_noRule at hsp
  split at hsp
  rotate_left
  · exact hsp.elim
  rename_i v
  have g_v : -2147483648 ≤ v ∧ v ≤ 2147483647 := ez_hd (has)
  refine ⟨Nat.le_of_ble_eq_true rfl, fun cut hcut hkut => hcut [] 60 0 _ _ _ ?_⟩
  repeat' (first | (intro hh; exfalso; omega) | (refine And.intro (by first | assumption | omega) ?_) | (refine And.intro rfl ?_) | (refine And.intro ?_ ?_) | (intro qq hq1 hq2 hq3; have hq4 := hq2 (by omega) (by omega); subst hq4) | (intro hh) | omega | exact trivial)
  all_goals first | exact hsp.1 (by omega) | exact hsp.2 (by omega)
theorem so_X6_noRule : ez_Sound LM yX6_noRule cX6_noRule 1 (some .boolean) 1 sp_X6_noRule := ez_sound (E := e_X6_noRule) (prog := p_X6_noRule) LM_ok (by decide +kernel) rfl (fun _ h => h) fo_X6 co_X6_ok (List.forall_mem_cons.mpr ⟨k_X6_69 (by decide), fun _ h => absurd h List.not_mem_nil⟩) dp_X6_noRule b_X6_noRule
def sp_X6_noChurch : ez_Sp := fun as M Q => match as with | [.inr (.inr q), .inl v] => q = 0 ∧ (0 ≤ M 0 13 ∧ M 0 13 ≤ 10) ∧ ((0 ≤ v ∧ v < M 0 13) → Q (some (.inl 0)) M) ∧ (¬ (0 ≤ v ∧ v < M 0 13) → Q (some (.inl 1)) M) | _ => False
def e_X6_noChurch : ez_E := (fl_X6, co_X6, [(69, 0, 3, sp_X6_in)], 1, 2)
set_option maxHeartbeats 4000000 in
set_option maxRecDepth 100000 in
theorem b_X6_noChurch : ez_Body LM e_X6_noChurch p_X6_noChurch sp_X6_noChurch := by
  intro as M Q has hM hsp
  unfold sp_X6_noChurch at hsp
  split at hsp
  rotate_left
  · exact hsp.elim
  rename_i q v
  have g_v : -2147483648 ≤ v ∧ v ≤ 2147483647 := ez_hd (ez_tl (has))
  obtain ⟨rfl, hn, hsp⟩ := hsp
  refine ⟨Nat.le_of_ble_eq_true rfl, fun cut hcut hkut => hcut [] 60 0 _ _ _ ?_⟩
  repeat' (first | (intro hh; exfalso; omega) | (refine And.intro (by first | assumption | omega) ?_) | (refine And.intro rfl ?_) | (refine And.intro ?_ ?_) | (intro qq hq1 hq2 hq3; have hq4 := hq2 (by omega) (by omega); subst hq4) | (intro hh) | omega | exact trivial)
  all_goals first | exact hsp.1 (by omega) | exact hsp.2 (by omega)
theorem so_X6_noChurch : ez_Sound LM yX6_noChurch cX6_noChurch 2 (some .boolean) 1 sp_X6_noChurch := ez_sound (E := e_X6_noChurch) (prog := p_X6_noChurch) LM_ok (by decide +kernel) rfl (fun _ h => h) fo_X6 co_X6_ok (List.forall_mem_cons.mpr ⟨k_X6_69 (by decide), fun _ h => absurd h List.not_mem_nil⟩) dp_X6_noChurch b_X6_noChurch
def sp_X6_offOf : ez_Sp := fun as M Q => match as with | [.inl a, .inl b] => (-100000 ≤ a ∧ a ≤ 100000 ∧ -100000 ≤ b ∧ b ≤ 100000) ∧ Q (some (.inl (ff_off a b))) M | _ => False
def e_X6_offOf : ez_E := (fl_X6, co_X6, [], 0, 3)
set_option maxHeartbeats 4000000 in
set_option maxRecDepth 100000 in
theorem b_X6_offOf : ez_Body LM e_X6_offOf p_X6_offOf sp_X6_offOf := by
  intro as M Q has hM hsp
  unfold sp_X6_offOf at hsp
  split at hsp
  rotate_left
  · exact hsp.elim
  rename_i a b
  have g_a : -2147483648 ≤ a ∧ a ≤ 2147483647 := ez_hd (has)
  have g_b : -2147483648 ≤ b ∧ b ≤ 2147483647 := ez_hd (ez_tl (has))
  refine ⟨Nat.le_of_ble_eq_true rfl, fun cut hcut hkut => hcut [] 60 0 _ _ _ ?_⟩
  obtain ⟨hv, hsp⟩ := hsp
  unfold ff_off at hsp
  repeat' (first | (intro hh; exfalso; omega) | (refine And.intro (by first | assumption | omega) ?_) | (refine And.intro rfl ?_) | (refine And.intro ?_ ?_) | (intro qq hq1 hq2 hq3; have hq4 := hq2 (by omega) (by omega); subst hq4) | (intro hh) | omega | exact trivial)
  all_goals exact ez_ret hsp (by omega)
theorem so_X6_offOf : ez_Sound LM yX6_offOf cX6_offOf 3 (some .int) 0 sp_X6_offOf := ez_sound (E := e_X6_offOf) (prog := p_X6_offOf) LM_ok (by decide +kernel) rfl (fun _ h => h) fo_X6 co_X6_ok (fun _ h => absurd h List.not_mem_nil) dp_X6_offOf b_X6_offOf
def sp_X6_sunOf : ez_Sp := fun as M Q => match as with | [.inl d] => (0 ≤ d ∧ d ≤ 363) ∧ Q (some (.inl (ff_sun d))) M | _ => False
def e_X6_sunOf : ez_E := (fl_X6, co_X6, [], 0, 3)
set_option maxHeartbeats 4000000 in
set_option maxRecDepth 100000 in
theorem b_X6_sunOf : ez_Body LM e_X6_sunOf p_X6_sunOf sp_X6_sunOf := by
  intro as M Q has hM hsp
  unfold sp_X6_sunOf at hsp
  split at hsp
  rotate_left
  · exact hsp.elim
  rename_i d
  have g_d : -2147483648 ≤ d ∧ d ≤ 2147483647 := ez_hd (has)
  refine ⟨Nat.le_of_ble_eq_true rfl, fun cut hcut hkut => hcut [] 60 0 _ _ _ ?_⟩
  obtain ⟨hv, hsp⟩ := hsp
  unfold ff_sun at hsp
  repeat' (first | (intro hh; exfalso; omega) | (refine And.intro (by first | assumption | omega) ?_) | (refine And.intro rfl ?_) | (refine And.intro ?_ ?_) | (intro qq hq1 hq2 hq3; have hq4 := hq2 (by omega) (by omega); subst hq4) | (intro hh) | omega | exact trivial)
  all_goals exact ez_ret hsp (by omega)
theorem so_X6_sunOf : ez_Sound LM yX6_sunOf cX6_sunOf 3 (some .int) 0 sp_X6_sunOf := ez_sound (E := e_X6_sunOf) (prog := p_X6_sunOf) LM_ok (by decide +kernel) rfl (fun _ h => h) fo_X6 co_X6_ok (fun _ h => absurd h List.not_mem_nil) dp_X6_sunOf b_X6_sunOf
theorem k_X6_95 {d : Nat} (h : 0 < d) : ez_CallOK LM RX6 d (95, 0, 1, sp_X6_sunOf) := ez_callS (y := yX6_sunOf) (bytes := cX6_sunOf) so_X6_sunOf h (by decide) q_777 q_78 ⟨by decide +kernel, by decide +kernel, by decide +kernel⟩ (Or.inl q_775) q_776
def sp_X6_riseOf : ez_Sp := fun as M Q => match as with | [.inr (.inr q), .inl l, .inl d] => q = 0 ∧ (0 ≤ l ∧ l ≤ 3) ∧ (0 ≤ d ∧ d ≤ 363) ∧ (∀ j, 0 ≤ M 1 j ∧ M 1 j ≤ 9) ∧ Q (some (.inl (ff_rise (M 1) l d))) M | _ => False
def e_X6_riseOf : ez_E := (fl_X6, co_X6, [(95, 0, 1, sp_X6_sunOf)], 0, 5)
set_option maxHeartbeats 4000000 in
set_option maxRecDepth 100000 in
theorem b_X6_riseOf : ez_Body LM e_X6_riseOf p_X6_riseOf sp_X6_riseOf := by
  intro as M Q has hM hsp
  unfold sp_X6_riseOf at hsp
  split at hsp
  rotate_left
  · exact hsp.elim
  rename_i q l d
  have g_l : -2147483648 ≤ l ∧ l ≤ 2147483647 := ez_hd (ez_tl (has))
  have g_d : -2147483648 ≤ d ∧ d ≤ 2147483647 := ez_hd (ez_tl (ez_tl (has)))
  obtain ⟨rfl, hv, hd, hh, hsp⟩ := hsp
  refine ⟨Nat.le_of_ble_eq_true rfl, fun cut hcut hkut => ?_⟩
  have loop : ∀ (n : Nat) (s z : Int), z + n = 9 → 0 ≤ z → 50 ≤ s → s ≤ 130 → Q (some (.inl (s + ff_zz (M 1) l s n z))) M → cut 8 [(0, .inr (.inr 0)), (1, .inl l), (3, .inl s), (4, .inl z)] [] M := by
    intro n
    induction n with
    | zero =>
      intro s z hz h0 hs0 hs1 hq
      have hhz := hh (36 * l + (s + z) % 360 / 10).toNat
      refine hkut [(8, [0, 1, 3, 4])] 60 8 _ _ _ ?_
      simp only [ff_zz] at hq
      repeat' (first | (intro hh; exfalso; omega) | (refine And.intro (by first | assumption | omega) ?_) | (refine And.intro rfl ?_) | (refine And.intro ?_ ?_) | (intro qq hq1 hq2 hq3; have hq4 := hq2 (by omega) (by omega); subst hq4) | (intro hh) | omega | exact trivial)
      all_goals exact ez_ret hq (by omega)
    | succ n ih =>
      intro s z hz h0 hs0 hs1 hq
      refine hkut [(8, [0, 1, 3, 4])] 60 8 _ _ _ ?_
      simp only [ff_zz] at hq
      have he : s + z = (s + z) % 360 := by omega
      rw [he] at hq
      split at hq
      · (repeat' (first | (intro hh; exfalso; omega) | (refine And.intro (by first | assumption | omega) ?_) | (refine And.intro rfl ?_) | (refine And.intro ?_ ?_) | (intro qq hq1 hq2 hq3; have hq4 := hq2 (by omega) (by omega); subst hq4) | (intro hh) | omega | exact trivial))
        all_goals exact ih s (z + 1) (by omega) (by omega) hs0 hs1 hq
      · (repeat' (first | (intro hh; exfalso; omega) | (refine And.intro (by first | assumption | omega) ?_) | (refine And.intro rfl ?_) | (refine And.intro ?_ ?_) | (intro qq hq1 hq2 hq3; have hq4 := hq2 (by omega) (by omega); subst hq4) | (intro hh) | omega | exact trivial))
        all_goals exact ez_ret hq (by omega)
  refine hkut [(8, [0, 1, 3, 4])] 60 0 _ _ _ ?_
  have hr := ff_sun_r hd.1 hd.2
  repeat' (first | (intro hh; exfalso; omega) | (refine And.intro (by first | assumption | omega) ?_) | (refine And.intro rfl ?_) | (refine And.intro ?_ ?_) | (intro qq hq1 hq2 hq3; have hq4 := hq2 (by omega) (by omega); subst hq4) | (intro hh) | omega | exact trivial)
  all_goals exact loop 9 _ 0 (by omega) (by omega) hr.1 hr.2 hsp
theorem so_X6_riseOf : ez_Sound LM yX6_riseOf cX6_riseOf 5 (some .int) 1 sp_X6_riseOf := ez_sound (E := e_X6_riseOf) (prog := p_X6_riseOf) LM_ok (by decide +kernel) rfl (fun _ h => h) fo_X6 co_X6_ok (List.forall_mem_cons.mpr ⟨k_X6_95 (by decide), fun _ h => absurd h List.not_mem_nil⟩) dp_X6_riseOf b_X6_riseOf
def sp_X6_dayOf : ez_Sp := fun as M Q => match as with | [.inr (.inr q), .inl d, .inl y] => q = 0 ∧ (0 ≤ y ∧ y ≤ 599) ∧ (0 ≤ d ∧ d ≤ 363) ∧ Q (some (.inl (ff_day (M 0 2) d y))) M | _ => False
def e_X6_dayOf : ez_E := (fl_X6, co_X6, [], 0, 3)
set_option maxHeartbeats 4000000 in
set_option maxRecDepth 100000 in
theorem b_X6_dayOf : ez_Body LM e_X6_dayOf p_X6_dayOf sp_X6_dayOf := by
  intro as M Q has hM hsp
  unfold sp_X6_dayOf at hsp
  split at hsp
  rotate_left
  · exact hsp.elim
  rename_i q d y
  have g_d : -2147483648 ≤ d ∧ d ≤ 2147483647 := ez_hd (ez_tl (has))
  have g_y : -2147483648 ≤ y ∧ y ≤ 2147483647 := ez_hd (ez_tl (ez_tl (has)))
  obtain ⟨rfl, hv, hd, hsp⟩ := hsp
  unfold ff_day at hsp
  refine ⟨Nat.le_of_ble_eq_true rfl, fun cut hcut hkut => hcut [] 60 0 _ _ _ ?_⟩
  split at hsp
  · (repeat' (first | (intro hh; exfalso; omega) | (refine And.intro (by first | assumption | omega) ?_) | (refine And.intro rfl ?_) | (refine And.intro ?_ ?_) | (intro qq hq1 hq2 hq3; have hq4 := hq2 (by omega) (by omega); subst hq4) | (intro hh) | omega | exact trivial))
    all_goals exact hsp
  · (repeat' (first | (intro hh; exfalso; omega) | (refine And.intro (by first | assumption | omega) ?_) | (refine And.intro rfl ?_) | (refine And.intro ?_ ?_) | (intro qq hq1 hq2 hq3; have hq4 := hq2 (by omega) (by omega); subst hq4) | (intro hh) | omega | exact trivial))
    all_goals exact hsp
theorem so_X6_dayOf : ez_Sound LM yX6_dayOf cX6_dayOf 3 (some .int) 0 sp_X6_dayOf := ez_sound (E := e_X6_dayOf) (prog := p_X6_dayOf) LM_ok (by decide +kernel) rfl (fun _ h => h) fo_X6 co_X6_ok (fun _ h => absurd h List.not_mem_nil) dp_X6_dayOf b_X6_dayOf
theorem k_X6_84 {d : Nat} (h : 1 < d) : ez_CallOK LM RX6 d (84, 0, 1, sp_X6_noDegree) := ez_callS (y := yX6_noDegree) (bytes := cX6_noDegree) so_X6_noDegree h (by decide) q_759 q_78 ⟨by decide +kernel, by decide +kernel, by decide +kernel⟩ (Or.inl q_757) q_758
theorem k_X6_88 {d : Nat} (h : 0 < d) : ez_CallOK LM RX6 d (88, 0, 2, sp_X6_offOf) := ez_callS (y := yX6_offOf) (bytes := cX6_offOf) so_X6_offOf h (by decide) q_766 q_78 ⟨by decide +kernel, by decide +kernel, by decide +kernel⟩ (Or.inl q_764) q_765
def sp_X6_off : ez_Sp := fun as M Q => match as with | [.inr (.inr q), .inl a, .inl b] => q = 0 ∧ ff_Inv (ff_N M) ∧ (∀ M' : ez_M, ff_N M' = ff_N M → Q (some (.inl (op_off (ff_N M) a b))) M') | _ => False
def e_X6_off : ez_E := (fl_X6, co_X6, [(84, 0, 1, sp_X6_noDegree), (88, 0, 2, sp_X6_offOf)], 0, 3)
set_option maxHeartbeats 4000000 in
set_option maxRecDepth 100000 in
theorem b_X6_off : ez_Body LM e_X6_off p_X6_off sp_X6_off := by
  intro as M Q has hM hsp
  unfold sp_X6_off at hsp
  split at hsp
  rotate_left
  · exact hsp.elim
  rename_i q a b
  have g_a : -2147483648 ≤ a ∧ a ≤ 2147483647 := ez_hd (ez_tl (has))
  have g_b : -2147483648 ≤ b ∧ b ≤ 2147483647 := ez_hd (ez_tl (ez_tl (has)))
  obtain ⟨rfl, hI, hsp⟩ := hsp
  refine ⟨Nat.le_of_ble_eq_true rfl, fun cut hcut hkut => ?_⟩
  suffices hgo : ∀ M' : ez_M, ff_N M' = ff_N M → cut 5 [(0, .inr (.inr 0)), (1, .inl a), (2, .inl b)] [] M' by
    refine hkut [(5, [0, 1, 2])] 60 0 _ _ _ ?_
    exact hgo _ (ff_N_th M)
  clear hM
  intro M hth
  rw [← hth] at hI hsp
  clear hth
  have hn := ff_n_N hI
  unfold op_off at hsp
  have hsp := hsp M rfl
  refine hkut [] 60 5 _ _ _ ?_
  split at hsp <;> (repeat' (first | (intro hh; exfalso; omega) | (refine And.intro (by first | assumption | omega) ?_) | (refine And.intro rfl ?_) | (refine And.intro ?_ ?_) | (intro qq hq1 hq2 hq3; have hq4 := hq2 (by omega) (by omega); subst hq4) | (intro hh) | omega | exact trivial))
  all_goals exact hsp
theorem so_X6_off : ez_Sound LM yX6_off cX6_off 3 (some .int) 2 sp_X6_off := ez_sound (E := e_X6_off) (prog := p_X6_off) LM_ok (by decide +kernel) rfl (fun _ h => h) fo_X6 co_X6_ok (List.forall_mem_cons.mpr ⟨k_X6_84 (by decide), List.forall_mem_cons.mpr ⟨k_X6_88 (by decide), fun _ h => absurd h List.not_mem_nil⟩⟩) dp_X6_off b_X6_off
