/-! ===== what there is to know of a state, whichever class holds it ===== -/
abbrev ff_S : Type := Nat → Nat → Int
/-- the hill that is met: z from z on, n more at most -/
def ff_zz (h : Nat → Int) (l s : Int) : Nat → Int → Int
  | 0, z => z
  | n + 1, z => if z < h (36 * l + (s + z) / 10).toNat then ff_zz h l s n (z + 1) else z
def ff_rise (h : Nat → Int) (l d : Int) : Int := ff_sun d + ff_zz h l (ff_sun d) 9 0
theorem ff_zz_r (h : Nat → Int) (l s : Int) : ∀ (n : Nat) (z : Int), z ≤ ff_zz h l s n z ∧ ff_zz h l s n z ≤ z + n
  | 0, z => by simp [ff_zz]
  | n + 1, z => by
    have := ff_zz_r h l s n (z + 1)
    simp only [ff_zz]
    split <;> omega
theorem ff_rise_r {h : Nat → Int} {l d : Int} (h0 : 0 ≤ d) (h1 : d ≤ 363) : 50 ≤ ff_rise h l d ∧ ff_rise h l d ≤ 139 := by
  have h2 := ff_sun_r h0 h1
  have h3 := ff_zz_r h l (ff_sun d) 9 0
  unfold ff_rise
  omega
/-- the day of a date in a year, by the switch sw -/
def ff_day (sw date y : Int) : Int := if y < sw then (date + y / 120) % 364 else date
theorem ff_day_r {sw date y : Int} (h0 : 0 ≤ date) (h1 : date ≤ 363) : 0 ≤ ff_day sw date y ∧ ff_day sw date y ≤ 363 := by
  unfold ff_day
  split <;> omega
theorem k_X4_29 {d : Nat} (h : 0 < d) : ez_CallOK LX RX4 d (29, 0, 2, sp_X5_at) := ez_callS (y := yX5_at) (bytes := cX5_at) so_X5_at h (by decide) q_259 q_72 ⟨by decide +kernel, by decide +kernel, by decide +kernel⟩ (Or.inr ⟨"EastNearly", q_257⟩) q_258
theorem k_X4_33 {d : Nat} (h : 0 < d) : ez_CallOK LX RX4 d (33, 0, 3, sp_X5_put) := ez_callS (y := yX5_put) (bytes := cX5_put) so_X5_put h (by decide) q_183 q_72 ⟨by decide +kernel, by decide +kernel, by decide +kernel⟩ (Or.inr ⟨"EastNearly", q_260⟩) q_182
def sp_X4_setHeight : ez_Sp := fun as M Q => match as with | [.inr (.inr q), .inl l, .inl t, .inl h] => q = 1 ∧ (0 ≤ l ∧ l ≤ 3 ∧ 0 ≤ t ∧ t ≤ 35) ∧ Q (some (.inl (M 2 (36 * l + t).toNat))) (ez_up M 2 (36 * l + t).toNat h) | _ => False
def e_X4_setHeight : ez_E := (fl_X4, co_X4, [(29, 0, 2, sp_X5_at), (33, 0, 3, sp_X5_put)], 0, 5)
set_option maxHeartbeats 4000000 in
set_option maxRecDepth 100000 in
theorem b_X4_setHeight : ez_Body LX e_X4_setHeight p_X4_setHeight sp_X4_setHeight := by
  intro as M Q has hM hsp
  unfold sp_X4_setHeight at hsp
  split at hsp
  rotate_left
  · exact hsp.elim
  rename_i q l t h
  have g_l : -2147483648 ≤ l ∧ l ≤ 2147483647 := ez_hd (ez_tl (has))
  have g_t : -2147483648 ≤ t ∧ t ≤ 2147483647 := ez_hd (ez_tl (ez_tl (has)))
  have g_h : -2147483648 ≤ h ∧ h ≤ 2147483647 := ez_hd (ez_tl (ez_tl (ez_tl (has))))
  obtain ⟨rfl, hv, hsp⟩ := hsp
  rw [Int.mul_comm 36 l] at hsp
  refine ⟨Nat.le_of_ble_eq_true rfl, fun cut hcut hkut => hcut [] 60 0 _ _ _ ?_⟩
  repeat' (first | (intro hh; exfalso; omega) | (refine And.intro (by first | assumption | omega) ?_) | (refine And.intro rfl ?_) | (refine And.intro ?_ ?_) | (intro qq hq1 hq2 hq3; have hq4 := hq2 (by omega) (by omega); subst hq4) | (intro hh) | exact trivial)
  all_goals exact hsp
theorem so_X4_setHeight : ez_Sound LX yX4_setHeight cX4_setHeight 5 (some .int) 1 sp_X4_setHeight := ez_sound (E := e_X4_setHeight) (prog := p_X4_setHeight) LX_ok (by decide +kernel) rfl (fun _ h => h) fo_X4 co_X4_ok (List.forall_mem_cons.mpr ⟨k_X4_29 (by decide), List.forall_mem_cons.mpr ⟨k_X4_33 (by decide), fun _ h => absurd h List.not_mem_nil⟩⟩) dp_X4_setHeight b_X4_setHeight
theorem k_X4_37 {d : Nat} (h : 1 < d) : ez_CallOK LX RX4 d (37, 0, 1, sp_X5_isLand) := ez_callS (y := yX5_isLand) (bytes := cX5_isLand) so_X5_isLand h (by decide) q_252 q_72 ⟨by decide +kernel, by decide +kernel, by decide +kernel⟩ (Or.inr ⟨"EastNearly", q_269⟩) q_251
theorem k_X4_41 {d : Nat} (h : 1 < d) : ez_CallOK LX RX4 d (41, 0, 1, sp_X5_isDay) := ez_callS (y := yX5_isDay) (bytes := cX5_isDay) so_X5_isDay h (by decide) q_240 q_72 ⟨by decide +kernel, by decide +kernel, by decide +kernel⟩ (Or.inr ⟨"EastNearly", q_270⟩) q_239
theorem k_X4_44 {d : Nat} (h : 1 < d) : ez_CallOK LX RX4 d (44, 0, 1, sp_X4_sunAt) := ez_callS (y := yX4_sunAt) (bytes := cX4_sunAt) so_X4_sunAt h (by decide) q_243 q_73 ⟨by decide +kernel, by decide +kernel, by decide +kernel⟩ (Or.inl q_271) q_242
def sp_X4_riseAt : ez_Sp := fun as M Q => match as with | [.inr (.inr q), .inl l, .inl d] => q = 1 ∧ (0 ≤ l ∧ l ≤ 3) ∧ (d = -9 → Q (some (.inl (-9))) M) ∧ ((0 ≤ d ∧ d ≤ 363) → Q (some (.inl (ff_rise (M 2) l d))) M) ∧ (d = -9 ∨ (0 ≤ d ∧ d ≤ 363)) | _ => False
def e_X4_riseAt : ez_E := (fl_X4, co_X4, [(37, 0, 1, sp_X5_isLand), (41, 0, 1, sp_X5_isDay), (44, 0, 1, sp_X4_sunAt), (29, 0, 2, sp_X5_at)], 0, 5)
set_option maxHeartbeats 4000000 in
set_option maxRecDepth 100000 in
theorem b_X4_riseAt : ez_Body LX e_X4_riseAt p_X4_riseAt sp_X4_riseAt := by
  intro as M Q has hM hsp
  unfold sp_X4_riseAt at hsp
  split at hsp
  rotate_left
  · exact hsp.elim
  rename_i q l d
  have g_l : -2147483648 ≤ l ∧ l ≤ 2147483647 := ez_hd (ez_tl (has))
  have g_d : -2147483648 ≤ d ∧ d ≤ 2147483647 := ez_hd (ez_tl (ez_tl (has)))
  obtain ⟨rfl, hv, hs1, hs2, hd⟩ := hsp
  refine ⟨Nat.le_of_ble_eq_true rfl, fun cut hcut hkut => ?_⟩
  have loop : ∀ (n : Nat) (s z : Int), z + n = 9 → 0 ≤ z → 50 ≤ s → s ≤ 130 → Q (some (.inl (s + ff_zz (M 2) l s n z))) M → cut 25 [(4, .inl z), (3, .inl s), (0, .inr (.inr 1)), (1, .inl l), (2, .inl d)] [] M := by
    intro n
    induction n with
    | zero =>
      intro s z hz h0 hs0 hs1 hq
      refine hcut [25] 60 25 _ _ _ ?_
      simp only [ff_zz] at hq
      repeat' (first | (intro hh; exfalso; omega) | (refine And.intro (by first | assumption | omega) ?_) | (refine And.intro rfl ?_) | (refine And.intro ?_ ?_) | (intro qq hq1 hq2 hq3; have hq4 := hq2 (by omega) (by omega); subst hq4) | (intro hh) | exact trivial)
      all_goals exact hq
    | succ n ih =>
      intro s z hz h0 hs0 hs1 hq
      refine hcut [25] 60 25 _ _ _ ?_
      simp only [ff_zz] at hq
      rw [Int.mul_comm 36 l] at hq
      split at hq
      · (repeat' (first | (intro hh; exfalso; omega) | (refine And.intro (by first | assumption | omega) ?_) | (refine And.intro rfl ?_) | (refine And.intro ?_ ?_) | (intro qq hq1 hq2 hq3; have hq4 := hq2 (by omega) (by omega); subst hq4) | (intro hh) | exact trivial))
        all_goals exact ih s (z + 1) (by omega) (by omega) hs0 hs1 hq
      · (repeat' (first | (intro hh; exfalso; omega) | (refine And.intro (by first | assumption | omega) ?_) | (refine And.intro rfl ?_) | (refine And.intro ?_ ?_) | (intro qq hq1 hq2 hq3; have hq4 := hq2 (by omega) (by omega); subst hq4) | (intro hh) | exact trivial))
        all_goals exact hq
  refine hcut [25] 60 0 _ _ _ ?_
  rcases hd with rfl | hd
  · (repeat' (first | (intro hh; exfalso; omega) | (refine And.intro (by first | assumption | omega) ?_) | (refine And.intro rfl ?_) | (refine And.intro ?_ ?_) | (intro qq hq1 hq2 hq3; have hq4 := hq2 (by omega) (by omega); subst hq4) | (intro hh) | exact trivial))
    all_goals exact hs1 rfl
  · have hr := ff_sun_r hd.1 hd.2
    repeat' (first | (intro hh; exfalso; omega) | (refine And.intro (by first | assumption | omega) ?_) | (refine And.intro rfl ?_) | (refine And.intro ?_ ?_) | (intro qq hq1 hq2 hq3; have hq4 := hq2 (by omega) (by omega); subst hq4) | (intro hh) | exact trivial)
    all_goals exact loop 9 _ 0 (by omega) (by omega) hr.1 hr.2 (hs2 hd)
theorem so_X4_riseAt : ez_Sound LX yX4_riseAt cX4_riseAt 5 (some .int) 2 sp_X4_riseAt := ez_sound (E := e_X4_riseAt) (prog := p_X4_riseAt) LX_ok (by decide +kernel) rfl (fun _ h => h) fo_X4 co_X4_ok (List.forall_mem_cons.mpr ⟨k_X4_37 (by decide), List.forall_mem_cons.mpr ⟨k_X4_41 (by decide), List.forall_mem_cons.mpr ⟨k_X4_44 (by decide), List.forall_mem_cons.mpr ⟨k_X4_29 (by decide), fun _ h => absurd h List.not_mem_nil⟩⟩⟩⟩) dp_X4_riseAt b_X4_riseAt
theorem k_X4_47 {d : Nat} (h : 1 < d) : ez_CallOK LX RX4 d (47, 0, 1, sp_X5_isDate) := ez_callS (y := yX5_isDate) (bytes := cX5_isDate) so_X5_isDate h (by decide) q_282 q_72 ⟨by decide +kernel, by decide +kernel, by decide +kernel⟩ (Or.inr ⟨"EastNearly", q_290⟩) q_281
def sp_X4_dayOf : ez_Sp := fun as M Q => match as with | [.inr (.inr q), .inl d, .inl y] => q = 1 ∧ (0 ≤ y ∧ y ≤ 599) ∧ (d = -9 → Q (some (.inl (-9))) M) ∧ ((0 ≤ d ∧ d ≤ 363) → Q (some (.inl (ff_day (M 1 1) d y))) M) ∧ (d = -9 ∨ (0 ≤ d ∧ d ≤ 363)) | _ => False
def e_X4_dayOf : ez_E := (fl_X4, co_X4, [(47, 0, 1, sp_X5_isDate)], 0, 3)
set_option maxHeartbeats 4000000 in
set_option maxRecDepth 100000 in
theorem b_X4_dayOf : ez_Body LX e_X4_dayOf p_X4_dayOf sp_X4_dayOf := by
  intro as M Q has hM hsp
  unfold sp_X4_dayOf at hsp
  split at hsp
  rotate_left
  · exact hsp.elim
  rename_i q d y
  have g_d : -2147483648 ≤ d ∧ d ≤ 2147483647 := ez_hd (ez_tl (has))
  have g_y : -2147483648 ≤ y ∧ y ≤ 2147483647 := ez_hd (ez_tl (ez_tl (has)))
  obtain ⟨rfl, hv, hs1, hs2, hd⟩ := hsp
  unfold ff_day at hs2
  refine ⟨Nat.le_of_ble_eq_true rfl, fun cut hcut hkut => hcut [] 60 0 _ _ _ ?_⟩
  rcases hd with rfl | hd
  · (repeat' (first | (intro hh; exfalso; omega) | (refine And.intro (by first | assumption | omega) ?_) | (refine And.intro rfl ?_) | (refine And.intro ?_ ?_) | (intro qq hq1 hq2 hq3; have hq4 := hq2 (by omega) (by omega); subst hq4) | (intro hh) | exact trivial))
    all_goals exact hs1 rfl
  · have hs2 := hs2 hd
    split at hs2
    · (repeat' (first | (intro hh; exfalso; omega) | (refine And.intro (by first | assumption | omega) ?_) | (refine And.intro rfl ?_) | (refine And.intro ?_ ?_) | (intro qq hq1 hq2 hq3; have hq4 := hq2 (by omega) (by omega); subst hq4) | (intro hh) | exact trivial))
      all_goals exact hs2
    · (repeat' (first | (intro hh; exfalso; omega) | (refine And.intro (by first | assumption | omega) ?_) | (refine And.intro rfl ?_) | (refine And.intro ?_ ?_) | (intro qq hq1 hq2 hq3; have hq4 := hq2 (by omega) (by omega); subst hq4) | (intro hh) | exact trivial))
      all_goals exact hs2
theorem so_X4_dayOf : ez_Sound LX yX4_dayOf cX4_dayOf 3 (some .int) 2 sp_X4_dayOf := ez_sound (E := e_X4_dayOf) (prog := p_X4_dayOf) LX_ok (by decide +kernel) rfl (fun _ h => h) fo_X4 co_X4_ok (List.forall_mem_cons.mpr ⟨k_X4_47 (by decide), fun _ h => absurd h List.not_mem_nil⟩) dp_X4_dayOf b_X4_dayOf
