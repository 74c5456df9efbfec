theorem k_X6_199 {d : Nat} (h : 0 < d) : ez_CallOK LM RX6 d (199, 0, 1, sp_X6_bits) := ez_callS (y := yX6_bits) (bytes := cX6_bits) so_X6_bits h (by decide) q_954 q_78 ⟨by decide +kernel, by decide +kernel, by decide +kernel⟩ (Or.inl q_952) q_953
def sp_X6_look : ez_Sp := fun as M Q => match as with | [.inr (.inr q)] => q = 0 ∧ ff_Inv (ff_N M) ∧ (∀ M' : ez_M, ff_N M' = ff_N M → Q (some (.inl (op_look (ff_N M)))) M') | _ => False
def e_X6_look : ez_E := (fl_X6, co_X6, [(185, 6+1, 1, sp_X6_explained), (199, 0, 1, sp_X6_bits)], 0, 5)
set_option maxHeartbeats 4000000 in
set_option maxRecDepth 100000 in
theorem b_X6_look : ez_Body LM e_X6_look p_X6_look sp_X6_look := by
  intro as M Q has hM hsp
  unfold sp_X6_look at hsp
  split at hsp
  rotate_left
  · exact hsp.elim
  rename_i q
  obtain ⟨rfl, hI, hsp⟩ := hsp
  refine ⟨Nat.le_of_ble_eq_true rfl, fun cut hcut hkut => ?_⟩
  suffices hgo : ∀ M' : ez_M, ff_N M' = ff_N M → cut 5 [(0, .inr (.inr 0))] [] M' by
    refine hkut [(5, [0])] 60 0 _ _ _ ?_
    exact hgo _ (ff_N_th M)
  clear hM
  intro M hth
  rw [← hth] at hI hsp
  clear hth
  have hn := ff_n_N hI
  unfold op_look at hsp
  have loop : ∀ (n : Nat) (c f z : Int) (N : ez_M), c + n = M 0 13 → 0 ≤ c → ff_N N = ff_N M → (∀ M' : ez_M, ff_N M' = ff_N M → Q (some (.inl (ff_lk (ff_N M) n c f z))) M') → cut 12 [(0, .inr (.inr 0)), (1, .inl f), (2, .inl z), (3, .inl c)] [] N := by
    intro n
    induction n with
    | zero =>
      intro c f z N hc h0 hX hq
      have h13 : N 0 13 = M 0 13 := congrFun (congrFun hX 1) 4
      have hq := hq N hX
      refine hkut [(12, [0, 1, 2, 3])] 60 12 _ _ _ ?_
      repeat' (first | (intro hh; exfalso; omega) | (refine And.intro (by first | assumption | omega) ?_) | (refine And.intro rfl ?_) | (refine And.intro ?_ ?_) | (intro qq hq1 hq2 hq3; have hq4 := hq2 (by omega) (by omega); subst hq4) | (intro hh) | omega | exact trivial)
      all_goals exact hq
    | succ n ih =>
      intro c f z N hc h0 hX hq
      have h13 : N 0 13 = M 0 13 := congrFun (congrFun hX 1) 4
      have hIN : ff_Inv (ff_N N) := by rw [hX]; exact hI
      simp only [ff_lk] at hq
      rw [← hX] at hq
      refine hkut [(12, [0, 1, 2, 3])] 60 12 _ _ _ ?_
      split at hq
      · (repeat' (first | (intro hh; exfalso; omega) | (refine And.intro (by first | assumption | omega) ?_) | (refine And.intro rfl ?_) | (refine And.intro ?_ ?_) | (intro qq hq1 hq2 hq3; have hq4 := hq2 (by omega) (by omega); subst hq4) | (intro hh) | omega | exact trivial))
        all_goals exact ih _ _ _ _ (by omega) (by omega) (by rw [← hX]; assumption) (by rw [← hX]; exact hq)
      · (repeat' (first | (intro hh; exfalso; omega) | (refine And.intro (by first | assumption | omega) ?_) | (refine And.intro rfl ?_) | (refine And.intro ?_ ?_) | (intro qq hq1 hq2 hq3; have hq4 := hq2 (by omega) (by omega); subst hq4) | (intro hh) | omega | exact trivial))
        all_goals exact ih _ _ _ _ (by omega) (by omega) (by rw [← hX]; assumption) (by rw [← hX]; exact hq)
  refine hkut [(12, [0, 1, 2, 3])] 60 5 _ _ _ ?_
  exact loop (M 0 13).toNat 0 (-9) (-1) M (by omega) (by omega) rfl hsp
theorem so_X6_look : ez_Sound LM yX6_look cX6_look 5 (some .int) 7 sp_X6_look := ez_sound (E := e_X6_look) (prog := p_X6_look) LM_ok (by decide +kernel) rfl (fun _ h => h) fo_X6 co_X6_ok (List.forall_mem_cons.mpr ⟨k_X6_185 (by decide), List.forall_mem_cons.mpr ⟨k_X6_199 (by decide), fun _ h => absurd h List.not_mem_nil⟩⟩) dp_X6_look b_X6_look
def sp_X6_on : ez_Sp := fun as M Q => match as with | [.inr (.inr q), .inl c, .inl d] => q = 0 ∧ ff_Inv (ff_N M) ∧ (∀ M' : ez_M, ff_N M' = ff_N M → Q (some (.inl (op_on (ff_N M) c d))) M') | _ => False
def e_X6_on : ez_E := (fl_X6, co_X6, [(154, 6+1, 1, sp_X6_noChurch), (92, 0, 1, sp_X6_noDay), (106, 6+1, 2, sp_X6_riseOf), (174, 6+1, 3, sp_X6_isNear)], 0, 3)
set_option maxHeartbeats 4000000 in
set_option maxRecDepth 100000 in
theorem b_X6_on : ez_Body LM e_X6_on p_X6_on sp_X6_on := by
  intro as M Q has hM hsp
  unfold sp_X6_on at hsp
  split at hsp
  rotate_left
  · exact hsp.elim
  rename_i q c d
  have g_c : -2147483648 ≤ c ∧ c ≤ 2147483647 := ez_hd (ez_tl (has))
  have g_d : -2147483648 ≤ d ∧ d ≤ 2147483647 := ez_hd (ez_tl (ez_tl (has)))
  obtain ⟨rfl, hI, hsp⟩ := hsp
  refine ⟨Nat.le_of_ble_eq_true rfl, fun cut hcut hkut => ?_⟩
  suffices hgo : ∀ M' : ez_M, ff_N M' = ff_N M → cut 5 [(0, .inr (.inr 0)), (1, .inl c), (2, .inl d)] [] M' by
    refine hkut [(5, [0, 1, 2])] 60 0 _ _ _ ?_
    exact hgo _ (ff_N_th M)
  clear hM
  intro M hth
  rw [← hth] at hI hsp
  clear hth
  have hn := ff_n_N hI
  have hsp := hsp M rfl
  have hh : ∀ j, 0 ≤ M 1 j ∧ M 1 j ≤ 9 := hI.1
  unfold op_on at hsp
  refine hkut [] 60 5 _ _ _ ?_
  by_cases h1 : (0 ≤ c ∧ c < ff_N M 1 4) ∧ (0 ≤ d ∧ d ≤ 363)
  · have h1m : (0 ≤ c ∧ c < M 0 13) ∧ (0 ≤ d ∧ d ≤ 363) := h1
    rw [if_pos h1] at hsp
    have hc := ff_ch_N hI (c := c) h1.1.1 h1.1.2
    unfold ff_ch at hc
    have hr := ff_rise_r (h := M 1) (l := M 7 (11 * c).toNat) h1.2.1 h1.2.2
    have he : ff_dol (ff_N M) c d = ff_nr (ff_rise (M 1) (M 7 (11 * c).toNat) d) (M 7 (11 * c + 1).toNat) (M 7 (11 * c + 2).toNat) := by
      unfold ff_dol
      rw [Int.add_zero]
      rfl
    rw [Int.add_zero] at hc
    rw [he] at hsp
    split at hsp
    · rename_i h2
      repeat' (first | (intro hh; exfalso; omega) | (refine And.intro (by first | assumption | omega) ?_) | (refine And.intro rfl ?_) | (refine And.intro ?_ ?_) | (intro qq hq1 hq2 hq3; have hq4 := hq2 (by omega) (by omega); subst hq4) | (intro hh) | omega | exact trivial)
      all_goals first | exact hsp | (rename_i hz; rw [h2] at hz; cases hz; done)
    · rename_i h2
      repeat' (first | (intro hh; exfalso; omega) | (refine And.intro (by first | assumption | omega) ?_) | (refine And.intro rfl ?_) | (refine And.intro ?_ ?_) | (intro qq hq1 hq2 hq3; have hq4 := hq2 (by omega) (by omega); subst hq4) | (intro hh) | omega | exact trivial)
      all_goals first | exact absurd (by assumption) h2 | exact hsp
  · have h1m : ¬ ((0 ≤ c ∧ c < M 0 13) ∧ (0 ≤ d ∧ d ≤ 363)) := h1
    rw [if_neg h1] at hsp
    repeat' (first | (intro hh; exfalso; omega) | (refine And.intro (by first | assumption | omega) ?_) | (refine And.intro rfl ?_) | (refine And.intro ?_ ?_) | (intro qq hq1 hq2 hq3; have hq4 := hq2 (by omega) (by omega); subst hq4) | (intro hh) | omega | exact trivial)
    all_goals exact hsp
theorem so_X6_on : ez_Sound LM yX6_on cX6_on 3 (some .int) 2 sp_X6_on := ez_sound (E := e_X6_on) (prog := p_X6_on) LM_ok (by decide +kernel) rfl (fun _ h => h) fo_X6 co_X6_ok (List.forall_mem_cons.mpr ⟨k_X6_154 (by decide), List.forall_mem_cons.mpr ⟨k_X6_92 (by decide), List.forall_mem_cons.mpr ⟨k_X6_106 (by decide), List.forall_mem_cons.mpr ⟨k_X6_174 (by decide), fun _ h => absurd h List.not_mem_nil⟩⟩⟩⟩) dp_X6_on b_X6_on
def sp_X6_days : ez_Sp := fun as M Q => match as with | [.inr (.inr q), .inl c] => q = 0 ∧ ff_Inv (ff_N M) ∧ (∀ M' : ez_M, ff_N M' = ff_N M → Q (some (.inl (op_days (ff_N M) c))) M') | _ => False
def e_X6_days : ez_E := (fl_X6, co_X6, [(154, 6+1, 1, sp_X6_noChurch), (106, 6+1, 2, sp_X6_riseOf), (174, 6+1, 3, sp_X6_isNear)], 0, 4)
set_option maxHeartbeats 4000000 in
set_option maxRecDepth 100000 in
theorem b_X6_days : ez_Body LM e_X6_days p_X6_days sp_X6_days := by
  intro as M Q has hM hsp
  unfold sp_X6_days at hsp
  split at hsp
  rotate_left
  · exact hsp.elim
  rename_i q c
  have g_c : -2147483648 ≤ c ∧ c ≤ 2147483647 := ez_hd (ez_tl (has))
  obtain ⟨rfl, hI, hsp⟩ := hsp
  refine ⟨Nat.le_of_ble_eq_true rfl, fun cut hcut hkut => ?_⟩
  suffices hgo : ∀ M' : ez_M, ff_N M' = ff_N M → cut 5 [(0, .inr (.inr 0)), (1, .inl c)] [] M' by
    refine hkut [(5, [0, 1])] 60 0 _ _ _ ?_
    exact hgo _ (ff_N_th M)
  clear hM
  intro M hth
  rw [← hth] at hI hsp
  clear hth
  have hn := ff_n_N hI
  have hsp := hsp M rfl
  have hh : ∀ j, 0 ≤ M 1 j ∧ M 1 j ≤ 9 := hI.1
  unfold op_days at hsp
  by_cases h1 : 0 ≤ c ∧ c < ff_N M 1 4
  · have h1m : 0 ≤ c ∧ c < M 0 13 := h1
    rw [if_pos h1] at hsp
    have hc := ff_ch_N hI (c := c) h1.1 h1.2
    unfold ff_ch at hc
    rw [Int.add_zero] at hc
    generalize hA : ff_cn (ff_dol (ff_N M) c) 364 0 = A at hsp
    have loop : ∀ (n : Nat) (y z : Int), y + n = 364 → 0 ≤ y → 0 ≤ z → z ≤ y → z + ff_cn (ff_dol (ff_N M) c) n y = A → cut 19 [(0, .inr (.inr 0)), (1, .inl c), (2, .inl z), (3, .inl y)] [] M := by
      intro n
      induction n with
      | zero =>
        intro y z hy h0 hz0 hz1 hq
        refine hkut [(19, [0, 1, 2, 3])] 60 19 _ _ _ ?_
        simp only [ff_cn, Int.add_zero] at hq
        repeat' (first | (intro hh; exfalso; omega) | (refine And.intro (by first | assumption | omega) ?_) | (refine And.intro rfl ?_) | (refine And.intro ?_ ?_) | (intro qq hq1 hq2 hq3; have hq4 := hq2 (by omega) (by omega); subst hq4) | (intro hh) | omega | exact trivial)
        all_goals exact ez_ret hsp hq
      | succ n ih =>
        intro y z hy h0 hz0 hz1 hq
        have hr := ff_rise_r (h := M 1) (l := M 7 (11 * c).toNat) (d := y) (by omega) (by omega)
        have he : ff_dol (ff_N M) c y = ff_nr (ff_rise (M 1) (M 7 (11 * c).toNat) y) (M 7 (11 * c + 1).toNat) (M 7 (11 * c + 2).toNat) := by
          unfold ff_dol
          rw [Int.add_zero]
          rfl
        refine hkut [(19, [0, 1, 2, 3])] 60 19 _ _ _ ?_
        simp only [ff_cn] at hq
        rw [he] at hq
        split at hq
        · rename_i hp
          repeat' (first | (intro hh; exfalso; omega) | (refine And.intro (by first | assumption | omega) ?_) | (refine And.intro rfl ?_) | (refine And.intro ?_ ?_) | (intro qq hq1 hq2 hq3; have hq4 := hq2 (by omega) (by omega); subst hq4) | (intro hh) | omega | exact trivial)
          all_goals first | exact ih (y + 1) (z + 1) (by omega) (by omega) (by omega) (by omega) (by omega) | (rename_i hz; rw [hp] at hz; cases hz; done)
        · rename_i hp
          have ih := ih (y + 1) (z + 0) (by omega) (by omega) (by omega) (by omega) (by omega)
          repeat' (first | (intro hh; exfalso; omega) | (refine And.intro (by first | assumption | omega) ?_) | (refine And.intro rfl ?_) | (refine And.intro ?_ ?_) | (intro qq hq1 hq2 hq3; have hq4 := hq2 (by omega) (by omega); subst hq4) | (intro hh) | omega | exact trivial)
          all_goals first | exact absurd (by assumption) hp | exact ih
    refine hkut [(19, [0, 1, 2, 3])] 60 5 _ _ _ ?_
    repeat' (first | (intro hh; exfalso; omega) | (refine And.intro (by first | assumption | omega) ?_) | (refine And.intro rfl ?_) | (refine And.intro ?_ ?_) | (intro qq hq1 hq2 hq3; have hq4 := hq2 (by omega) (by omega); subst hq4) | (intro hh) | omega | exact trivial)
    all_goals exact loop 364 0 0 (by omega) (by omega) (by omega) (by omega) (by rw [hA]; omega)
  · have h1m : ¬ (0 ≤ c ∧ c < M 0 13) := h1
    rw [if_neg h1] at hsp
    refine hkut [] 60 5 _ _ _ ?_
    repeat' (first | (intro hh; exfalso; omega) | (refine And.intro (by first | assumption | omega) ?_) | (refine And.intro rfl ?_) | (refine And.intro ?_ ?_) | (intro qq hq1 hq2 hq3; have hq4 := hq2 (by omega) (by omega); subst hq4) | (intro hh) | omega | exact trivial)
    all_goals exact hsp
theorem so_X6_days : ez_Sound LM yX6_days cX6_days 4 (some .int) 2 sp_X6_days := ez_sound (E := e_X6_days) (prog := p_X6_days) LM_ok (by decide +kernel) rfl (fun _ h => h) fo_X6 co_X6_ok (List.forall_mem_cons.mpr ⟨k_X6_154 (by decide), List.forall_mem_cons.mpr ⟨k_X6_106 (by decide), List.forall_mem_cons.mpr ⟨k_X6_174 (by decide), fun _ h => absurd h List.not_mem_nil⟩⟩⟩) dp_X6_days b_X6_days
theorem ff_dhit_N (M : ez_M) (c d y : Int) : ff_dhit (ff_N M) c d y = ff_nr (ff_rby (M 1) (M 0 2) (M 7 (11 * c).toNat) d y) (M 7 (11 * c + 1).toNat) (M 7 (11 * c + 2).toNat) := by
  unfold ff_dhit
  rw [Int.add_zero]
  rfl
def sp_X6_isBy : ez_Sp := fun as M Q => match as with | [.inr (.inr q), .inl c, .inl d] => q = 0 ∧ (0 ≤ c ∧ c < M 0 13 ∧ (d = -9 ∨ (0 ≤ d ∧ d ≤ 363))) ∧ ff_Inv (ff_N M) ∧ (ff_by (ff_N M) c d = true → Q (some (.inl 1)) M) ∧ (ff_by (ff_N M) c d = false → Q (some (.inl 0)) M) | _ => False
def e_X6_isBy : ez_E := (fl_X6, co_X6, [(161, 6+1, 3, sp_X6_riseBy), (174, 6+1, 3, sp_X6_isNear)], 1, 5)
set_option maxHeartbeats 4000000 in
set_option maxRecDepth 100000 in
theorem b_X6_isBy : ez_Body LM e_X6_isBy p_X6_isBy sp_X6_isBy := by
  intro as M Q has hM hsp
  unfold sp_X6_isBy at hsp
  split at hsp
  rotate_left
  · exact hsp.elim
  rename_i q c d
  have g_c : -2147483648 ≤ c ∧ c ≤ 2147483647 := ez_hd (ez_tl (has))
  have g_d : -2147483648 ≤ d ∧ d ≤ 2147483647 := ez_hd (ez_tl (ez_tl (has)))
  obtain ⟨rfl, hv, hI, hs1, hs2⟩ := hsp
  have hn := ff_n_N hI
  have hh : ∀ j, 0 ≤ M 1 j ∧ M 1 j ≤ 9 := hI.1
  have hc := ff_ch_N hI (c := c) (by omega) (by omega)
  unfold ff_ch at hc
  rw [Int.add_zero] at hc
  refine ⟨Nat.le_of_ble_eq_true rfl, fun cut hcut hkut => ?_⟩
  have done : ∀ (n : Nat) (y : Int), y + n = M 7 (11 * c + 4).toNat + 1 → 0 ≤ y → Q (some (.inl 1)) M → cut 15 [(0, .inr (.inr 0)), (1, .inl c), (2, .inl d), (3, .inl 1), (4, .inl y)] [] M := by
    intro n
    induction n with
    | zero =>
      intro y hy h0 hq
      refine hkut [(15, [0, 1, 2, 3, 4])] 60 15 _ _ _ ?_
      repeat' (first | (intro hh; exfalso; omega) | (refine And.intro (by first | assumption | omega) ?_) | (refine And.intro rfl ?_) | (refine And.intro ?_ ?_) | (intro qq hq1 hq2 hq3; have hq4 := hq2 (by omega) (by omega); subst hq4) | (intro hh) | omega | exact trivial)
      all_goals exact hq
    | succ n ih =>
      intro y hy h0 hq
      refine hkut [(15, [0, 1, 2, 3, 4])] 60 15 _ _ _ ?_
      repeat' (first | (intro hh; exfalso; omega) | (refine And.intro (by first | assumption | omega) ?_) | (refine And.intro rfl ?_) | (refine And.intro ?_ ?_) | (intro qq hq1 hq2 hq3; have hq4 := hq2 (by omega) (by omega); subst hq4) | (intro hh) | omega | exact trivial)
      all_goals exact ih _ (by omega) (by omega) hq
  have loop : ∀ (n : Nat) (y : Int), y + n = M 7 (11 * c + 4).toNat + 1 → 0 ≤ y → (ff_ex (ff_dhit (ff_N M) c d) n y = true → Q (some (.inl 1)) M) → (ff_ex (ff_dhit (ff_N M) c d) n y = false → Q (some (.inl 0)) M) → cut 15 [(0, .inr (.inr 0)), (1, .inl c), (2, .inl d), (3, .inl 0), (4, .inl y)] [] M := by
    intro n
    induction n with
    | zero =>
      intro y hy h0 hq1 hq2
      refine hkut [(15, [0, 1, 2, 3, 4])] 60 15 _ _ _ ?_
      repeat' (first | (intro hh; exfalso; omega) | (refine And.intro (by first | assumption | omega) ?_) | (refine And.intro rfl ?_) | (refine And.intro ?_ ?_) | (intro qq hq1 hq2 hq3; have hq4 := hq2 (by omega) (by omega); subst hq4) | (intro hh) | omega | exact trivial)
      all_goals exact hq2 rfl
    | succ n ih =>
      intro y hy h0 hq1 hq2
      have hr := ff_rby_r (h := M 1) (sw := M 0 2) (l := M 7 (11 * c).toNat) (date := d) (y := y) hv.2.2
      refine hkut [(15, [0, 1, 2, 3, 4])] 60 15 _ _ _ ?_
      simp only [ff_ex] at hq1 hq2
      cases hp : ff_dhit (ff_N M) c d y
      · simp only [hp, Bool.false_or] at hq1 hq2
        rw [ff_dhit_N] at hp
        repeat' (first | (intro hh; exfalso; omega) | (refine And.intro (by first | assumption | omega) ?_) | (refine And.intro rfl ?_) | (refine And.intro ?_ ?_) | (intro qq hq1 hq2 hq3; have hq4 := hq2 (by omega) (by omega); subst hq4) | (intro hh) | omega | exact trivial)
        all_goals first | exact ih (y + 1) (by omega) (by omega) hq1 hq2 | (rename_i hz; rw [hp] at hz; cases hz; done)
      · simp only [hp, Bool.true_or] at hq1
        have hd := done n (y + 1) (by omega) (by omega) (hq1 trivial)
        rw [ff_dhit_N] at hp
        repeat' (first | (intro hh; exfalso; omega) | (refine And.intro (by first | assumption | omega) ?_) | (refine And.intro rfl ?_) | (refine And.intro ?_ ?_) | (intro qq hq1 hq2 hq3; have hq4 := hq2 (by omega) (by omega); subst hq4) | (intro hh) | omega | exact trivial)
        all_goals first | exact hd | (rename_i hz; rw [hp] at hz; cases hz; done)
  refine hkut [(15, [0, 1, 2, 3, 4])] 60 0 _ _ _ ?_
  repeat' (first | (intro hh; exfalso; omega) | (refine And.intro (by first | assumption | omega) ?_) | (refine And.intro rfl ?_) | (refine And.intro ?_ ?_) | (intro qq hq1 hq2 hq3; have hq4 := hq2 (by omega) (by omega); subst hq4) | (intro hh) | omega | exact trivial)
  all_goals exact loop (M 7 (11 * c + 4).toNat - M 7 (11 * c + 3).toNat + 1).toNat _ (by omega) (by omega) hs1 hs2
theorem so_X6_isBy : ez_Sound LM yX6_isBy cX6_isBy 5 (some .boolean) 3 sp_X6_isBy := ez_sound (E := e_X6_isBy) (prog := p_X6_isBy) LM_ok (by decide +kernel) rfl (fun _ h => h) fo_X6 co_X6_ok (List.forall_mem_cons.mpr ⟨k_X6_161 (by decide), List.forall_mem_cons.mpr ⟨k_X6_174 (by decide), fun _ h => absurd h List.not_mem_nil⟩⟩) dp_X6_isBy b_X6_isBy
def sp_X6_bends : ez_Sp := fun as M Q => match as with | [.inr (.inr q), .inl c] => q = 0 ∧ ff_Inv (ff_N M) ∧ (∀ M' : ez_M, ff_N M' = ff_N M → Q (some (.inl (op_bends (ff_N M) c))) M') | _ => False
def e_X6_bends : ez_E := (fl_X6, co_X6, [(154, 6+1, 1, sp_X6_noChurch), (88, 0, 2, sp_X6_offOf)], 0, 2)
set_option maxHeartbeats 4000000 in
set_option maxRecDepth 100000 in
theorem b_X6_bends : ez_Body LM e_X6_bends p_X6_bends sp_X6_bends := by
  intro as M Q has hM hsp
  unfold sp_X6_bends at hsp
  split at hsp
  rotate_left
  · exact hsp.elim
  rename_i q c
  have g_c : -2147483648 ≤ c ∧ c ≤ 2147483647 := ez_hd (ez_tl (has))
  obtain ⟨rfl, hI, hsp⟩ := hsp
  refine ⟨Nat.le_of_ble_eq_true rfl, fun cut hcut hkut => ?_⟩
  suffices hgo : ∀ M' : ez_M, ff_N M' = ff_N M → cut 5 [(0, .inr (.inr 0)), (1, .inl c)] [] M' by
    refine hkut [(5, [0, 1])] 60 0 _ _ _ ?_
    exact hgo _ (ff_N_th M)
  clear hM
  intro M hth
  rw [← hth] at hI hsp
  clear hth
  have hn := ff_n_N hI
  have hsp := hsp M rfl
  have hsp : Q (some (.inl (if 0 ≤ c ∧ c < M 0 13 then (if M 7 (11 * c + 8).toNat = -9 then -3 else ff_off (M 7 (11 * c + 8).toNat) (M 7 (11 * c + 1).toNat)) else -1))) M := hsp
  refine hkut [] 60 5 _ _ _ ?_
  by_cases h1 : 0 ≤ c ∧ c < M 0 13
  · rw [if_pos h1] at hsp
    have hc := ff_ch_N hI (c := c) h1.1 h1.2
    unfold ff_ch at hc
    split at hsp <;> (repeat' (first | (intro hh; exfalso; omega) | (refine And.intro (by first | assumption | omega) ?_) | (refine And.intro rfl ?_) | (refine And.intro ?_ ?_) | (intro qq hq1 hq2 hq3; have hq4 := hq2 (by omega) (by omega); subst hq4) | (intro hh) | omega | exact trivial))
    all_goals exact hsp
  · rw [if_neg h1] at hsp
    repeat' (first | (intro hh; exfalso; omega) | (refine And.intro (by first | assumption | omega) ?_) | (refine And.intro rfl ?_) | (refine And.intro ?_ ?_) | (intro qq hq1 hq2 hq3; have hq4 := hq2 (by omega) (by omega); subst hq4) | (intro hh) | omega | exact trivial)
    all_goals exact hsp
theorem so_X6_bends : ez_Sound LM yX6_bends cX6_bends 2 (some .int) 2 sp_X6_bends := ez_sound (E := e_X6_bends) (prog := p_X6_bends) LM_ok (by decide +kernel) rfl (fun _ h => h) fo_X6 co_X6_ok (List.forall_mem_cons.mpr ⟨k_X6_154 (by decide), List.forall_mem_cons.mpr ⟨k_X6_88 (by decide), fun _ h => absurd h List.not_mem_nil⟩⟩) dp_X6_bends b_X6_bends
theorem ff_exl_cn (S : ff_S) (r c la fa ta : Int) : ff_exl S r c la fa ta = true ↔ 0 < ff_cn (fun y => ff_nr (ff_line S r c y) (S 5 (11 * c + la).toNat) (S 5 (11 * c + 2).toNat)) (S 5 (11 * c + ta).toNat - S 5 (11 * c + fa).toNat + 1).toNat (S 5 (11 * c + fa).toNat) := ff_ex_cn _ _ _
def sp_X6_why : ez_Sp := fun as M Q => match as with | [.inr (.inr q), .inl c] => q = 0 ∧ ff_Inv (ff_N M) ∧ (∀ M' : ez_M, ff_N M' = ff_N M → Q (some (.inl (op_why (ff_N M) c))) M') | _ => False
def e_X6_why : ez_E := (fl_X6, co_X6, [(154, 6+1, 1, sp_X6_noChurch), (182, 6+1, 2, sp_X6_hitsIn), (178, 6+1, 6, sp_X6_hitsOf)], 0, 3)
set_option maxHeartbeats 4000000 in
set_option maxRecDepth 100000 in
theorem b_X6_why : ez_Body LM e_X6_why p_X6_why sp_X6_why := by
  intro as M Q has hM hsp
  unfold sp_X6_why at hsp
  split at hsp
  rotate_left
  · exact hsp.elim
  rename_i q c
  have g_c : -2147483648 ≤ c ∧ c ≤ 2147483647 := ez_hd (ez_tl (has))
  obtain ⟨rfl, hI, hsp⟩ := hsp
  refine ⟨Nat.le_of_ble_eq_true rfl, fun cut hcut hkut => ?_⟩
  suffices hgo : ∀ M' : ez_M, ff_N M' = ff_N M → cut 5 [(0, .inr (.inr 0)), (1, .inl c)] [] M' by
    refine hkut [(5, [0, 1])] 60 0 _ _ _ ?_
    exact hgo _ (ff_N_th M)
  clear hM
  intro M hth
  rw [← hth] at hI hsp
  clear hth
  have hn := ff_n_N hI
  unfold op_why at hsp
  by_cases h1 : 0 ≤ c ∧ c < ff_N M 1 4
  · have h1m : 0 ≤ c ∧ c < M 0 13 := h1
    simp only [if_pos h1] at hsp
    by_cases h2 : ff_N M 5 (11 * c + 8).toNat = -9
    · have h2m : M 7 (11 * c + 8).toNat = -9 := h2
      simp only [if_pos h2] at hsp
      have hsp := hsp M rfl
      refine hkut [] 60 5 _ _ _ ?_
      repeat' (first | (intro hh; exfalso; omega) | (refine And.intro (by first | assumption | omega) ?_) | (refine And.intro rfl ?_) | (refine And.intro ?_ ?_) | (intro qq hq1 hq2 hq3; have hq4 := hq2 (by omega) (by omega); subst hq4) | (intro hh) | omega | exact trivial)
      all_goals exact hsp
    · have h2m : ¬ M 7 (11 * c + 8).toNat = -9 := h2
      simp only [if_neg h2] at hsp
      have loop : ∀ (n : Nat) (r : Int) (N : ez_M), r + n = 6 → 0 ≤ r → ff_N N = ff_N M → (∀ M' : ez_M, ff_N M' = ff_N M → Q (some (.inl (ff_wy (ff_N M) c n r))) M') → cut 37 [(0, .inr (.inr 0)), (1, .inl c), (2, .inl r)] [] N := by
        intro n
        induction n with
        | zero =>
          intro r N hr h0 hX hq
          have hq := hq N hX
          refine hkut [(37, [0, 1, 2])] 60 37 _ _ _ ?_
          repeat' (first | (intro hh; exfalso; omega) | (refine And.intro (by first | assumption | omega) ?_) | (refine And.intro rfl ?_) | (refine And.intro ?_ ?_) | (intro qq hq1 hq2 hq3; have hq4 := hq2 (by omega) (by omega); subst hq4) | (intro hh) | omega | exact trivial)
          all_goals exact hq
        | succ n ih =>
          intro r N hr h0 hX hq
          have hIN : ff_Inv (ff_N N) := by rw [hX]; exact hI
          have h13 : N 0 13 = M 0 13 := congrFun (congrFun hX 1) 4
          have h8 : ¬ N 7 (11 * c + 8).toNat = -9 := by
            have : N 7 = M 7 := congrFun hX 5
            rw [this]
            exact h2m
          have e1 := ff_exl_hits (ff_N M) r c
          have e2 := ff_exl_cn (ff_N M) r c 8 9 10
          have hhr := ff_hits_r hI (r := r) h1.1 h1.2
          simp only [ff_wy] at hq
          rw [← hX] at e1 e2 hhr
          have mid : ∀ K : ez_M, ff_N K = ff_N M → ff_hits (ff_N M) r c = 0 → cut 52 [(0, .inr (.inr 0)), (1, .inl c), (2, .inl r)] [] K := by
            intro K hK hh0
            have hIK : ff_Inv (ff_N K) := by rw [hK]; exact hI
            have k13 : K 0 13 = M 0 13 := congrFun (congrFun hK 1) 4
            have hc := ff_ch_N hIK (c := c) (by omega) (by omega)
            unfold ff_ch at hc
            have h8 : ¬ K 7 (11 * c + 8).toNat = -9 := by
              have : K 7 = M 7 := congrFun hK 5
              rw [this]
              exact h2m
            have e1 := ff_exl_hits (ff_N M) r c
            have e2 := ff_exl_cn (ff_N M) r c 8 9 10
            have e1f : ff_exl (ff_N M) r c 1 3 4 = false := by
              cases hz : ff_exl (ff_N M) r c 1 3 4
              · rfl
              · have := e1.mp hz
                omega
            refine hkut [(37, [0, 1, 2])] 60 52 _ _ _ ?_
            rw [← hK] at e2
            have e2 : ff_exl (ff_N K) r c 8 9 10 = true ↔ 0 < ff_cn (fun y => ff_nr (ff_line (ff_N K) r c y) (K 7 (11 * c + 8).toNat) (K 7 (11 * c + 2).toNat)) (K 7 (11 * c + 10).toNat - K 7 (11 * c + 9).toNat + 1).toNat (K 7 (11 * c + 9).toNat) := e2
            cases hz : ff_exl (ff_N M) r c 8 9 10
            · rw [if_neg (fun z => by rw [hz] at z; cases z.1)] at hq
              rw [← hK] at hz
              have e3 : ¬ 0 < ff_cn (fun y => ff_nr (ff_line (ff_N K) r c y) (K 7 (11 * c + 8).toNat) (K 7 (11 * c + 2).toNat)) (K 7 (11 * c + 10).toNat - K 7 (11 * c + 9).toNat + 1).toNat (K 7 (11 * c + 9).toNat) := fun z => by
                have := e2.mpr z
                rw [hz] at this
                cases this
              repeat' (first | (intro hh; exfalso; omega) | (refine And.intro (by first | assumption | omega) ?_) | (refine And.intro rfl ?_) | (refine And.intro ?_ ?_) | (intro qq hq1 hq2 hq3; have hq4 := hq2 (by omega) (by omega); subst hq4) | (intro hh) | omega | exact trivial)
              all_goals exact ih _ _ (by omega) (by omega) (by rw [← hK]; assumption) hq
            · rw [if_pos ⟨hz, e1f⟩] at hq
              rw [← hK] at hz
              have e3 := e2.mp hz
              repeat' (first | (intro hh; exfalso; omega) | (refine And.intro (by first | assumption | omega) ?_) | (refine And.intro rfl ?_) | (refine And.intro ?_ ?_) | (intro qq hq1 hq2 hq3; have hq4 := hq2 (by omega) (by omega); subst hq4) | (intro hh) | omega | exact trivial)
              all_goals exact hq _ (by rw [← hK]; assumption)
          refine hkut [(37, [0, 1, 2]), (52, [0, 1, 2])] 60 37 _ _ _ ?_
          by_cases hh0 : ff_hits (ff_N N) r c = 0
          · have hm := fun K hK => mid K hK (by rw [← hX]; exact hh0)
            repeat' (first | (intro hh; exfalso; omega) | (refine And.intro (by first | assumption | omega) ?_) | (refine And.intro rfl ?_) | (refine And.intro ?_ ?_) | (intro qq hq1 hq2 hq3; have hq4 := hq2 (by omega) (by omega); subst hq4) | (intro hh) | omega | exact trivial)
            all_goals exact hm _ (by rw [← hX]; assumption)
          · have e1t : ff_exl (ff_N M) r c 1 3 4 = true := by
              rw [← hX]
              exact e1.mpr (by omega)
            rw [if_neg (fun z => by rw [e1t] at z; cases z.2)] at hq
            repeat' (first | (intro hh; exfalso; omega) | (refine And.intro (by first | assumption | omega) ?_) | (refine And.intro rfl ?_) | (refine And.intro ?_ ?_) | (intro qq hq1 hq2 hq3; have hq4 := hq2 (by omega) (by omega); subst hq4) | (intro hh) | omega | exact trivial)
            all_goals exact ih _ _ (by omega) (by omega) (by rw [← hX]; assumption) hq
      refine hkut [(37, [0, 1, 2])] 60 5 _ _ _ ?_
      repeat' (first | (intro hh; exfalso; omega) | (refine And.intro (by first | assumption | omega) ?_) | (refine And.intro rfl ?_) | (refine And.intro ?_ ?_) | (intro qq hq1 hq2 hq3; have hq4 := hq2 (by omega) (by omega); subst hq4) | (intro hh) | omega | exact trivial)
      all_goals exact loop 6 0 M (by omega) (by omega) rfl hsp
  · have h1m : ¬ (0 ≤ c ∧ c < M 0 13) := h1
    simp only [if_neg h1] at hsp
    have hsp := hsp M rfl
    refine hkut [] 60 5 _ _ _ ?_
    repeat' (first | (intro hh; exfalso; omega) | (refine And.intro (by first | assumption | omega) ?_) | (refine And.intro rfl ?_) | (refine And.intro ?_ ?_) | (intro qq hq1 hq2 hq3; have hq4 := hq2 (by omega) (by omega); subst hq4) | (intro hh) | omega | exact trivial)
    all_goals exact hsp
theorem so_X6_why : ez_Sound LM yX6_why cX6_why 3 (some .int) 6 sp_X6_why := ez_sound (E := e_X6_why) (prog := p_X6_why) LM_ok (by decide +kernel) rfl (fun _ h => h) fo_X6 co_X6_ok (List.forall_mem_cons.mpr ⟨k_X6_154 (by decide), List.forall_mem_cons.mpr ⟨k_X6_182 (by decide), List.forall_mem_cons.mpr ⟨k_X6_178 (by decide), fun _ h => absurd h List.not_mem_nil⟩⟩⟩) dp_X6_why b_X6_why
def sp_X6_whenOf : ez_Sp := fun as M Q => match as with | [.inr (.inr q), .inl c, .inl d, .inl y] => q = 0 ∧ (0 ≤ c ∧ c < M 0 13 ∧ (d = -9 ∨ (0 ≤ d ∧ d ≤ 363))) ∧ ff_Inv (ff_N M) ∧ Q (some (.inl (ff_cn (ff_whp (ff_N M) c d y) (ff_yrs (ff_N M) c) (ff_N M 5 (11 * c + 3).toNat)))) M | _ => False
def e_X6_whenOf : ez_E := (fl_X6, co_X6, [(161, 6+1, 3, sp_X6_riseBy), (174, 6+1, 3, sp_X6_isNear)], 0, 7)
set_option maxHeartbeats 4000000 in
set_option maxRecDepth 100000 in
theorem b_X6_whenOf : ez_Body LM e_X6_whenOf p_X6_whenOf sp_X6_whenOf := by
  intro as M Q has hM hsp
  unfold sp_X6_whenOf at hsp
  split at hsp
  rotate_left
  · exact hsp.elim
  rename_i q c d y
  have g_c : -2147483648 ≤ c ∧ c ≤ 2147483647 := ez_hd (ez_tl (has))
  have g_d : -2147483648 ≤ d ∧ d ≤ 2147483647 := ez_hd (ez_tl (ez_tl (has)))
  have g_y : -2147483648 ≤ y ∧ y ≤ 2147483647 := ez_hd (ez_tl (ez_tl (ez_tl (has))))
  obtain ⟨rfl, hv, hI, hsp⟩ := hsp
  have hn := ff_n_N hI
  have hh : ∀ j, 0 ≤ M 1 j ∧ M 1 j ≤ 9 := hI.1
  have hc := ff_ch_N hI (c := c) (by omega) (by omega)
  unfold ff_ch at hc
  rw [Int.add_zero] at hc
  refine ⟨Nat.le_of_ble_eq_true rfl, fun cut hcut hkut => ?_⟩
  have loop : ∀ (n : Nat) (b z : Int), b + n = M 7 (11 * c + 4).toNat + 1 → 0 ≤ b → 0 ≤ z → z + n ≤ 61 → Q (some (.inl (z + ff_cn (ff_whp (ff_N M) c d y) n b))) M → cut 16 [(0, .inr (.inr 0)), (1, .inl c), (2, .inl d), (3, .inl y), (4, .inl z), (5, .inl b)] [] M := by
    intro n
    induction n with
    | zero =>
      intro b z hy h0 hz0 hz1 hq
      refine hkut [(16, [0, 1, 2, 3, 4, 5])] 60 16 _ _ _ ?_
      simp only [ff_cn, Int.add_zero] at hq
      repeat' (first | (intro hh; exfalso; omega) | (refine And.intro (by first | assumption | omega) ?_) | (refine And.intro rfl ?_) | (refine And.intro ?_ ?_) | (intro qq hq1 hq2 hq3; have hq4 := hq2 (by omega) (by omega); subst hq4) | (intro hh) | omega | exact trivial)
      all_goals exact hq
    | succ n ih =>
      intro b z hy h0 hz0 hz1 hq
      simp only [ff_cn] at hq
      refine hkut [(16, [0, 1, 2, 3, 4, 5])] 80 16 _ _ _ ?_
      by_cases hb : b < y
      · have he : ff_whp (ff_N M) c d y b = ff_dhit (ff_N M) c (M 7 (11 * c + 5).toNat) b := if_pos hb
        rw [he, ff_dhit_N] at hq
        have hr := ff_rby_r (h := M 1) (sw := M 0 2) (l := M 7 (11 * c).toNat) (date := M 7 (11 * c + 5).toNat) (y := b) hc.2.2.2.2.1
        split at hq
        · rename_i hp
          repeat' (first | (intro hh; exfalso; omega) | (refine And.intro (by first | assumption | omega) ?_) | (refine And.intro rfl ?_) | (refine And.intro ?_ ?_) | (intro qq hq1 hq2 hq3; have hq4 := hq2 (by omega) (by omega); subst hq4) | (intro hh) | omega | exact trivial)
          all_goals first | exact ih (b + 1) (z + 1) (by omega) (by omega) (by omega) (by omega) (ez_ret hq (by omega)) | (rename_i hz; rw [hp] at hz; cases hz; done)
        · rename_i hp
          have ih := ih (b + 1) (z + 0) (by omega) (by omega) (by omega) (by omega) (ez_ret hq (by omega))
          repeat' (first | (intro hh; exfalso; omega) | (refine And.intro (by first | assumption | omega) ?_) | (refine And.intro rfl ?_) | (refine And.intro ?_ ?_) | (intro qq hq1 hq2 hq3; have hq4 := hq2 (by omega) (by omega); subst hq4) | (intro hh) | omega | exact trivial)
          all_goals first | exact absurd (by assumption) hp | exact ih
      · have he : ff_whp (ff_N M) c d y b = ff_dhit (ff_N M) c d b := if_neg hb
        rw [he, ff_dhit_N] at hq
        have hr := ff_rby_r (h := M 1) (sw := M 0 2) (l := M 7 (11 * c).toNat) (date := d) (y := b) hv.2.2
        split at hq
        · rename_i hp
          repeat' (first | (intro hh; exfalso; omega) | (refine And.intro (by first | assumption | omega) ?_) | (refine And.intro rfl ?_) | (refine And.intro ?_ ?_) | (intro qq hq1 hq2 hq3; have hq4 := hq2 (by omega) (by omega); subst hq4) | (intro hh) | omega | exact trivial)
          all_goals first | exact ih (b + 1) (z + 1) (by omega) (by omega) (by omega) (by omega) (ez_ret hq (by omega)) | (rename_i hz; rw [hp] at hz; cases hz; done)
        · rename_i hp
          have ih := ih (b + 1) (z + 0) (by omega) (by omega) (by omega) (by omega) (ez_ret hq (by omega))
          repeat' (first | (intro hh; exfalso; omega) | (refine And.intro (by first | assumption | omega) ?_) | (refine And.intro rfl ?_) | (refine And.intro ?_ ?_) | (intro qq hq1 hq2 hq3; have hq4 := hq2 (by omega) (by omega); subst hq4) | (intro hh) | omega | exact trivial)
          all_goals first | exact absurd (by assumption) hp | exact ih
  refine hkut [(16, [0, 1, 2, 3, 4, 5])] 60 0 _ _ _ ?_
  repeat' (first | (intro hh; exfalso; omega) | (refine And.intro (by first | assumption | omega) ?_) | (refine And.intro rfl ?_) | (refine And.intro ?_ ?_) | (intro qq hq1 hq2 hq3; have hq4 := hq2 (by omega) (by omega); subst hq4) | (intro hh) | omega | exact trivial)
  all_goals exact loop (M 7 (11 * c + 4).toNat - M 7 (11 * c + 3).toNat + 1).toNat _ 0 (by omega) (by omega) (by omega) (by omega) (ez_ret hsp (by rw [Int.zero_add]; rfl))
theorem so_X6_whenOf : ez_Sound LM yX6_whenOf cX6_whenOf 7 (some .int) 3 sp_X6_whenOf := ez_sound (E := e_X6_whenOf) (prog := p_X6_whenOf) LM_ok (by decide +kernel) rfl (fun _ h => h) fo_X6 co_X6_ok (List.forall_mem_cons.mpr ⟨k_X6_161 (by decide), List.forall_mem_cons.mpr ⟨k_X6_174 (by decide), fun _ h => absurd h List.not_mem_nil⟩⟩) dp_X6_whenOf b_X6_whenOf
theorem k_X6_242 {d : Nat} (h : 3 < d) : ez_CallOK LM RX6 d (242, 6+1, 3, sp_X6_whenOf) := ez_callV (y := yX6_whenOf) (bytes := cX6_whenOf) so_X6_whenOf h (by decide) q_1049 q_78 ⟨by decide +kernel, by decide +kernel, by decide +kernel⟩ (Or.inl q_1046) q_1048 q_70 (T := TX6) (N := 28) rfl
def sp_X6_when : ez_Sp := fun as M Q => match as with | [.inr (.inr q), .inl c, .inl d, .inl y] => q = 0 ∧ ff_Inv (ff_N M) ∧ (∀ M' : ez_M, ff_N M' = ff_N M → Q (some (.inl (op_when (ff_N M) c d y))) M') | _ => False
def e_X6_when : ez_E := (fl_X6, co_X6, [(154, 6+1, 1, sp_X6_noChurch), (92, 0, 1, sp_X6_noDay), (111, 0, 1, sp_X6_noYear), (242, 6+1, 3, sp_X6_whenOf)], 0, 4)
set_option maxHeartbeats 4000000 in
set_option maxRecDepth 100000 in
theorem b_X6_when : ez_Body LM e_X6_when p_X6_when sp_X6_when := by
  intro as M Q has hM hsp
  unfold sp_X6_when at hsp
  split at hsp
  rotate_left
  · exact hsp.elim
  rename_i q c d y
  have g_c : -2147483648 ≤ c ∧ c ≤ 2147483647 := ez_hd (ez_tl (has))
  have g_d : -2147483648 ≤ d ∧ d ≤ 2147483647 := ez_hd (ez_tl (ez_tl (has)))
  have g_y : -2147483648 ≤ y ∧ y ≤ 2147483647 := ez_hd (ez_tl (ez_tl (ez_tl (has))))
  obtain ⟨rfl, hI, hsp⟩ := hsp
  refine ⟨Nat.le_of_ble_eq_true rfl, fun cut hcut hkut => ?_⟩
  suffices hgo : ∀ M' : ez_M, ff_N M' = ff_N M → cut 5 [(0, .inr (.inr 0)), (1, .inl c), (2, .inl d), (3, .inl y)] [] M' by
    refine hkut [(5, [0, 1, 2, 3])] 60 0 _ _ _ ?_
    exact hgo _ (ff_N_th M)
  clear hM
  intro M hth
  rw [← hth] at hI hsp
  clear hth
  have hn := ff_n_N hI
  have hsp := hsp M rfl
  unfold op_when at hsp
  refine hkut [] 60 5 _ _ _ ?_
  by_cases h1 : (0 ≤ c ∧ c < ff_N M 1 4) ∧ (0 ≤ d ∧ d ≤ 363) ∧ (0 ≤ y ∧ y ≤ 599)
  · have h1m : (0 ≤ c ∧ c < M 0 13) ∧ (0 ≤ d ∧ d ≤ 363) ∧ (0 ≤ y ∧ y ≤ 599) := h1
    rw [if_pos h1] at hsp
    by_cases h2 : ff_N M 5 (11 * c + 5).toNat = -9
    · have h2m : M 7 (11 * c + 5).toNat = -9 := h2
      rw [if_pos h2] at hsp
      repeat' (first | (intro hh; exfalso; omega) | (refine And.intro (by first | assumption | omega) ?_) | (refine And.intro rfl ?_) | (refine And.intro ?_ ?_) | (intro qq hq1 hq2 hq3; have hq4 := hq2 (by omega) (by omega); subst hq4) | (intro hh) | omega | exact trivial)
      all_goals exact hsp
    · have h2m : ¬ M 7 (11 * c + 5).toNat = -9 := h2
      rw [if_neg h2] at hsp
      repeat' (first | (intro hh; exfalso; omega) | (refine And.intro (by first | assumption | omega) ?_) | (refine And.intro rfl ?_) | (refine And.intro ?_ ?_) | (intro qq hq1 hq2 hq3; have hq4 := hq2 (by omega) (by omega); subst hq4) | (intro hh) | omega | exact trivial)
      all_goals exact hsp
  · have h1m : ¬ ((0 ≤ c ∧ c < M 0 13) ∧ (0 ≤ d ∧ d ≤ 363) ∧ (0 ≤ y ∧ y ≤ 599)) := h1
    rw [if_neg h1] at hsp
    repeat' (first | (intro hh; exfalso; omega) | (refine And.intro (by first | assumption | omega) ?_) | (refine And.intro rfl ?_) | (refine And.intro ?_ ?_) | (intro qq hq1 hq2 hq3; have hq4 := hq2 (by omega) (by omega); subst hq4) | (intro hh) | omega | exact trivial)
    all_goals exact hsp
theorem so_X6_when : ez_Sound LM yX6_when cX6_when 4 (some .int) 4 sp_X6_when := ez_sound (E := e_X6_when) (prog := p_X6_when) LM_ok (by decide +kernel) rfl (fun _ h => h) fo_X6 co_X6_ok (List.forall_mem_cons.mpr ⟨k_X6_154 (by decide), List.forall_mem_cons.mpr ⟨k_X6_92 (by decide), List.forall_mem_cons.mpr ⟨k_X6_111 (by decide), List.forall_mem_cons.mpr ⟨k_X6_242 (by decide), fun _ h => absurd h List.not_mem_nil⟩⟩⟩⟩) dp_X6_when b_X6_when
