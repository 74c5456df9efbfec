def sp_X5_when : ez_Sp := fun as M Q => match as with | [.inr (.inr q), .inl c, .inl d, .inl y] => q = 0 ∧ ff_Inv (ff_X M) ∧ (∀ M' : ez_M, ff_X M' = ff_X M → Q (some (.inl (op_when (ff_X M) c d y))) M') | _ => False
def e_X5_when : ez_E := (fl_X5, co_X5, [(133, 1+1, 1, sp_X1_has), (97, 0, 1, sp_X5_isDate), (100, 0, 1, sp_X5_isYear), (211, 1+1, 2, sp_X1_knows), (139, 1+1, 2, sp_X1_get), (218, 5+1, 3, sp_X5_dateHits)], 0, 8)
set_option maxHeartbeats 4000000 in
set_option maxRecDepth 100000 in
theorem b_X5_when : ez_Body LX e_X5_when p_X5_when sp_X5_when := by
  intro as M Q has hM hsp
  unfold sp_X5_when at hsp
  split at hsp
  rotate_left
  · exact hsp.elim
  rename_i q c d y
  have g_c : -2147483648 ≤ c ∧ c ≤ 2147483647 := ez_hd (ez_tl (has))
  have g_d : -2147483648 ≤ d ∧ d ≤ 2147483647 := ez_hd (ez_tl (ez_tl (has)))
  have g_y : -2147483648 ≤ y ∧ y ≤ 2147483647 := ez_hd (ez_tl (ez_tl (ez_tl (has))))
  obtain ⟨rfl, hI, hsp⟩ := hsp
  have hn := ff_n_X hI
  have hsp := hsp M rfl
  unfold op_when at hsp
  by_cases h1 : (0 ≤ c ∧ c < ff_X M 1 4) ∧ (0 ≤ d ∧ d ≤ 363) ∧ (0 ≤ y ∧ y ≤ 599)
  · have h1m : (0 ≤ c ∧ c < M 7 1) ∧ (0 ≤ d ∧ d ≤ 363) ∧ (0 ≤ y ∧ y ≤ 599) := h1
    rw [if_pos h1] at hsp
    by_cases h2 : ff_X M 5 (11 * c + 5).toNat = -9
    · have h2m : M 8 (11 * c + 5).toNat = -9 := h2
      rw [if_pos h2] at hsp
      refine ⟨Nat.le_of_ble_eq_true rfl, fun cut hcut hkut => hcut [] 80 0 _ _ _ ?_⟩
      repeat' (first | (intro hh; exfalso; omega) | (refine And.intro (by first | assumption | omega) ?_) | (refine And.intro rfl ?_) | (refine And.intro ?_ ?_) | (intro qq hq1 hq2 hq3; have hq4 := hq2 (by omega) (by omega); subst hq4) | (intro hh) | omega | exact trivial)
      all_goals exact hsp
    · have h2m : ¬ M 8 (11 * c + 5).toNat = -9 := h2
      rw [if_neg h2] at hsp
      have hc := ff_ch_X hI (c := c) h1.1.1 h1.1.2
      unfold ff_ch at hc
      refine ⟨Nat.le_of_ble_eq_true rfl, fun cut hcut hkut => ?_⟩
      have loop : ∀ (n : Nat) (b z : Int), b + n = M 8 (11 * c + 4).toNat + 1 → 0 ≤ b → 0 ≤ z → z + n ≤ 61 → Q (some (.inl (z + ff_cn (ff_whp (ff_X M) c d y) n b))) M → cut 78 [(0, .inr (.inr 0)), (1, .inl c), (2, .inl d), (3, .inl y), (4, .inl (M 8 (11 * c + 5).toNat)), (5, .inl (M 8 (11 * c + 4).toNat)), (6, .inl z), (7, .inl b)] [] M := by
        intro n
        induction n with
        | zero =>
          intro b z hy h0 hz0 hz1 hq
          refine hkut [(78, [0, 1, 2, 3, 4, 5, 6, 7])] 60 78 _ _ _ ?_
          simp only [ff_cn, Int.add_zero] at hq
          repeat' (first | (intro hh; exfalso; omega) | (refine And.intro (by first | assumption | omega) ?_) | (refine And.intro rfl ?_) | (refine And.intro ?_ ?_) | (intro qq hq1 hq2 hq3; have hq4 := hq2 (by omega) (by omega); subst hq4) | (intro hh) | omega | exact trivial)
          all_goals exact hq
        | succ n ih =>
          intro b z hy h0 hz0 hz1 hq
          simp only [ff_cn] at hq
          refine hkut [(78, [0, 1, 2, 3, 4, 5, 6, 7])] 60 78 _ _ _ ?_
          by_cases hb : b < y
          · have he : ff_whp (ff_X M) c d y b = ff_dhit (ff_X M) c (M 8 (11 * c + 5).toNat) b := if_pos hb
            rw [he] at hq
            split at hq
            · rename_i hp
              repeat' (first | (intro hh; exfalso; omega) | (refine And.intro (by first | assumption | omega) ?_) | (refine And.intro rfl ?_) | (refine And.intro ?_ ?_) | (intro qq hq1 hq2 hq3; have hq4 := hq2 (by omega) (by omega); subst hq4) | (intro hh) | omega | exact trivial)
              all_goals first | exact ih (b + 1) (z + 1) (by omega) (by omega) (by omega) (by omega) (ez_ret hq (by omega)) | (rename_i hz; rw [hp] at hz; cases hz; done)
            · rename_i hp
              repeat' (first | (intro hh; exfalso; omega) | (refine And.intro (by first | assumption | omega) ?_) | (refine And.intro rfl ?_) | (refine And.intro ?_ ?_) | (intro qq hq1 hq2 hq3; have hq4 := hq2 (by omega) (by omega); subst hq4) | (intro hh) | omega | exact trivial)
              all_goals first | exact absurd (by assumption) hp | exact ih (b + 1) z (by omega) (by omega) (by omega) (by omega) (ez_ret hq (by omega))
          · have he : ff_whp (ff_X M) c d y b = ff_dhit (ff_X M) c d b := if_neg hb
            rw [he] at hq
            split at hq
            · rename_i hp
              repeat' (first | (intro hh; exfalso; omega) | (refine And.intro (by first | assumption | omega) ?_) | (refine And.intro rfl ?_) | (refine And.intro ?_ ?_) | (intro qq hq1 hq2 hq3; have hq4 := hq2 (by omega) (by omega); subst hq4) | (intro hh) | omega | exact trivial)
              all_goals first | exact ih (b + 1) (z + 1) (by omega) (by omega) (by omega) (by omega) (ez_ret hq (by omega)) | (rename_i hz; rw [hp] at hz; cases hz; done)
            · rename_i hp
              repeat' (first | (intro hh; exfalso; omega) | (refine And.intro (by first | assumption | omega) ?_) | (refine And.intro rfl ?_) | (refine And.intro ?_ ?_) | (intro qq hq1 hq2 hq3; have hq4 := hq2 (by omega) (by omega); subst hq4) | (intro hh) | omega | exact trivial)
              all_goals first | exact absurd (by assumption) hp | exact ih (b + 1) z (by omega) (by omega) (by omega) (by omega) (ez_ret hq (by omega))
      refine hkut [(78, [0, 1, 2, 3, 4, 5, 6, 7])] 60 0 _ _ _ ?_
      repeat' (first | (intro hh; exfalso; omega) | (refine And.intro (by first | assumption | omega) ?_) | (refine And.intro rfl ?_) | (refine And.intro ?_ ?_) | (intro qq hq1 hq2 hq3; have hq4 := hq2 (by omega) (by omega); subst hq4) | (intro hh) | omega | exact trivial)
      all_goals exact loop (M 8 (11 * c + 4).toNat - M 8 (11 * c + 3).toNat + 1).toNat _ 0 (by omega) (by omega) (by omega) (by omega) (ez_ret hsp (by rw [Int.zero_add]; rfl))
  · have h1m : ¬ ((0 ≤ c ∧ c < M 7 1) ∧ (0 ≤ d ∧ d ≤ 363) ∧ (0 ≤ y ∧ y ≤ 599)) := h1
    rw [if_neg h1] at hsp
    refine ⟨Nat.le_of_ble_eq_true rfl, fun cut hcut hkut => hcut [] 60 0 _ _ _ ?_⟩
    repeat' (first | (intro hh; exfalso; omega) | (refine And.intro (by first | assumption | omega) ?_) | (refine And.intro rfl ?_) | (refine And.intro ?_ ?_) | (intro qq hq1 hq2 hq3; have hq4 := hq2 (by omega) (by omega); subst hq4) | (intro hh) | omega | exact trivial)
    all_goals exact hsp
theorem so_X5_when : ez_Sound LX yX5_when cX5_when 8 (some .int) 4 sp_X5_when := ez_sound (E := e_X5_when) (prog := p_X5_when) LX_ok (by decide +kernel) rfl (fun _ h => h) fo_X5 co_X5_ok (List.forall_mem_cons.mpr ⟨k_X5_133 (by decide), List.forall_mem_cons.mpr ⟨k_X5_97 (by decide), List.forall_mem_cons.mpr ⟨k_X5_100 (by decide), List.forall_mem_cons.mpr ⟨k_X5_211 (by decide), List.forall_mem_cons.mpr ⟨k_X5_139 (by decide), List.forall_mem_cons.mpr ⟨k_X5_218 (by decide), fun _ h => absurd h List.not_mem_nil⟩⟩⟩⟩⟩⟩) dp_X5_when b_X5_when
def sp_X5_since : ez_Sp := fun as M Q => match as with | [.inr (.inr q), .inl c, .inl d] => q = 0 ∧ ff_Inv (ff_X M) ∧ (∀ M' : ez_M, ff_X M' = ff_X M → Q (some (.inl (op_since (ff_X M) c d))) M') | _ => False
def e_X5_since : ez_E := (fl_X5, co_X5, [(133, 1+1, 1, sp_X1_has), (97, 0, 1, sp_X5_isDate), (211, 1+1, 2, sp_X1_knows), (139, 1+1, 2, sp_X1_get), (218, 5+1, 3, sp_X5_dateHits)], 0, 9)
set_option maxHeartbeats 4000000 in
set_option maxRecDepth 100000 in
theorem b_X5_since : ez_Body LX e_X5_since p_X5_since sp_X5_since := by
  intro as M Q has hM hsp
  unfold sp_X5_since at hsp
  split at hsp
  rotate_left
  · exact hsp.elim
  rename_i q c d
  have g_c : -2147483648 ≤ c ∧ c ≤ 2147483647 := ez_hd (ez_tl (has))
  have g_d : -2147483648 ≤ d ∧ d ≤ 2147483647 := ez_hd (ez_tl (ez_tl (has)))
  obtain ⟨rfl, hI, hsp⟩ := hsp
  have hn := ff_n_X hI
  have hsp := hsp M rfl
  unfold op_since at hsp
  by_cases h1 : (0 ≤ c ∧ c < ff_X M 1 4) ∧ (0 ≤ d ∧ d ≤ 363)
  · have h1m : (0 ≤ c ∧ c < M 7 1) ∧ (0 ≤ d ∧ d ≤ 363) := h1
    rw [if_pos h1] at hsp
    by_cases h2 : ff_X M 5 (11 * c + 5).toNat = -9
    · have h2m : M 8 (11 * c + 5).toNat = -9 := h2
      rw [if_pos h2] at hsp
      refine ⟨Nat.le_of_ble_eq_true rfl, fun cut hcut hkut => hcut [] 80 0 _ _ _ ?_⟩
      repeat' (first | (intro hh; exfalso; omega) | (refine And.intro (by first | assumption | omega) ?_) | (refine And.intro rfl ?_) | (refine And.intro ?_ ?_) | (intro qq hq1 hq2 hq3; have hq4 := hq2 (by omega) (by omega); subst hq4) | (intro hh) | omega | exact trivial)
      all_goals exact hsp
    · have h2m : ¬ M 8 (11 * c + 5).toNat = -9 := h2
      rw [if_neg h2] at hsp
      have hc := ff_ch_X hI (c := c) h1.1.1 h1.1.2
      unfold ff_ch at hc
      refine ⟨Nat.le_of_ble_eq_true rfl, fun cut hcut hkut => ?_⟩
      have loop : ∀ (n : Nat) (b m z s : Int), b + n = M 8 (11 * c + 4).toNat + 1 → 0 ≤ b → -61 + n ≤ m → m + n ≤ 61 → Q (some (.inl (ff_sn (ff_dhit (ff_X M) c (M 8 (11 * c + 5).toNat)) (ff_dhit (ff_X M) c d) n b m z s))) M → cut 76 [(0, .inr (.inr 0)), (1, .inl c), (2, .inl d), (3, .inl (M 8 (11 * c + 5).toNat)), (4, .inl (M 8 (11 * c + 4).toNat)), (5, .inl m), (6, .inl z), (7, .inl s), (8, .inl b)] [] M := by
        intro n
        induction n with
        | zero =>
          intro b m z s hy h0 hm0 hm1 hq
          refine hkut [(76, [0, 1, 2, 3, 4, 5, 6, 7, 8])] 60 76 _ _ _ ?_
          repeat' (first | (intro hh; exfalso; omega) | (refine And.intro (by first | assumption | omega) ?_) | (refine And.intro rfl ?_) | (refine And.intro ?_ ?_) | (intro qq hq1 hq2 hq3; have hq4 := hq2 (by omega) (by omega); subst hq4) | (intro hh) | omega | exact trivial)
          all_goals exact hq
        | succ n ih =>
          intro b m z s hy h0 hm0 hm1 hq
          simp only [ff_sn] at hq
          refine hkut [(76, [0, 1, 2, 3, 4, 5, 6, 7, 8])] 60 76 _ _ _ ?_
          cases hp : ff_dhit (ff_X M) c (M 8 (11 * c + 5).toNat) b <;> cases hr : ff_dhit (ff_X M) c d b
          all_goals
            simp only [hp, hr, ff_b2, if_true, if_false, Int.add_zero, Int.sub_zero, Bool.false_eq_true] at hq
            split at hq
          all_goals
            repeat' (first | (intro hh; exfalso; omega) | (refine And.intro (by first | assumption | omega) ?_) | (refine And.intro rfl ?_) | (refine And.intro ?_ ?_) | (intro qq hq1 hq2 hq3; have hq4 := hq2 (by omega) (by omega); subst hq4) | (intro hh) | omega | exact trivial)
          all_goals first | exact ih (b + 1) _ _ _ (by omega) (by omega) (by omega) (by omega) hq | (exfalso; simp_all; done)
      refine hkut [(76, [0, 1, 2, 3, 4, 5, 6, 7, 8])] 60 0 _ _ _ ?_
      repeat' (first | (intro hh; exfalso; omega) | (refine And.intro (by first | assumption | omega) ?_) | (refine And.intro rfl ?_) | (refine And.intro ?_ ?_) | (intro qq hq1 hq2 hq3; have hq4 := hq2 (by omega) (by omega); subst hq4) | (intro hh) | omega | exact trivial)
      all_goals exact loop (M 8 (11 * c + 4).toNat - M 8 (11 * c + 3).toNat + 1).toNat _ 0 0 0 (by omega) (by omega) (by omega) (by omega) hsp
  · have h1m : ¬ ((0 ≤ c ∧ c < M 7 1) ∧ (0 ≤ d ∧ d ≤ 363)) := h1
    rw [if_neg h1] at hsp
    refine ⟨Nat.le_of_ble_eq_true rfl, fun cut hcut hkut => hcut [] 60 0 _ _ _ ?_⟩
    repeat' (first | (intro hh; exfalso; omega) | (refine And.intro (by first | assumption | omega) ?_) | (refine And.intro rfl ?_) | (refine And.intro ?_ ?_) | (intro qq hq1 hq2 hq3; have hq4 := hq2 (by omega) (by omega); subst hq4) | (intro hh) | omega | exact trivial)
    all_goals exact hsp
theorem so_X5_since : ez_Sound LX yX5_since cX5_since 9 (some .int) 4 sp_X5_since := ez_sound (E := e_X5_since) (prog := p_X5_since) LX_ok (by decide +kernel) rfl (fun _ h => h) fo_X5 co_X5_ok (List.forall_mem_cons.mpr ⟨k_X5_133 (by decide), List.forall_mem_cons.mpr ⟨k_X5_97 (by decide), List.forall_mem_cons.mpr ⟨k_X5_211 (by decide), List.forall_mem_cons.mpr ⟨k_X5_139 (by decide), List.forall_mem_cons.mpr ⟨k_X5_218 (by decide), fun _ h => absurd h List.not_mem_nil⟩⟩⟩⟩⟩) dp_X5_since b_X5_since
def sp_X5_choir : ez_Sp := fun as M Q => match as with | [.inr (.inr q), .inl c, .inl l, .inl f, .inl t] => q = 0 ∧ ff_Inv (ff_X M) ∧ (∀ M' : ez_M, ff_X M' = op_choir_s (ff_X M) c l f t → Q (some (.inl (op_choir (ff_X M) c l f t))) M') | _ => False
def e_X5_choir : ez_E := (fl_X5, co_X5, [(133, 1+1, 1, sp_X1_has), (65, 0, 1, sp_X5_isDegree), (100, 0, 1, sp_X5_isYear), (83, 0, 3, sp_X5_within), (139, 1+1, 2, sp_X1_get), (136, 1+1, 3, sp_X1_change)], 0, 5)
set_option maxHeartbeats 4000000 in
set_option maxRecDepth 100000 in
theorem b_X5_choir : ez_Body LX e_X5_choir p_X5_choir sp_X5_choir := by
  intro as M Q has hM hsp
  unfold sp_X5_choir at hsp
  split at hsp
  rotate_left
  · exact hsp.elim
  rename_i q c l f t
  have g_c : -2147483648 ≤ c ∧ c ≤ 2147483647 := ez_hd (ez_tl (has))
  have g_l : -2147483648 ≤ l ∧ l ≤ 2147483647 := ez_hd (ez_tl (ez_tl (has)))
  have g_f : -2147483648 ≤ f ∧ f ≤ 2147483647 := ez_hd (ez_tl (ez_tl (ez_tl (has))))
  have g_t : -2147483648 ≤ t ∧ t ≤ 2147483647 := ez_hd (ez_tl (ez_tl (ez_tl (ez_tl (has)))))
  obtain ⟨rfl, hI, hsp⟩ := hsp
  have hn := ff_n_X hI
  have hx : ff_X (ez_up (ez_up (ez_up M 8 (11 * c + 9).toNat f) 8 (11 * c + 10).toNat t) 8 (11 * c + 8).toNat l) = ez_up (ez_up (ez_up (ff_X M) 5 (11 * c + 9).toNat f) 5 (11 * c + 10).toNat t) 5 (11 * c + 8).toNat l := by rw [ff_X_told, ff_X_told, ff_X_told]
  unfold op_choir op_choir_s at hsp
  refine ⟨Nat.le_of_ble_eq_true rfl, fun cut hcut hkut => hcut [] 100 0 _ _ _ ?_⟩
  by_cases h1 : (0 ≤ c ∧ c < ff_X M 1 4) ∧ (0 ≤ l ∧ l ≤ 359) ∧ (0 ≤ f ∧ f ≤ 599) ∧ (0 ≤ t ∧ t ≤ 599)
  · have h1m : (0 ≤ c ∧ c < M 7 1) ∧ (0 ≤ l ∧ l ≤ 359) ∧ (0 ≤ f ∧ f ≤ 599) ∧ (0 ≤ t ∧ t ≤ 599) := h1
    by_cases h2 : 0 ≤ t - f ∧ t - f ≤ 60
    · by_cases h3 : ff_X M 5 (11 * c + 4).toNat < f
      · have h3m : M 8 (11 * c + 4).toNat < f := h3
        rw [if_pos ⟨h1, h2, h3⟩, if_pos h1, if_pos h2, if_pos h3] at hsp
        have hsp := hsp _ hx
        have e9 : ¬ (11 * c + 8).toNat = (11 * c + 9).toNat := by omega
        have e10 : ¬ (11 * c + 8).toNat = (11 * c + 10).toNat := by omega
        repeat' (first | (intro hh; exfalso; omega) | (refine And.intro (by first | assumption | omega) ?_) | (refine And.intro rfl ?_) | (refine And.intro ?_ ?_) | (intro qq hq1 hq2 hq3; have hq4 := hq2 (by omega) (by omega); subst hq4) | (intro hh) | omega | exact trivial)
        all_goals refine ez_ret hsp ?_
        all_goals
          simp only [ez_up, e9, e10, and_false, if_false]
          rfl
      · have h3m : ¬ M 8 (11 * c + 4).toNat < f := h3
        rw [if_neg (fun z => h3 z.2.2), if_pos h1, if_pos h2, if_neg h3] at hsp
        have hsp := hsp M rfl
        repeat' (first | (intro hh; exfalso; omega) | (refine And.intro (by first | assumption | omega) ?_) | (refine And.intro rfl ?_) | (refine And.intro ?_ ?_) | (intro qq hq1 hq2 hq3; have hq4 := hq2 (by omega) (by omega); subst hq4) | (intro hh) | omega | exact trivial)
        all_goals exact hsp
    · rw [if_neg (fun z => h2 z.2.1), if_pos h1, if_neg h2] at hsp
      have hsp := hsp M rfl
      repeat' (first | (intro hh; exfalso; omega) | (refine And.intro (by first | assumption | omega) ?_) | (refine And.intro rfl ?_) | (refine And.intro ?_ ?_) | (intro qq hq1 hq2 hq3; have hq4 := hq2 (by omega) (by omega); subst hq4) | (intro hh) | omega | exact trivial)
      all_goals exact hsp
  · have h1m : ¬ ((0 ≤ c ∧ c < M 7 1) ∧ (0 ≤ l ∧ l ≤ 359) ∧ (0 ≤ f ∧ f ≤ 599) ∧ (0 ≤ t ∧ t ≤ 599)) := h1
    rw [if_neg (fun z => h1 z.1), if_neg h1] at hsp
    have hsp := hsp M rfl
    repeat' (first | (intro hh; exfalso; omega) | (refine And.intro (by first | assumption | omega) ?_) | (refine And.intro rfl ?_) | (refine And.intro ?_ ?_) | (intro qq hq1 hq2 hq3; have hq4 := hq2 (by omega) (by omega); subst hq4) | (intro hh) | omega | exact trivial)
    all_goals exact hsp
theorem so_X5_choir : ez_Sound LX yX5_choir cX5_choir 5 (some .int) 3 sp_X5_choir := ez_sound (E := e_X5_choir) (prog := p_X5_choir) LX_ok (by decide +kernel) rfl (fun _ h => h) fo_X5 co_X5_ok (List.forall_mem_cons.mpr ⟨k_X5_133 (by decide), List.forall_mem_cons.mpr ⟨k_X5_65 (by decide), List.forall_mem_cons.mpr ⟨k_X5_100 (by decide), List.forall_mem_cons.mpr ⟨k_X5_83 (by decide), List.forall_mem_cons.mpr ⟨k_X5_139 (by decide), List.forall_mem_cons.mpr ⟨k_X5_136 (by decide), fun _ h => absurd h List.not_mem_nil⟩⟩⟩⟩⟩⟩) dp_X5_choir b_X5_choir
theorem ff_X_keep0 (M : ez_M) : ff_X (ff_take M 9 7) = op_keep_s (ff_X M) 0 := by
  unfold op_keep_s
  rw [if_pos rfl]
  funext r j
  rcases r with _ | _ | _ | _ | _ | _ | _ | _ | _ | _ | r
  · rfl
  · rcases j with _ | _ | _ | _ | _ | j <;> rfl
  · rfl
  · rfl
  · rfl
  · rfl
  · rfl
  · show (if j < 110 then ff_take M 9 7 10 j else 0) = (if j < 110 then M 8 j else 0)
    by_cases hj : j < 110
    · rw [if_pos hj, if_pos hj]; simp [ff_take, hj]
    · rw [if_neg hj, if_neg hj]
  · show (if j < 110 then ff_take M 9 7 12 j else 0) = (if j < 110 then M 12 j else 0)
    by_cases hj : j < 110
    · rw [if_pos hj, if_pos hj]; simp [ff_take]
    · rw [if_neg hj, if_neg hj]
  · rcases j with _ | _ | _ | _ | j <;> rfl
  · rfl
theorem ff_X_keep1 (M : ez_M) : ff_X (ff_take M 11 7) = op_keep_s (ff_X M) 1 := by
  unfold op_keep_s
  rw [if_neg (by decide), if_pos rfl]
  funext r j
  rcases r with _ | _ | _ | _ | _ | _ | _ | _ | _ | _ | r
  · rfl
  · rcases j with _ | _ | _ | _ | _ | j <;> rfl
  · rfl
  · rfl
  · rfl
  · rfl
  · rfl
  · show (if j < 110 then ff_take M 11 7 10 j else 0) = (if j < 110 then M 10 j else 0)
    by_cases hj : j < 110
    · rw [if_pos hj, if_pos hj]; simp [ff_take]
    · rw [if_neg hj, if_neg hj]
  · show (if j < 110 then ff_take M 11 7 12 j else 0) = (if j < 110 then M 8 j else 0)
    by_cases hj : j < 110
    · rw [if_pos hj, if_pos hj]; simp [ff_take, hj]
    · rw [if_neg hj, if_neg hj]
  · rcases j with _ | _ | _ | _ | j <;> rfl
  · rfl
theorem ff_X_again0 (M : ez_M) : ff_X (ff_take M 7 9) = fun r j => if r = 5 then (if j < 110 then ff_X M 7 j else ff_X M 5 j) else if r = 1 ∧ j = 4 then ff_X M 9 0 else ff_X M r j := by
  funext r j
  rcases r with _ | _ | _ | _ | _ | _ | _ | _ | _ | _ | r
  · rfl
  · rcases j with _ | _ | _ | _ | _ | j <;> rfl
  · rfl
  · rfl
  · rfl
  · show ff_take M 7 9 8 j = (if j < 110 then (if j < 110 then M 10 j else 0) else M 8 j)
    by_cases hj : j < 110
    · rw [if_pos hj, if_pos hj]; simp [ff_take, hj]
    · rw [if_neg hj]; simp [ff_take, hj]
  · rfl
  · rfl
  · rfl
  · rcases j with _ | _ | _ | _ | j <;> rfl
  · rfl
theorem ff_X_again1 (M : ez_M) : ff_X (ff_take M 7 11) = fun r j => if r = 5 then (if j < 110 then ff_X M 8 j else ff_X M 5 j) else if r = 1 ∧ j = 4 then ff_X M 9 1 else ff_X M r j := by
  funext r j
  rcases r with _ | _ | _ | _ | _ | _ | _ | _ | _ | _ | r
  · rfl
  · rcases j with _ | _ | _ | _ | _ | j <;> rfl
  · rfl
  · rfl
  · rfl
  · show ff_take M 7 11 8 j = (if j < 110 then (if j < 110 then M 12 j else 0) else M 8 j)
    by_cases hj : j < 110
    · rw [if_pos hj, if_pos hj]; simp [ff_take, hj]
    · rw [if_neg hj]; simp [ff_take, hj]
  · rfl
  · rfl
  · rfl
  · rcases j with _ | _ | _ | _ | j <;> rfl
  · rfl
theorem k_X5_221 {d : Nat} (h : 1 < d) : ez_CallOK LX RX5 d (221, 0, 1, sp_X5_isSlot) := ez_callS (y := yX5_isSlot) (bytes := cX5_isSlot) so_X5_isSlot h (by decide) q_634 q_72 ⟨by decide +kernel, by decide +kernel, by decide +kernel⟩ (Or.inl q_632) q_633
theorem k_X5_224 {d : Nat} (h : 0 < d) : ez_CallOK LX RX5 d (224, 5+1, 1, sp_X5_slotAt) := ez_callV (y := yX5_slotAt) (bytes := cX5_slotAt) so_X5_slotAt h (by decide) q_638 q_72 ⟨by decide +kernel, by decide +kernel, by decide +kernel⟩ (Or.inl q_635) q_637 q_43 (T := TX5) (N := 10) rfl
theorem k_X5_228 {d : Nat} (h : 1 < d) : ez_CallOK LX RX5 d (228, 1+1, 1, sp_X1_takeAll) := ez_callV (y := yX1_takeAll) (bytes := cX1_takeAll) so_X1_takeAll h (by decide) q_642 q_75 ⟨by decide +kernel, by decide +kernel, by decide +kernel⟩ (Or.inr ⟨"EastNearly", q_639⟩) q_641 q_44 (T := TX1) (N := 3) rfl
def sp_X5_keep : ez_Sp := fun as M Q => match as with | [.inr (.inr q), .inl k] => q = 0 ∧ ff_Inv (ff_X M) ∧ (∀ M' : ez_M, ff_X M' = op_keep_s (ff_X M) k → Q (some (.inl (op_keep (ff_X M) k))) M') | _ => False
def e_X5_keep : ez_E := (fl_X5, co_X5, [(221, 0, 1, sp_X5_isSlot), (224, 5+1, 1, sp_X5_slotAt), (228, 1+1, 1, sp_X1_takeAll)], 0, 2)
set_option maxHeartbeats 4000000 in
set_option maxRecDepth 100000 in
theorem b_X5_keep : ez_Body LX e_X5_keep p_X5_keep sp_X5_keep := by
  intro as M Q has hM hsp
  unfold sp_X5_keep at hsp
  split at hsp
  rotate_left
  · exact hsp.elim
  rename_i q k
  have g_k : -2147483648 ≤ k ∧ k ≤ 2147483647 := ez_hd (ez_tl (has))
  obtain ⟨rfl, hI, hsp⟩ := hsp
  have hn := ff_n_X hI
  unfold op_keep at hsp
  refine ⟨Nat.le_of_ble_eq_true rfl, fun cut hcut hkut => hcut [] 60 0 _ _ _ ?_⟩
  by_cases h0 : k = 0
  · subst h0
    have hsp := hsp _ (ff_X_keep0 M)
    rw [if_pos (by decide)] at hsp
    repeat' (first | (intro hh; exfalso; omega) | (refine And.intro (by first | assumption | omega) ?_) | (refine And.intro rfl ?_) | (refine And.intro ?_ ?_) | (intro qq hq1 hq2 hq3; have hq4 := hq2 (by omega) (by omega); subst hq4) | (intro hh) | omega | exact trivial)
    all_goals exact hsp
  · by_cases h1 : k = 1
    · subst h1
      have hsp := hsp _ (ff_X_keep1 M)
      rw [if_pos (by decide)] at hsp
      repeat' (first | (intro hh; exfalso; omega) | (refine And.intro (by first | assumption | omega) ?_) | (refine And.intro rfl ?_) | (refine And.intro ?_ ?_) | (intro qq hq1 hq2 hq3; have hq4 := hq2 (by omega) (by omega); subst hq4) | (intro hh) | omega | exact trivial)
      all_goals exact hsp
    · have hsp := hsp M (by unfold op_keep_s; rw [if_neg h0, if_neg h1])
      rw [if_neg (by omega)] at hsp
      repeat' (first | (intro hh; exfalso; omega) | (refine And.intro (by first | assumption | omega) ?_) | (refine And.intro rfl ?_) | (refine And.intro ?_ ?_) | (intro qq hq1 hq2 hq3; have hq4 := hq2 (by omega) (by omega); subst hq4) | (intro hh) | omega | exact trivial)
      all_goals exact hsp
theorem so_X5_keep : ez_Sound LX yX5_keep cX5_keep 2 (some .int) 2 sp_X5_keep := ez_sound (E := e_X5_keep) (prog := p_X5_keep) LX_ok (by decide +kernel) rfl (fun _ h => h) fo_X5 co_X5_ok (List.forall_mem_cons.mpr ⟨k_X5_221 (by decide), List.forall_mem_cons.mpr ⟨k_X5_224 (by decide), List.forall_mem_cons.mpr ⟨k_X5_228 (by decide), fun _ h => absurd h List.not_mem_nil⟩⟩⟩) dp_X5_keep b_X5_keep
def sp_X5_again : ez_Sp := fun as M Q => match as with | [.inr (.inr q), .inl k] => q = 0 ∧ ff_Inv (ff_X M) ∧ (∀ M' : ez_M, ff_X M' = op_again_s (ff_X M) k → Q (some (.inl (op_again (ff_X M) k))) M') | _ => False
def e_X5_again : ez_E := (fl_X5, co_X5, [(221, 0, 1, sp_X5_isSlot), (224, 5+1, 1, sp_X5_slotAt), (228, 1+1, 1, sp_X1_takeAll)], 0, 2)
set_option maxHeartbeats 4000000 in
set_option maxRecDepth 100000 in
theorem b_X5_again : ez_Body LX e_X5_again p_X5_again sp_X5_again := by
  intro as M Q has hM hsp
  unfold sp_X5_again at hsp
  split at hsp
  rotate_left
  · exact hsp.elim
  rename_i q k
  have g_k : -2147483648 ≤ k ∧ k ≤ 2147483647 := ez_hd (ez_tl (has))
  obtain ⟨rfl, hI, hsp⟩ := hsp
  have hn := ff_n_X hI
  have ht := hI.2.2.2.2.2.2.1.2.2
  have ht : (M 9 2 = 0 ∨ M 9 2 = 1) ∧ (M 11 2 = 0 ∨ M 11 2 = 1) := ht
  unfold op_again op_again_s at hsp
  refine ⟨Nat.le_of_ble_eq_true rfl, fun cut hcut hkut => hcut [] 60 0 _ _ _ ?_⟩
  by_cases h0 : k = 0
  · subst h0
    rw [if_pos rfl, if_pos rfl] at hsp
    by_cases h2 : ff_X M 9 2 = 0
    · have h2m : M 9 2 = 0 := h2
      rw [if_pos h2, if_pos h2] at hsp
      have hsp := hsp M rfl
      repeat' (first | (intro hh; exfalso; omega) | (refine And.intro (by first | assumption | omega) ?_) | (refine And.intro rfl ?_) | (refine And.intro ?_ ?_) | (intro qq hq1 hq2 hq3; have hq4 := hq2 (by omega) (by omega); subst hq4) | (intro hh) | omega | exact trivial)
      all_goals exact hsp
    · have h2m : ¬ M 9 2 = 0 := h2
      rw [if_neg h2, if_neg h2] at hsp
      have hsp := hsp _ (ff_X_again0 M)
      repeat' (first | (intro hh; exfalso; omega) | (refine And.intro (by first | assumption | omega) ?_) | (refine And.intro rfl ?_) | (refine And.intro ?_ ?_) | (intro qq hq1 hq2 hq3; have hq4 := hq2 (by omega) (by omega); subst hq4) | (intro hh) | omega | exact trivial)
      all_goals exact hsp
  · rw [if_neg h0, if_neg h0] at hsp
    by_cases h1 : k = 1
    · subst h1
      rw [if_pos rfl, if_pos rfl] at hsp
      by_cases h2 : ff_X M 9 3 = 0
      · have h2m : M 11 2 = 0 := h2
        rw [if_pos h2, if_pos h2] at hsp
        have hsp := hsp M rfl
        repeat' (first | (intro hh; exfalso; omega) | (refine And.intro (by first | assumption | omega) ?_) | (refine And.intro rfl ?_) | (refine And.intro ?_ ?_) | (intro qq hq1 hq2 hq3; have hq4 := hq2 (by omega) (by omega); subst hq4) | (intro hh) | omega | exact trivial)
        all_goals exact hsp
      · have h2m : ¬ M 11 2 = 0 := h2
        rw [if_neg h2, if_neg h2] at hsp
        have hsp := hsp _ (ff_X_again1 M)
        repeat' (first | (intro hh; exfalso; omega) | (refine And.intro (by first | assumption | omega) ?_) | (refine And.intro rfl ?_) | (refine And.intro ?_ ?_) | (intro qq hq1 hq2 hq3; have hq4 := hq2 (by omega) (by omega); subst hq4) | (intro hh) | omega | exact trivial)
        all_goals exact hsp
    · rw [if_neg h1, if_neg h1] at hsp
      have hsp := hsp M rfl
      repeat' (first | (intro hh; exfalso; omega) | (refine And.intro (by first | assumption | omega) ?_) | (refine And.intro rfl ?_) | (refine And.intro ?_ ?_) | (intro qq hq1 hq2 hq3; have hq4 := hq2 (by omega) (by omega); subst hq4) | (intro hh) | omega | exact trivial)
      all_goals exact hsp
theorem so_X5_again : ez_Sound LX yX5_again cX5_again 2 (some .int) 2 sp_X5_again := ez_sound (E := e_X5_again) (prog := p_X5_again) LX_ok (by decide +kernel) rfl (fun _ h => h) fo_X5 co_X5_ok (List.forall_mem_cons.mpr ⟨k_X5_221 (by decide), List.forall_mem_cons.mpr ⟨k_X5_224 (by decide), List.forall_mem_cons.mpr ⟨k_X5_228 (by decide), fun _ h => absurd h List.not_mem_nil⟩⟩⟩) dp_X5_again b_X5_again
def sp_X5_dated : ez_Sp := fun as M Q => match as with | [.inr (.inr q), .inl c, .inl w] => q = 0 ∧ ff_Inv (ff_X M) ∧ (∀ M' : ez_M, ff_X M' = ff_X M → Q (some (.inl (op_dated (ff_X M) c w))) M') | _ => False
def e_X5_dated : ez_E := (fl_X5, co_X5, [(133, 1+1, 1, sp_X1_has), (83, 0, 3, sp_X5_within), (151, 5+1, 3, sp_X5_ruleHits)], 0, 8)
set_option maxHeartbeats 4000000 in
set_option maxRecDepth 100000 in
theorem b_X5_dated : ez_Body LX e_X5_dated p_X5_dated sp_X5_dated := by
  intro as M Q has hM hsp
  unfold sp_X5_dated at hsp
  split at hsp
  rotate_left
  · exact hsp.elim
  rename_i q c w
  have g_c : -2147483648 ≤ c ∧ c ≤ 2147483647 := ez_hd (ez_tl (has))
  have g_w : -2147483648 ≤ w ∧ w ≤ 2147483647 := ez_hd (ez_tl (ez_tl (has)))
  obtain ⟨rfl, hI, hsp⟩ := hsp
  have hn := ff_n_X hI
  have hsp := hsp M rfl
  unfold op_dated at hsp
  by_cases h1 : 0 ≤ c ∧ c < ff_X M 1 4
  · have h1m : 0 ≤ c ∧ c < M 7 1 := h1
    rw [if_pos h1] at hsp
    by_cases h2 : 0 ≤ w ∧ w ≤ 3
    · rw [if_pos h2] at hsp
      refine ⟨Nat.le_of_ble_eq_true rfl, fun cut hcut hkut => ?_⟩
      generalize hA : ff_dt (ff_hit (ff_X M) 2 c) w 600 0 0 (-9) (-9) 0 = A at hsp
      have loop : ∀ (n : Nat) (y m f z s : Int), y + n = 600 → 0 ≤ y → 0 ≤ m → m ≤ y → 0 ≤ s → s ≤ y → -9 ≤ z → z < y → ff_dt (ff_hit (ff_X M) 2 c) w n y m f z s = A → cut 41 [(0, .inr (.inr 0)), (1, .inl c), (2, .inl w), (3, .inl m), (4, .inl f), (5, .inl z), (6, .inl s), (7, .inl y)] [] M := by
        intro n
        induction n with
        | zero =>
          intro y m f z s hy h0 hm0 hm1 hs0 hs1 hz0 hz1 hq
          simp only [ff_dt] at hq
          refine hkut [(41, [0, 1, 2, 3, 4, 5, 6, 7])] 60 41 _ _ _ ?_
          subst hq
          by_cases w0 : w = 0
          · rw [if_pos w0] at hsp
            repeat' (first | (intro hh; exfalso; omega) | (refine And.intro (by first | assumption | omega) ?_) | (refine And.intro rfl ?_) | (refine And.intro ?_ ?_) | (intro qq hq1 hq2 hq3; have hq4 := hq2 (by omega) (by omega); subst hq4) | (intro hh) | omega | exact trivial)
            all_goals exact hsp
          · rw [if_neg w0] at hsp
            by_cases w1 : w = 1
            · rw [if_pos w1] at hsp
              repeat' (first | (intro hh; exfalso; omega) | (refine And.intro (by first | assumption | omega) ?_) | (refine And.intro rfl ?_) | (refine And.intro ?_ ?_) | (intro qq hq1 hq2 hq3; have hq4 := hq2 (by omega) (by omega); subst hq4) | (intro hh) | omega | exact trivial)
              all_goals exact hsp
            · rw [if_neg w1] at hsp
              by_cases w2 : w = 2
              · rw [if_pos w2] at hsp
                repeat' (first | (intro hh; exfalso; omega) | (refine And.intro (by first | assumption | omega) ?_) | (refine And.intro rfl ?_) | (refine And.intro ?_ ?_) | (intro qq hq1 hq2 hq3; have hq4 := hq2 (by omega) (by omega); subst hq4) | (intro hh) | omega | exact trivial)
                all_goals exact hsp
              · rw [if_neg w2] at hsp
                repeat' (first | (intro hh; exfalso; omega) | (refine And.intro (by first | assumption | omega) ?_) | (refine And.intro rfl ?_) | (refine And.intro ?_ ?_) | (intro qq hq1 hq2 hq3; have hq4 := hq2 (by omega) (by omega); subst hq4) | (intro hh) | omega | exact trivial)
                all_goals exact hsp
        | succ n ih =>
          intro y m f z s hy h0 hm0 hm1 hs0 hs1 hz0 hz1 hq
          simp only [ff_dt] at hq
          refine hkut [(41, [0, 1, 2, 3, 4, 5, 6, 7])] 60 41 _ _ _ ?_
          cases hp : ff_hit (ff_X M) 2 c y
          · rw [hp, if_neg (by decide)] at hq
            repeat' (first | (intro hh; exfalso; omega) | (refine And.intro (by first | assumption | omega) ?_) | (refine And.intro rfl ?_) | (refine And.intro ?_ ?_) | (intro qq hq1 hq2 hq3; have hq4 := hq2 (by omega) (by omega); subst hq4) | (intro hh) | omega | exact trivial)
            all_goals first | exact ih (y + 1) m f z s (by omega) (by omega) (by omega) (by omega) (by omega) (by omega) (by omega) (by omega) hq | (exfalso; simp_all; done)
          · rw [hp, if_pos rfl] at hq
            by_cases hm : m = 0
            · rw [if_pos hm, if_pos (Or.inl hm)] at hq
              repeat' (first | (intro hh; exfalso; omega) | (refine And.intro (by first | assumption | omega) ?_) | (refine And.intro rfl ?_) | (refine And.intro ?_ ?_) | (intro qq hq1 hq2 hq3; have hq4 := hq2 (by omega) (by omega); subst hq4) | (intro hh) | omega | exact trivial)
              all_goals first | exact ih (y + 1) _ _ _ _ (by omega) (by omega) (by omega) (by omega) (by omega) (by omega) (by omega) (by omega) hq | (exfalso; simp_all; done)
            · by_cases hz : z < y - 1
              · rw [if_neg hm, if_pos (Or.inr hz)] at hq
                repeat' (first | (intro hh; exfalso; omega) | (refine And.intro (by first | assumption | omega) ?_) | (refine And.intro rfl ?_) | (refine And.intro ?_ ?_) | (intro qq hq1 hq2 hq3; have hq4 := hq2 (by omega) (by omega); subst hq4) | (intro hh) | omega | exact trivial)
                all_goals first | exact ih (y + 1) _ _ _ _ (by omega) (by omega) (by omega) (by omega) (by omega) (by omega) (by omega) (by omega) hq | (exfalso; simp_all; done)
              · rw [if_neg hm, if_neg (fun q => q.elim hm hz)] at hq
                repeat' (first | (intro hh; exfalso; omega) | (refine And.intro (by first | assumption | omega) ?_) | (refine And.intro rfl ?_) | (refine And.intro ?_ ?_) | (intro qq hq1 hq2 hq3; have hq4 := hq2 (by omega) (by omega); subst hq4) | (intro hh) | omega | exact trivial)
                all_goals first | exact ih (y + 1) _ _ _ _ (by omega) (by omega) (by omega) (by omega) (by omega) (by omega) (by omega) (by omega) hq | (exfalso; simp_all; done)
      refine hkut [(41, [0, 1, 2, 3, 4, 5, 6, 7])] 60 0 _ _ _ ?_
      repeat' (first | (intro hh; exfalso; omega) | (refine And.intro (by first | assumption | omega) ?_) | (refine And.intro rfl ?_) | (refine And.intro ?_ ?_) | (intro qq hq1 hq2 hq3; have hq4 := hq2 (by omega) (by omega); subst hq4) | (intro hh) | omega | exact trivial)
      all_goals exact loop 600 0 0 (-9) (-9) 0 (by omega) (by omega) (by omega) (by omega) (by omega) (by omega) (by omega) (by omega) hA
    · rw [if_neg h2] at hsp
      refine ⟨Nat.le_of_ble_eq_true rfl, fun cut hcut hkut => hcut [] 60 0 _ _ _ ?_⟩
      repeat' (first | (intro hh; exfalso; omega) | (refine And.intro (by first | assumption | omega) ?_) | (refine And.intro rfl ?_) | (refine And.intro ?_ ?_) | (intro qq hq1 hq2 hq3; have hq4 := hq2 (by omega) (by omega); subst hq4) | (intro hh) | omega | exact trivial)
      all_goals exact hsp
  · have h1m : ¬ (0 ≤ c ∧ c < M 7 1) := h1
    rw [if_neg h1] at hsp
    refine ⟨Nat.le_of_ble_eq_true rfl, fun cut hcut hkut => hcut [] 60 0 _ _ _ ?_⟩
    repeat' (first | (intro hh; exfalso; omega) | (refine And.intro (by first | assumption | omega) ?_) | (refine And.intro rfl ?_) | (refine And.intro ?_ ?_) | (intro qq hq1 hq2 hq3; have hq4 := hq2 (by omega) (by omega); subst hq4) | (intro hh) | omega | exact trivial)
    all_goals exact hsp
theorem so_X5_dated : ez_Sound LX yX5_dated cX5_dated 8 (some .int) 5 sp_X5_dated := ez_sound (E := e_X5_dated) (prog := p_X5_dated) LX_ok (by decide +kernel) rfl (fun _ h => h) fo_X5 co_X5_ok (List.forall_mem_cons.mpr ⟨k_X5_133 (by decide), List.forall_mem_cons.mpr ⟨k_X5_83 (by decide), List.forall_mem_cons.mpr ⟨k_X5_151 (by decide), fun _ h => absurd h List.not_mem_nil⟩⟩⟩) dp_X5_dated b_X5_dated
