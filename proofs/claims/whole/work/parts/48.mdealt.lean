def sp_X6_dealsOf : ez_Sp := fun as M Q => match as with | [.inr (.inr q), .inl k] => q = 0 ∧ (0 ≤ M 0 19 ∧ M 0 19 ≤ 10) ∧ (0 ≤ k ∧ k ≤ 10) ∧ Q (some (.inr (.inl (M 14 (11 * (2 ^ (M 0 19).toNat - 1) + k.toNat))))) M | _ => False
def e_X6_dealsOf : ez_E := (fl_X6, co_X6, [], 2, 2)
set_option maxHeartbeats 4000000 in
set_option maxRecDepth 100000 in
theorem b_X6_dealsOf : ez_Body LM e_X6_dealsOf p_X6_dealsOf sp_X6_dealsOf := by
  intro as M Q has hM hsp
  unfold sp_X6_dealsOf at hsp
  split at hsp
  rotate_left
  · exact hsp.elim
  rename_i q k
  have g_k : -2147483648 ≤ k ∧ k ≤ 2147483647 := ez_hd (ez_tl (has))
  obtain ⟨rfl, hn, hk, hsp⟩ := hsp
  have hP := ff_shl_n (n := M 0 19) hn
  have h1 : 0 < 2 ^ (M 0 19).toNat := Nat.pow_pos (by decide)
  have e : 11 * (2 ^ (M 0 19).toNat - 1) + k.toNat = (11 * (ez_shl 1 (M 0 19) - 1) + k).toNat := by
    rw [hP.1]
    omega
  rw [e] at hsp
  refine ⟨Nat.le_of_ble_eq_true rfl, fun cut hcut hkut => hcut [] 60 0 _ _ _ ?_⟩
  repeat' (first | (intro hh; exfalso; omega) | (refine And.intro (by first | assumption | omega) ?_) | (refine And.intro rfl ?_) | (refine And.intro ?_ ?_) | (intro qq hq1 hq2 hq3; have hq4 := hq2 (by omega) (by omega); subst hq4) | (intro hh) | omega | exact trivial)
  all_goals exact hsp
theorem so_X6_dealsOf : ez_Sound LM yX6_dealsOf cX6_dealsOf 2 (some .long) 0 sp_X6_dealsOf := ez_sound (E := e_X6_dealsOf) (prog := p_X6_dealsOf) LM_ok (by decide +kernel) rfl (fun _ h => h) fo_X6 co_X6_ok (fun _ h => absurd h List.not_mem_nil) dp_X6_dealsOf b_X6_dealsOf
theorem ff_dl {M N1 N : ez_M} (hn4 : 0 ≤ ff_N M 1 4 ∧ ff_N M 1 4 ≤ 10) (h1 : ff_N N1 = ff_N M) (h19 : N1 0 19 = ff_ns (ff_N M)) (hl : ∀ j : Nat, j < ff_ns (ff_N M) → N1 13 j = ff_mask (ff_N M) (ff_who (ff_N M) j)) (h14 : ∀ i, ¬ i = 14 → N i = N1 i) (hw : ∀ t h : Nat, t < 2 ^ (N1 0 19).toNat → h < 11 → N 14 (11 * t + h) = ff_W (fun m e => (N1 13 m).toNat.testBit e) (N1 0 19).toNat (ff_pc t) t h) : ff_N N = ff_N M ∧ N 0 19 = ff_ns (ff_N M) ∧ ∀ h : Nat, h < 11 → N 14 (11 * (2 ^ (N 0 19).toNat - 1) + h) = ff_wy2 (ff_N M) h := by
  have hns := ff_ns_r hn4
  have e19 : N 0 19 = ff_ns (ff_N M) := by rw [h14 0 (by decide), h19]
  refine ⟨by rw [ff_N_14 h14, h1], e19, fun h hh => ?_⟩
  have hw := hw (2 ^ ff_ns (ff_N M) - 1) h (by rw [h19, Int.toNat_natCast]; exact ff_full _) hh
  rw [h19, Int.toNat_natCast] at hw
  rw [e19, Int.toNat_natCast, hw, ff_pc_full hns]
  unfold ff_wy2
  refine ff_W_congr _ _ _ (fun k e hk he => ?_)
  unfold ff_L
  rw [hl k hk]
theorem ff_dl_l {M N1 : ez_M} (hn4 : 0 ≤ ff_N M 1 4 ∧ ff_N M 1 4 ≤ 10) (h19 : N1 0 19 = ff_ns (ff_N M)) (hl : ∀ j : Nat, j < ff_ns (ff_N M) → N1 13 j = ff_mask (ff_N M) (ff_who (ff_N M) j)) : (0 ≤ N1 0 19 ∧ N1 0 19 ≤ 10) ∧ ∀ j : Nat, (j : Int) < N1 0 19 → 0 ≤ N1 13 j ∧ N1 13 j ≤ 1023 := by
  have hns := ff_ns_r hn4
  refine ⟨by omega, fun j hj => ?_⟩
  rw [hl j (by omega)]
  exact ff_mask_r _ _ hn4
theorem k_X6_213 {d : Nat} (h : 1 < d) : ez_CallOK LM RX6 d (213, 6+1, 0, sp_X6_layDeals) := ez_callV (y := yX6_layDeals) (bytes := cX6_layDeals) so_X6_layDeals h (by decide) q_987 q_78 ⟨by decide +kernel, by decide +kernel, by decide +kernel⟩ (Or.inl q_984) q_986 q_64 (T := TX6) (N := 28) rfl
theorem k_X6_216 {d : Nat} (h : 0 < d) : ez_CallOK LM RX6 d (216, 6+1, 1, sp_X6_dealsOf) := ez_callV (y := yX6_dealsOf) (bytes := cX6_dealsOf) so_X6_dealsOf h (by decide) q_991 q_78 ⟨by decide +kernel, by decide +kernel, by decide +kernel⟩ (Or.inl q_988) q_990 q_65 (T := TX6) (N := 28) rfl
def sp_X6_deals : ez_Sp := fun as M Q => match as with | [.inr (.inr q), .inl k] => q = 0 ∧ ff_Inv (ff_N M) ∧ (∀ M' : ez_M, ff_N M' = ff_N M → Q (some (.inr (.inl (op_deals (ff_N M) k)))) M') | _ => False
def e_X6_deals : ez_E := (fl_X6, co_X6, [(69, 0, 3, sp_X6_in), (208, 6+1, 0, sp_X6_laySaints), (213, 6+1, 0, sp_X6_layDeals), (216, 6+1, 1, sp_X6_dealsOf)], 2, 2)
set_option maxHeartbeats 4000000 in
set_option maxRecDepth 100000 in
theorem b_X6_deals : ez_Body LM e_X6_deals p_X6_deals sp_X6_deals := by
  intro as M Q has hM hsp
  unfold sp_X6_deals at hsp
  split at hsp
  rotate_left
  · exact hsp.elim
  rename_i q k
  have g_k : -2147483648 ≤ k ∧ k ≤ 2147483647 := ez_hd (ez_tl (has))
  obtain ⟨rfl, hI, hsp⟩ := hsp
  refine ⟨Nat.le_of_ble_eq_true rfl, fun cut hcut hkut => ?_⟩
  suffices hgo : ∀ M' : ez_M, ff_N M' = ff_N M → cut 5 [(0, .inr (.inr 0)), (1, .inl k)] [] M' by
    refine hkut [(5, [0, 1])] 60 0 _ _ _ ?_
    exact hgo _ (ff_N_th M)
  clear hM
  intro M hth
  rw [← hth] at hI hsp
  clear hth
  have hn := ff_n_N hI
  unfold op_deals at hsp
  have hn4 : 0 ≤ ff_N M 1 4 ∧ ff_N M 1 4 ≤ 10 := hn
  have hns := ff_ns_r hn4
  by_cases h1 : 0 ≤ k ∧ k ≤ 10
  · rw [if_pos h1] at hsp
    have fin : ∀ N : ez_M, ff_N N = ff_N M → N 0 19 = ff_ns (ff_N M) → (∀ h : Nat, h < 11 → N 14 (11 * (2 ^ (N 0 19).toNat - 1) + h) = ff_wy2 (ff_N M) h) → cut 30 [(0, .inr (.inr 0)), (1, .inl k)] [] N := by
      intro N hX h19 hw
      have hsp := hsp N hX
      rw [← hw k.toNat (by omega)] at hsp
      refine hkut [] 60 30 _ _ _ ?_
      repeat' (first | (intro hh; exfalso; omega) | (refine And.intro (by first | assumption | omega) ?_) | (refine And.intro rfl ?_) | (refine And.intro ?_ ?_) | (intro qq hq1 hq2 hq3; have hq4 := hq2 (by omega) (by omega); subst hq4) | (intro hh) | omega | exact trivial)
      all_goals exact hsp
    have lay : ∀ N1 : ez_M, ff_N N1 = ff_N M → N1 0 19 = ff_ns (ff_N M) → (∀ j : Nat, j < ff_ns (ff_N M) → N1 13 j = ff_mask (ff_N M) (ff_who (ff_N M) j)) → cut 26 [(0, .inr (.inr 0)), (1, .inl k)] [] N1 := by
      intro N1 e1 e2 e3
      have hb := ff_dl_l hn4 e2 e3
      refine hkut [(30, [0, 1])] 60 26 _ _ _ ?_
      refine And.intro rfl (And.intro hb.1 (And.intro hb.2 ?_))
      intro N g1 g2
      obtain ⟨a, b, c⟩ := ff_dl hn4 e1 e2 e3 g1 g2
      exact fin N a b c
    have sai : cut 21 [(0, .inr (.inr 0)), (1, .inl k)] [] M := by
      refine hkut [(26, [0, 1])] 60 21 _ _ _ ?_
      refine And.intro rfl (And.intro hI ?_)
      intro N1 e1 e2 e3
      exact lay N1 e1 e2 e3
    refine hkut [(21, [0, 1])] 60 5 _ _ _ ?_
    repeat' (first | (intro hh; exfalso; omega) | (refine And.intro (by first | assumption | omega) ?_) | (refine And.intro rfl ?_) | (refine And.intro ?_ ?_) | (intro qq hq1 hq2 hq3; have hq4 := hq2 (by omega) (by omega); subst hq4) | (intro hh) | omega | exact trivial)
    all_goals exact sai
  · rw [if_neg h1] at hsp
    have hsp := hsp M rfl
    refine hkut [] 60 5 _ _ _ ?_
    repeat' (first | (intro hh; exfalso; omega) | (refine And.intro (by first | assumption | omega) ?_) | (refine And.intro rfl ?_) | (refine And.intro ?_ ?_) | (intro qq hq1 hq2 hq3; have hq4 := hq2 (by omega) (by omega); subst hq4) | (intro hh) | omega | exact trivial)
    all_goals exact hsp
theorem so_X6_deals : ez_Sound LM yX6_deals cX6_deals 2 (some .long) 5 sp_X6_deals := ez_sound (E := e_X6_deals) (prog := p_X6_deals) LM_ok (by decide +kernel) rfl (fun _ h => h) fo_X6 co_X6_ok (List.forall_mem_cons.mpr ⟨k_X6_69 (by decide), List.forall_mem_cons.mpr ⟨k_X6_208 (by decide), List.forall_mem_cons.mpr ⟨k_X6_213 (by decide), List.forall_mem_cons.mpr ⟨k_X6_216 (by decide), fun _ h => absurd h List.not_mem_nil⟩⟩⟩⟩) dp_X6_deals b_X6_deals
def sp_X6_dealt : ez_Sp := fun as M Q => match as with | [.inr (.inr q), .inl up] => q = 0 ∧ ff_Inv (ff_N M) ∧ (up = 0 ∨ up = 1) ∧ (∀ M' : ez_M, ff_N M' = ff_N M → Q (some (.inr (.inl (op_dealt (ff_N M) up)))) M') | _ => False
def e_X6_dealt : ez_E := (fl_X6, co_X6, [(208, 6+1, 0, sp_X6_laySaints), (213, 6+1, 0, sp_X6_layDeals), (216, 6+1, 1, sp_X6_dealsOf), (190, 0, 3, sp_X6_told)], 2, 8)
set_option maxHeartbeats 4000000 in
set_option maxRecDepth 100000 in
theorem b_X6_dealt : ez_Body LM e_X6_dealt p_X6_dealt sp_X6_dealt := by
  intro as M Q has hM hsp
  unfold sp_X6_dealt at hsp
  split at hsp
  rotate_left
  · exact hsp.elim
  rename_i q up
  have g_up : -2147483648 ≤ up ∧ up ≤ 2147483647 := ez_hd (ez_tl (has))
  obtain ⟨rfl, hI, hup, hsp⟩ := hsp
  refine ⟨Nat.le_of_ble_eq_true rfl, fun cut hcut hkut => ?_⟩
  suffices hgo : ∀ M' : ez_M, ff_N M' = ff_N M → cut 5 [(0, .inr (.inr 0)), (1, .inl up)] [] M' by
    refine hkut [(5, [0, 1])] 60 0 _ _ _ ?_
    exact hgo _ (ff_N_th M)
  clear hM
  intro M hth
  rw [← hth] at hI hsp
  clear hth
  have hn := ff_n_N hI
  have hn4 : 0 ≤ ff_N M 1 4 ∧ ff_N M 1 4 ≤ 10 := hn
  have hns := ff_ns_r hn4
  unfold op_dealt at hsp
  have hwr := ff_wy2_r hn4
  have hap := ff_all_pos hn4
  generalize hw : ff_wy2 (ff_N M) = w at hsp hwr hap
  generalize ho : ff_own (ff_N M) = own at hsp
  have hAr := ff_dsA_r hwr 11 0
  have hMr := ff_dsM_r hwr own 11 0
  generalize hA : ff_dsA w 11 0 = A at hsp hap hAr
  generalize hB : ff_dsM w own 11 0 = B at hsp hMr
  have loop : ∀ (N : ez_M), ff_N N = ff_N M → N 0 19 = ff_ns (ff_N M) → (∀ h : Nat, h < 11 → N 14 (11 * (2 ^ (N 0 19).toNat - 1) + h) = w h) → ∀ (n : Nat) (k a b : Int), k + n = 11 → 0 ≤ k → 0 ≤ a → a ≤ 3628800 * k → 0 ≤ b → b ≤ 3628800 * k → a + ff_dsA w n k = A → b + ff_dsM w own n k = B → cut 22 [(0, .inr (.inr 0)), (1, .inl up), (2, .inl own), (3, .inr (.inl a)), (5, .inr (.inl b)), (7, .inl k)] [] N := by
    intro N hX h19 hN n
    have hp : 0 ≤ N 0 19 ∧ N 0 19 ≤ 10 := by omega
    have hsp := hsp N hX
    induction n with
    | zero =>
      intro k a b hk h0 ha0 ha1 hb0 hb1 hqa hqb
      simp only [ff_dsA, ff_dsM, Int.add_zero] at hqa hqb
      subst hqa
      subst hqb
      refine hkut [(22, [0, 1, 2, 3, 5, 7])] 60 22 _ _ _ ?_
      repeat' (first | (intro hh; exfalso; omega) | (refine And.intro (by first | assumption | omega) ?_) | (refine And.intro rfl ?_) | (refine And.intro ?_ ?_) | (intro qq hq1 hq2 hq3; have hq4 := hq2 (by omega) (by omega); subst hq4) | (intro hh) | omega | exact trivial)
      all_goals exact hsp
    | succ n ih =>
      intro k a b hk h0 ha0 ha1 hb0 hb1 hqa hqb
      simp only [ff_dsA, ff_dsM] at hqa hqb
      have hwk := hwr k.toNat
      have hNk := hN k.toNat (by omega)
      rw [← hNk] at hqa hqb hwk
      have ih := fun (x : Int) (hx : x = 0 ∨ x = N 14 (11 * (2 ^ (N 0 19).toNat - 1) + k.toNat)) (hqb : b + x + ff_dsM w own n (k + 1) = B) => ih (k + 1) (a + N 14 (11 * (2 ^ (N 0 19).toNat - 1) + k.toNat)) (b + x) (by omega) (by omega) (by omega) (by omega) (by omega) (by omega) (by omega) hqb
      refine hkut [(22, [0, 1, 2, 3, 5, 7])] 60 22 _ _ _ ?_
      by_cases hko : own ≤ k
      · rw [if_pos hko] at hqb
        have ih := ih _ (Or.inr rfl) (by omega)
        repeat' (first | (intro hh; exfalso; omega) | (refine And.intro (by first | assumption | omega) ?_) | (refine And.intro rfl ?_) | (refine And.intro ?_ ?_) | (intro qq hq1 hq2 hq3; have hq4 := hq2 (by omega) (by omega); subst hq4) | (intro hh) | omega | exact trivial)
        all_goals exact ih
      · rw [if_neg hko] at hqb
        have ih := ih 0 (Or.inl rfl) (by omega)
        repeat' (first | (intro hh; exfalso; omega) | (refine And.intro (by first | assumption | omega) ?_) | (refine And.intro rfl ?_) | (refine And.intro ?_ ?_) | (intro qq hq1 hq2 hq3; have hq4 := hq2 (by omega) (by omega); subst hq4) | (intro hh) | omega | exact trivial)
        all_goals exact ih
  have lay : ∀ N1 : ez_M, ff_N N1 = ff_N M → N1 0 19 = ff_ns (ff_N M) → (∀ j : Nat, j < ff_ns (ff_N M) → N1 13 j = ff_mask (ff_N M) (ff_who (ff_N M) j)) → cut 10 [(0, .inr (.inr 0)), (1, .inl up), (2, .inl own)] [] N1 := by
    intro N1 e1 e2 e3
    have hb := ff_dl_l hn4 e2 e3
    refine hkut [(22, [0, 1, 2, 3, 5, 7])] 60 10 _ _ _ ?_
    refine And.intro rfl (And.intro hb.1 (And.intro hb.2 ?_))
    intro N g1 g2
    obtain ⟨a, b, c⟩ := ff_dl hn4 e1 e2 e3 g1 g2
    rw [hw] at c
    have hl := loop N a b c 11 0 0 0 (by omega) (by omega) (by omega) (by omega) (by omega) (by omega) (by rw [hA]; omega) (by rw [hB]; omega)
    exact hl
  refine hkut [(10, [0, 1, 2])] 60 5 _ _ _ ?_
  refine And.intro rfl (And.intro hI ?_)
  intro N1 e1 e2 e3
  have hl := lay N1 e1 e2 e3
  rw [← ho] at hl
  exact hl
theorem so_X6_dealt : ez_Sound LM yX6_dealt cX6_dealt 8 (some .long) 5 sp_X6_dealt := ez_sound (E := e_X6_dealt) (prog := p_X6_dealt) LM_ok (by decide +kernel) rfl (fun _ h => h) fo_X6 co_X6_ok (List.forall_mem_cons.mpr ⟨k_X6_208 (by decide), List.forall_mem_cons.mpr ⟨k_X6_213 (by decide), List.forall_mem_cons.mpr ⟨k_X6_216 (by decide), List.forall_mem_cons.mpr ⟨k_X6_190 (by decide), fun _ h => absurd h List.not_mem_nil⟩⟩⟩⟩) dp_X6_dealt b_X6_dealt
