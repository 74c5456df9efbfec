theorem ez_or_0 {a : Int} (h0 : 0 ≤ a) (h1 : a < 2147483648) : ez_or a 0 = a := by
  obtain ⟨n, rfl⟩ := Int.eq_ofNat_of_zero_le h0
  have := ez_or_n (a := n) (b := 0) (by omega) (by decide)
  rw [Nat.or_zero] at this
  exact this
theorem ff_exl_hits (S : ff_S) (r c : Int) : ff_exl S r c 1 3 4 = true ↔ 0 < ff_hits S r c := ff_ex_cn (ff_hit S r c) (ff_yrs S c) (S 5 (11 * c + 3).toNat)
theorem ff_bits_s {a : Int} {k : Nat} (h0 : 0 ≤ a) (h1 : a < 2 ^ k) (hk : k < 30) (b : Bool) : 0 ≤ (if b = true then ez_or a (ez_shl 1 (k : Int)) else a) ∧ (if b = true then ez_or a (ez_shl 1 (k : Int)) else a) < 2 ^ (k + 1) := by
  have hs : ez_shl 1 (k : Int) = 2 ^ k := by rw [ez_shl_n k (by omega)]; simp
  have hp : (2 : Int) ^ (k + 1) = 2 ^ k + 2 ^ k := by rw [Int.pow_succ]; omega
  have ho := ez_or_p h0 h1 (by omega)
  have h2 : (0 : Int) < 2 ^ k := Int.pow_pos (by decide)
  rw [hp]
  split
  · rw [hs, ho]; omega
  · omega
def sp_X6_explained : ez_Sp := fun as M Q => match as with | [.inr (.inr q), .inl c] => q = 0 ∧ ff_Inv (ff_N M) ∧ (0 ≤ c ∧ c < M 0 13) ∧ (∀ M' : ez_M, ff_N M' = ff_N M → Q (some (.inl (ff_rules (ff_N M) c))) M') | _ => False
def e_X6_explained : ez_E := (fl_X6, co_X6, [(182, 6+1, 2, sp_X6_hitsIn)], 0, 4)
set_option maxHeartbeats 4000000 in
set_option maxRecDepth 100000 in
theorem b_X6_explained : ez_Body LM e_X6_explained p_X6_explained sp_X6_explained := by
  intro as M Q has hM hsp
  unfold sp_X6_explained at hsp
  split at hsp
  rotate_left
  · exact hsp.elim
  rename_i q c
  have g_c : -2147483648 ≤ c ∧ c ≤ 2147483647 := ez_hd (ez_tl (has))
  obtain ⟨rfl, hI, hv, hsp⟩ := hsp
  have hn := ff_n_N hI
  refine ⟨Nat.le_of_ble_eq_true rfl, fun cut hcut hkut => ?_⟩
  unfold ff_rules at hsp
  have loop : ∀ (n k : Nat) (a : Int) (N : ez_M), k + n = 6 → 0 ≤ a → a < 2 ^ k → ff_N N = ff_N M → (∀ M' : ez_M, ff_N M' = ff_N M → Q (some (.inl (ff_bits (fun r => ff_exl (ff_N M) r c 1 3 4) n k a))) M') → cut 4 [(0, .inr (.inr 0)), (1, .inl c), (2, .inl a), (3, .inl (k : Int))] [] N := by
    intro n
    induction n with
    | zero =>
      intro k a N hk ha0 ha1 hX hq
      simp only [ff_bits] at hq
      have hq := hq N hX
      refine hkut [(4, [0, 1, 2, 3])] 60 4 _ _ _ ?_
      repeat' (first | (intro hh; exfalso; omega) | (refine And.intro (by first | assumption | omega) ?_) | (refine And.intro rfl ?_) | (refine And.intro ?_ ?_) | (intro qq hq1 hq2 hq3; have hq4 := hq2 (by omega) (by omega); subst hq4) | (intro hh) | omega | exact trivial)
      all_goals exact hq
    | succ n ih =>
      intro k a N hk ha0 ha1 hX hq
      have hIN : ff_Inv (ff_N N) := by rw [hX]; exact hI
      have h13 : N 0 13 = M 0 13 := congrFun (congrFun hX 1) 4
      have hpw : (2 : Int) ^ k ≤ 2 ^ 6 := by
        have := Nat.pow_le_pow_right (n := 2) (by decide) (show k ≤ 6 by omega)
        exact_mod_cast this
      have hp6 : (2 : Int) ^ 6 = 64 := by decide
      have hb := ff_bits_s ha0 ha1 (by omega) (ff_exl (ff_N M) k c 1 3 4)
      have hex := ff_exl_hits (ff_N M) k c
      simp only [ff_bits] at hq
      have ih := fun N hN => ih (k + 1) _ N (by omega) hb.1 hb.2 hN hq
      have hshl := ff_shl_n (n := (k : Int)) ⟨by omega, by omega⟩
      refine hkut [(4, [0, 1, 2, 3])] 60 4 _ _ _ ?_
      rw [← hX] at hex
      cases he : ff_exl (ff_N M) k c 1 3 4
      · rw [hX, he] at hex
        rw [he, if_neg (by decide)] at ih
        have hh : ff_hits (ff_N N) k c ≤ 0 := by
          rw [hX]
          have := hex.mpr
          by_cases hz : 0 < ff_hits (ff_N M) k c
          · have := this hz
            cases this
          · omega
        rw [← ez_or_0 ha0 (by omega)] at ih
        repeat' (first | (intro hh; exfalso; omega) | (refine And.intro (by first | assumption | omega) ?_) | (refine And.intro rfl ?_) | (refine And.intro ?_ ?_) | (intro qq hq1 hq2 hq3; have hq4 := hq2 (by omega) (by omega); subst hq4) | (intro hh) | omega | exact trivial)
        all_goals exact ih _ (by rw [← hX]; assumption)
      · rw [hX, he] at hex
        rw [he, if_pos rfl] at ih
        have hh : 0 < ff_hits (ff_N N) k c := by
          rw [hX]
          exact hex.mp rfl
        repeat' (first | (intro hh; exfalso; omega) | (refine And.intro (by first | assumption | omega) ?_) | (refine And.intro rfl ?_) | (refine And.intro ?_ ?_) | (intro qq hq1 hq2 hq3; have hq4 := hq2 (by omega) (by omega); subst hq4) | (intro hh) | omega | exact trivial)
        all_goals exact ih _ (by rw [← hX]; assumption)
  refine hkut [(4, [0, 1, 2, 3])] 60 0 _ _ _ ?_
  exact loop 6 0 0 M (by omega) (by omega) (by decide) rfl hsp
theorem so_X6_explained : ez_Sound LM yX6_explained cX6_explained 4 (some .int) 6 sp_X6_explained := ez_sound (E := e_X6_explained) (prog := p_X6_explained) LM_ok (by decide +kernel) rfl (fun _ h => h) fo_X6 co_X6_ok (List.forall_mem_cons.mpr ⟨k_X6_182 (by decide), fun _ h => absurd h List.not_mem_nil⟩) dp_X6_explained b_X6_explained
theorem k_X6_185 {d : Nat} (h : 6 < d) : ez_CallOK LM RX6 d (185, 6+1, 1, sp_X6_explained) := ez_callV (y := yX6_explained) (bytes := cX6_explained) so_X6_explained h (by decide) q_922 q_78 ⟨by decide +kernel, by decide +kernel, by decide +kernel⟩ (Or.inl q_919) q_921 q_60 (T := TX6) (N := 28) rfl
def sp_X6_explain : ez_Sp := fun as M Q => match as with | [.inr (.inr q), .inl c] => q = 0 ∧ ff_Inv (ff_N M) ∧ (∀ M' : ez_M, ff_N M' = ff_N M → Q (some (.inl (op_explain (ff_N M) c))) M') | _ => False
def e_X6_explain : ez_E := (fl_X6, co_X6, [(154, 6+1, 1, sp_X6_noChurch), (185, 6+1, 1, sp_X6_explained)], 0, 2)
set_option maxHeartbeats 4000000 in
set_option maxRecDepth 100000 in
theorem b_X6_explain : ez_Body LM e_X6_explain p_X6_explain sp_X6_explain := by
  intro as M Q has hM hsp
  unfold sp_X6_explain at hsp
  split at hsp
  rotate_left
  · exact hsp.elim
  rename_i q c
  have g_c : -2147483648 ≤ c ∧ c ≤ 2147483647 := ez_hd (ez_tl (has))
  obtain ⟨rfl, hI, hsp⟩ := hsp
  refine ⟨Nat.le_of_ble_eq_true rfl, fun cut hcut hkut => ?_⟩
  suffices hgo : ∀ M' : ez_M, ff_N M' = ff_N M → cut 5 [(0, .inr (.inr 0)), (1, .inl c)] [] M' by
    refine hkut [(5, [0, 1])] 60 0 _ _ _ ?_
    exact hgo _ (ff_N_th M)
  clear hM
  intro M hth
  rw [← hth] at hI hsp
  clear hth
  have hn := ff_n_N hI
  unfold op_explain at hsp
  refine hkut [] 60 5 _ _ _ ?_
  by_cases h1 : 0 ≤ c ∧ c < ff_N M 1 4
  · have h1m : 0 ≤ c ∧ c < M 0 13 := h1
    simp only [if_pos h1] at hsp
    repeat' (first | (intro hh; exfalso; omega) | (refine And.intro (by first | assumption | omega) ?_) | (refine And.intro rfl ?_) | (refine And.intro ?_ ?_) | (intro qq hq1 hq2 hq3; have hq4 := hq2 (by omega) (by omega); subst hq4) | (intro hh) | omega | exact trivial)
    all_goals exact hsp _ (by assumption)
  · have h1m : ¬ (0 ≤ c ∧ c < M 0 13) := h1
    simp only [if_neg h1] at hsp
    repeat' (first | (intro hh; exfalso; omega) | (refine And.intro (by first | assumption | omega) ?_) | (refine And.intro rfl ?_) | (refine And.intro ?_ ?_) | (intro qq hq1 hq2 hq3; have hq4 := hq2 (by omega) (by omega); subst hq4) | (intro hh) | omega | exact trivial)
    all_goals exact hsp M rfl
theorem so_X6_explain : ez_Sound LM yX6_explain cX6_explain 2 (some .int) 7 sp_X6_explain := ez_sound (E := e_X6_explain) (prog := p_X6_explain) LM_ok (by decide +kernel) rfl (fun _ h => h) fo_X6 co_X6_ok (List.forall_mem_cons.mpr ⟨k_X6_154 (by decide), List.forall_mem_cons.mpr ⟨k_X6_185 (by decide), fun _ h => absurd h List.not_mem_nil⟩⟩) dp_X6_explain b_X6_explain
def sp_X6_told : ez_Sp := fun as M Q => match as with | [.inr (.inl a), .inr (.inl b), .inl up] => (0 ≤ a ∧ 0 < b ∧ (up = 0 ∨ up = 1)) ∧ Q (some (.inr (.inl (ff_lt a b up)))) M | _ => False
def e_X6_told : ez_E := (fl_X6, co_X6, [], 2, 11)
set_option maxHeartbeats 4000000 in
set_option maxRecDepth 100000 in
theorem b_X6_told : ez_Body LM e_X6_told p_X6_told sp_X6_told := by
  intro as M Q has hM hsp
  unfold sp_X6_told at hsp
  split at hsp
  rotate_left
  · exact hsp.elim
  rename_i a b up
  have g_a : -9223372036854775808 ≤ a ∧ a ≤ 9223372036854775807 := ez_hd (has)
  have g_b : -9223372036854775808 ≤ b ∧ b ≤ 9223372036854775807 := ez_hd (ez_tl (has))
  have g_up : -2147483648 ≤ up ∧ up ≤ 2147483647 := ez_hd (ez_tl (ez_tl (has)))
  obtain ⟨hv, hsp⟩ := hsp
  refine ⟨Nat.le_of_ble_eq_true rfl, fun cut hcut hkut => ?_⟩
  have hg := ff_gcd_pos (a := a) hv.2.1
  unfold ff_lt at hsp
  have fin : cut 6 [(0, .inr (.inl a)), (2, .inr (.inl b)), (4, .inl up), (5, .inr (.inl (ff_gcd a b))), (7, .inr (.inl 0))] [] M := by
    rcases hv.2.2 with rfl | rfl
    · rw [if_pos rfl] at hsp
      refine hkut [(6, [0, 2, 4, 5, 7])] 60 6 _ _ _ ?_
      repeat' (first | (intro hh; exfalso; omega) | (refine And.intro (by first | assumption | omega) ?_) | (refine And.intro rfl ?_) | (refine And.intro ?_ ?_) | (intro qq hq1 hq2 hq3; have hq4 := hq2 (by omega) (by omega); subst hq4) | (intro hh) | omega | exact trivial)
      all_goals exact hsp
    · rw [if_neg (by decide)] at hsp
      refine hkut [(6, [0, 2, 4, 5, 7])] 60 6 _ _ _ ?_
      repeat' (first | (intro hh; exfalso; omega) | (refine And.intro (by first | assumption | omega) ?_) | (refine And.intro rfl ?_) | (refine And.intro ?_ ?_) | (intro qq hq1 hq2 hq3; have hq4 := hq2 (by omega) (by omega); subst hq4) | (intro hh) | omega | exact trivial)
      all_goals exact hsp
  have loop : ∀ (m : Nat) (x y : Int), 0 ≤ x → 0 ≤ y → y ≤ m → x ≤ 9223372036854775807 → y ≤ 9223372036854775807 → ff_gcd x y = ff_gcd a b → cut 6 [(0, .inr (.inl a)), (2, .inr (.inl b)), (4, .inl up), (5, .inr (.inl x)), (7, .inr (.inl y))] [] M := by
    intro m
    induction m with
    | zero =>
      intro x y hx hy hm hx2 hy2 he
      obtain rfl : y = 0 := by omega
      rw [ff_gcd_0 hx] at he
      rw [he]
      exact fin
    | succ m ih =>
      intro x y hx hy hm hx2 hy2 he
      by_cases hy0 : y = 0
      · subst hy0
        rw [ff_gcd_0 hx] at he
        rw [he]
        exact fin
      · have hr0 := Int.emod_nonneg x hy0
        have hr1 := Int.emod_lt_of_pos x (by omega : 0 < y)
        rw [← ff_gcd_s hx hy] at he
        have ih := ih y (x % y) hy hr0 (by omega) hy2 (by omega) he
        refine hkut [(6, [0, 2, 4, 5, 7])] 60 6 _ _ _ ?_
        repeat' (first | (intro hh; exfalso; omega) | (refine And.intro (by first | assumption | omega) ?_) | (refine And.intro rfl ?_) | (refine And.intro ?_ ?_) | (intro qq hq1 hq2 hq3; have hq4 := hq2 (by omega) (by omega); subst hq4) | (intro hh) | omega | exact trivial)
        all_goals exact ih
  have hl := loop b.toNat a b hv.1 (by omega) (by omega) (by omega) (by omega) rfl
  refine hkut [(6, [0, 2, 4, 5, 7])] 60 0 _ _ _ ?_
  exact hl
theorem so_X6_told : ez_Sound LM yX6_told cX6_told 11 (some .long) 0 sp_X6_told := ez_sound (E := e_X6_told) (prog := p_X6_told) LM_ok (by decide +kernel) rfl (fun _ h => h) fo_X6 co_X6_ok (fun _ h => absurd h List.not_mem_nil) dp_X6_told b_X6_told
theorem k_X6_190 {d : Nat} (h : 0 < d) : ez_CallOK LM RX6 d (190, 0, 3, sp_X6_told) := ez_callS (y := yX6_told) (bytes := cX6_told) so_X6_told h (by decide) q_930 q_78 ⟨by decide +kernel, by decide +kernel, by decide +kernel⟩ (Or.inl q_928) q_929
def sp_X6_chance : ez_Sp := fun as M Q => match as with | [.inr (.inr q), .inl r, .inl c, .inl up] => q = 0 ∧ ff_Inv (ff_N M) ∧ (up = 0 ∨ up = 1) ∧ (∀ M' : ez_M, ff_N M' = ff_N M → Q (some (.inr (.inl (op_chance (ff_N M) r c up)))) M') | _ => False
def e_X6_chance : ez_E := (fl_X6, co_X6, [(165, 0, 1, sp_X6_noRule), (154, 6+1, 1, sp_X6_noChurch), (182, 6+1, 2, sp_X6_hitsIn), (190, 0, 3, sp_X6_told)], 2, 5)
set_option maxHeartbeats 4000000 in
set_option maxRecDepth 100000 in
theorem b_X6_chance : ez_Body LM e_X6_chance p_X6_chance sp_X6_chance := by
  intro as M Q has hM hsp
  unfold sp_X6_chance at hsp
  split at hsp
  rotate_left
  · exact hsp.elim
  rename_i q r c up
  have g_r : -2147483648 ≤ r ∧ r ≤ 2147483647 := ez_hd (ez_tl (has))
  have g_c : -2147483648 ≤ c ∧ c ≤ 2147483647 := ez_hd (ez_tl (ez_tl (has)))
  have g_up : -2147483648 ≤ up ∧ up ≤ 2147483647 := ez_hd (ez_tl (ez_tl (ez_tl (has))))
  obtain ⟨rfl, hI, hup, hsp⟩ := hsp
  refine ⟨Nat.le_of_ble_eq_true rfl, fun cut hcut hkut => ?_⟩
  suffices hgo : ∀ M' : ez_M, ff_N M' = ff_N M → cut 5 [(0, .inr (.inr 0)), (1, .inl r), (2, .inl c), (3, .inl up)] [] M' by
    refine hkut [(5, [0, 1, 2, 3])] 60 0 _ _ _ ?_
    exact hgo _ (ff_N_th M)
  clear hM
  intro M hth
  rw [← hth] at hI hsp
  clear hth
  have hn := ff_n_N hI
  unfold op_chance at hsp
  by_cases h1 : (0 ≤ r ∧ r ≤ 5) ∧ (0 ≤ c ∧ c < ff_N M 1 4)
  · have h1m : (0 ≤ r ∧ r ≤ 5) ∧ (0 ≤ c ∧ c < M 0 13) := h1
    simp only [if_pos h1] at hsp
    have hc := ff_ch_N hI (c := c) h1.2.1 h1.2.2
    unfold ff_ch at hc
    have hh := ff_hits_r hI (r := r) h1.2.1 h1.2.2
    have hd := ff_den_r hI h1.2.1 h1.2.2
    have hd2 : 1 ≤ (M 7 (11 * c + 4).toNat - M 7 (11 * c + 3).toNat + 1) * (2 * M 7 (11 * c + 2).toNat + 1) ∧ (M 7 (11 * c + 4).toNat - M 7 (11 * c + 3).toNat + 1) * (2 * M 7 (11 * c + 2).toNat + 1) ≤ 1159 := hd
    have key : ∀ N : ez_M, ff_N N = ff_N M → N 7 (11 * c + 2).toNat = M 7 (11 * c + 2).toNat := fun N hN => congrFun (congrFun hN 5) _
    have mid : ∀ N : ez_M, ff_N N = ff_N M → cut 58 [(0, .inr (.inr 0)), (2, .inl c), (3, .inl up), (4, .inl (M 7 (11 * c + 4).toNat - M 7 (11 * c + 3).toNat + 1))] [.inr (.inl (ff_hits (ff_N M) r c))] N := by
      intro N hN
      have hk := key N hN
      rw [← hk] at hd2
      have he : ff_den (ff_N M) c = (M 7 (11 * c + 4).toNat - M 7 (11 * c + 3).toNat + 1) * (2 * N 7 (11 * c + 2).toNat + 1) := by
        rw [hk]
        rfl
      have hsp := hsp N hN
      rw [he] at hsp
      have hr : -1 ≤ N 7 (11 * c + 2).toNat ∧ N 7 (11 * c + 2).toNat ≤ 100 := by omega
      refine hkut [(58, [0, 2, 3, 4])] 60 58 _ _ _ ?_
      repeat' (first | (intro hh; exfalso; omega) | (refine And.intro (by first | assumption | omega) ?_) | (refine And.intro rfl ?_) | (refine And.intro ?_ ?_) | (intro qq hq1 hq2 hq3; have hq4 := hq2 (by omega) (by omega); subst hq4) | (intro hh) | omega | exact trivial)
      all_goals exact hsp
    refine hkut [(58, [0, 2, 3, 4])] 80 5 _ _ _ ?_
    repeat' (first | (intro hh; exfalso; omega) | (refine And.intro (by first | assumption | omega) ?_) | (refine And.intro rfl ?_) | (refine And.intro ?_ ?_) | (intro qq hq1 hq2 hq3; have hq4 := hq2 (by omega) (by omega); subst hq4) | (intro hh) | omega | exact trivial)
    all_goals exact mid _ (by assumption)
  · have h1m : ¬ ((0 ≤ r ∧ r ≤ 5) ∧ (0 ≤ c ∧ c < M 0 13)) := h1
    simp only [if_neg h1] at hsp
    refine hkut [] 60 5 _ _ _ ?_
    repeat' (first | (intro hh; exfalso; omega) | (refine And.intro (by first | assumption | omega) ?_) | (refine And.intro rfl ?_) | (refine And.intro ?_ ?_) | (intro qq hq1 hq2 hq3; have hq4 := hq2 (by omega) (by omega); subst hq4) | (intro hh) | omega | exact trivial)
    all_goals exact hsp M rfl
theorem so_X6_chance : ez_Sound LM yX6_chance cX6_chance 5 (some .long) 6 sp_X6_chance := ez_sound (E := e_X6_chance) (prog := p_X6_chance) LM_ok (by decide +kernel) rfl (fun _ h => h) fo_X6 co_X6_ok (List.forall_mem_cons.mpr ⟨k_X6_165 (by decide), List.forall_mem_cons.mpr ⟨k_X6_154 (by decide), List.forall_mem_cons.mpr ⟨k_X6_182 (by decide), List.forall_mem_cons.mpr ⟨k_X6_190 (by decide), fun _ h => absurd h List.not_mem_nil⟩⟩⟩⟩) dp_X6_chance b_X6_chance
def sp_X6_worth : ez_Sp := fun as M Q => match as with | [.inr (.inr q), .inl c] => q = 0 ∧ ff_Inv (ff_N M) ∧ (0 ≤ c ∧ c < M 0 13) ∧ (∀ M' : ez_M, ff_N M' = ff_N M → Q (some (.inl (ff_ws (ff_N M) c 6 0))) M') | _ => False
def e_X6_worth : ez_E := (fl_X6, co_X6, [(182, 6+1, 2, sp_X6_hitsIn)], 0, 4)
set_option maxHeartbeats 4000000 in
set_option maxRecDepth 100000 in
theorem b_X6_worth : ez_Body LM e_X6_worth p_X6_worth sp_X6_worth := by
  intro as M Q has hM hsp
  unfold sp_X6_worth at hsp
  split at hsp
  rotate_left
  · exact hsp.elim
  rename_i q c
  have g_c : -2147483648 ≤ c ∧ c ≤ 2147483647 := ez_hd (ez_tl (has))
  obtain ⟨rfl, hI, hv, hsp⟩ := hsp
  have hn := ff_n_N hI
  refine ⟨Nat.le_of_ble_eq_true rfl, fun cut hcut hkut => ?_⟩
  have loop : ∀ (n : Nat) (k a : Int) (N : ez_M), k + n = 6 → 0 ≤ k → 0 ≤ a → a ≤ 549 * k → ff_N N = ff_N M → (∀ M' : ez_M, ff_N M' = ff_N M → Q (some (.inl (a + ff_ws (ff_N M) c n k))) M') → cut 4 [(0, .inr (.inr 0)), (1, .inl c), (2, .inl a), (3, .inl k)] [] N := by
    intro n
    induction n with
    | zero =>
      intro k a N hk hk0 ha0 ha1 hX hq
      simp only [ff_ws, Int.add_zero] at hq
      have hq := hq N hX
      refine hkut [(4, [0, 1, 2, 3])] 60 4 _ _ _ ?_
      repeat' (first | (intro hh; exfalso; omega) | (refine And.intro (by first | assumption | omega) ?_) | (refine And.intro rfl ?_) | (refine And.intro ?_ ?_) | (intro qq hq1 hq2 hq3; have hq4 := hq2 (by omega) (by omega); subst hq4) | (intro hh) | omega | exact trivial)
      all_goals exact hq
    | succ n ih =>
      intro k a N hk hk0 ha0 ha1 hX hq
      have hIN : ff_Inv (ff_N N) := by rw [hX]; exact hI
      have h13 : N 0 13 = M 0 13 := congrFun (congrFun hX 1) 4
      have hw := ff_wh_r hI (r := k) (c := c) hv.1 hv.2
      simp only [ff_ws] at hq
      have he : ff_wh (ff_N M) k c = N 8 k.toNat * ff_hits (ff_N N) k c := by
        rw [hX]
        show ff_N M 6 k.toNat * ff_hits (ff_N M) k c = ff_N N 6 k.toNat * ff_hits (ff_N M) k c
        rw [hX]
      have ih := fun N hN => ih (k + 1) (a + ff_wh (ff_N M) k c) N (by omega) (by omega) (by omega) (by omega) hN (fun M' h1 => ez_ret (hq M' h1) (by omega))
      rw [he] at ih hw
      refine hkut [(4, [0, 1, 2, 3])] 60 4 _ _ _ ?_
      repeat' (first | (intro hh; exfalso; omega) | (refine And.intro (by first | assumption | omega) ?_) | (refine And.intro rfl ?_) | (refine And.intro ?_ ?_) | (intro qq hq1 hq2 hq3; have hq4 := hq2 (by omega) (by omega); subst hq4) | (intro hh) | omega | exact trivial)
      all_goals exact ih _ (by rw [← hX]; assumption)
  refine hkut [(4, [0, 1, 2, 3])] 60 0 _ _ _ ?_
  exact loop 6 0 0 M (by omega) (by omega) (by omega) (by omega) rfl (fun M' h1 => ez_ret (hsp M' h1) (by omega))
theorem so_X6_worth : ez_Sound LM yX6_worth cX6_worth 4 (some .int) 6 sp_X6_worth := ez_sound (E := e_X6_worth) (prog := p_X6_worth) LM_ok (by decide +kernel) rfl (fun _ h => h) fo_X6 co_X6_ok (List.forall_mem_cons.mpr ⟨k_X6_182 (by decide), fun _ h => absurd h List.not_mem_nil⟩) dp_X6_worth b_X6_worth
theorem k_X6_194 {d : Nat} (h : 6 < d) : ez_CallOK LM RX6 d (194, 6+1, 1, sp_X6_worth) := ez_callV (y := yX6_worth) (bytes := cX6_worth) so_X6_worth h (by decide) q_942 q_78 ⟨by decide +kernel, by decide +kernel, by decide +kernel⟩ (Or.inl q_939) q_941 q_61 (T := TX6) (N := 28) rfl
def sp_X6_odds : ez_Sp := fun as M Q => match as with | [.inr (.inr q), .inl r, .inl c, .inl up] => q = 0 ∧ ff_Inv (ff_N M) ∧ (up = 0 ∨ up = 1) ∧ (∀ M' : ez_M, ff_N M' = ff_N M → Q (some (.inr (.inl (op_odds (ff_N M) r c up)))) M') | _ => False
def e_X6_odds : ez_E := (fl_X6, co_X6, [(165, 0, 1, sp_X6_noRule), (154, 6+1, 1, sp_X6_noChurch), (194, 6+1, 1, sp_X6_worth), (182, 6+1, 2, sp_X6_hitsIn), (190, 0, 3, sp_X6_told)], 2, 5)
set_option maxHeartbeats 4000000 in
set_option maxRecDepth 100000 in
theorem b_X6_odds : ez_Body LM e_X6_odds p_X6_odds sp_X6_odds := by
  intro as M Q has hM hsp
  unfold sp_X6_odds at hsp
  split at hsp
  rotate_left
  · exact hsp.elim
  rename_i q r c up
  have g_r : -2147483648 ≤ r ∧ r ≤ 2147483647 := ez_hd (ez_tl (has))
  have g_c : -2147483648 ≤ c ∧ c ≤ 2147483647 := ez_hd (ez_tl (ez_tl (has)))
  have g_up : -2147483648 ≤ up ∧ up ≤ 2147483647 := ez_hd (ez_tl (ez_tl (ez_tl (has))))
  obtain ⟨rfl, hI, hup, hsp⟩ := hsp
  refine ⟨Nat.le_of_ble_eq_true rfl, fun cut hcut hkut => ?_⟩
  suffices hgo : ∀ M' : ez_M, ff_N M' = ff_N M → cut 5 [(0, .inr (.inr 0)), (1, .inl r), (2, .inl c), (3, .inl up)] [] M' by
    refine hkut [(5, [0, 1, 2, 3])] 60 0 _ _ _ ?_
    exact hgo _ (ff_N_th M)
  clear hM
  intro M hth
  rw [← hth] at hI hsp
  clear hth
  have hn := ff_n_N hI
  unfold op_odds at hsp
  by_cases h1 : (0 ≤ r ∧ r ≤ 5) ∧ (0 ≤ c ∧ c < ff_N M 1 4)
  · have h1m : (0 ≤ r ∧ r ≤ 5) ∧ (0 ≤ c ∧ c < M 0 13) := h1
    simp only [if_pos h1] at hsp
    have hws := ff_ws_r hI h1.2.1 h1.2.2 6 0
    have hw := ff_wh_r hI (r := r) (c := c) h1.2.1 h1.2.2
    generalize hA : ff_ws (ff_N M) c 6 0 = A at hsp hws
    have mid : ∀ N : ez_M, ff_N N = ff_N M → cut 31 [(0, .inr (.inr 0)), (1, .inl r), (2, .inl c), (3, .inl up), (4, .inl A)] [] N := by
      intro N hN
      have hIN : ff_Inv (ff_N N) := by rw [hN]; exact hI
      have h13 : N 0 13 = M 0 13 := congrFun (congrFun hN 1) 4
      have he : ff_wh (ff_N M) r c = N 8 r.toNat * ff_hits (ff_N N) r c := by
        rw [hN]
        show ff_N M 6 r.toNat * ff_hits (ff_N M) r c = ff_N N 6 r.toNat * ff_hits (ff_N M) r c
        rw [hN]
      rw [he] at hsp hw
      refine hkut [(31, [0, 1, 2, 3, 4])] 60 31 _ _ _ ?_
      by_cases h0 : A = 0
      · simp only [if_pos h0] at hsp
        have hsp := hsp N hN
        repeat' (first | (intro hh; exfalso; omega) | (refine And.intro (by first | assumption | omega) ?_) | (refine And.intro rfl ?_) | (refine And.intro ?_ ?_) | (intro qq hq1 hq2 hq3; have hq4 := hq2 (by omega) (by omega); subst hq4) | (intro hh) | omega | exact trivial)
        all_goals exact hsp
      · simp only [if_neg h0] at hsp
        repeat' (first | (intro hh; exfalso; omega) | (refine And.intro (by first | assumption | omega) ?_) | (refine And.intro rfl ?_) | (refine And.intro ?_ ?_) | (intro qq hq1 hq2 hq3; have hq4 := hq2 (by omega) (by omega); subst hq4) | (intro hh) | omega | exact trivial)
        all_goals exact hsp _ (by rw [← hN]; assumption)
    refine hkut [(31, [0, 1, 2, 3, 4])] 60 5 _ _ _ ?_
    rw [← hA] at mid
    repeat' (first | (intro hh; exfalso; omega) | (refine And.intro (by first | assumption | omega) ?_) | (refine And.intro rfl ?_) | (refine And.intro ?_ ?_) | (intro qq hq1 hq2 hq3; have hq4 := hq2 (by omega) (by omega); subst hq4) | (intro hh) | omega | exact trivial)
    all_goals exact mid _ (by assumption)
  · have h1m : ¬ ((0 ≤ r ∧ r ≤ 5) ∧ (0 ≤ c ∧ c < M 0 13)) := h1
    simp only [if_neg h1] at hsp
    refine hkut [] 60 5 _ _ _ ?_
    repeat' (first | (intro hh; exfalso; omega) | (refine And.intro (by first | assumption | omega) ?_) | (refine And.intro rfl ?_) | (refine And.intro ?_ ?_) | (intro qq hq1 hq2 hq3; have hq4 := hq2 (by omega) (by omega); subst hq4) | (intro hh) | omega | exact trivial)
    all_goals exact hsp M rfl
theorem so_X6_odds : ez_Sound LM yX6_odds cX6_odds 5 (some .long) 7 sp_X6_odds := ez_sound (E := e_X6_odds) (prog := p_X6_odds) LM_ok (by decide +kernel) rfl (fun _ h => h) fo_X6 co_X6_ok (List.forall_mem_cons.mpr ⟨k_X6_165 (by decide), List.forall_mem_cons.mpr ⟨k_X6_154 (by decide), List.forall_mem_cons.mpr ⟨k_X6_194 (by decide), List.forall_mem_cons.mpr ⟨k_X6_182 (by decide), List.forall_mem_cons.mpr ⟨k_X6_190 (by decide), fun _ h => absurd h List.not_mem_nil⟩⟩⟩⟩⟩) dp_X6_odds b_X6_odds
def sp_X6_best : ez_Sp := fun as M Q => match as with | [.inr (.inr q), .inl c] => q = 0 ∧ ff_Inv (ff_N M) ∧ (∀ M' : ez_M, ff_N M' = ff_N M → Q (some (.inl (op_best (ff_N M) c))) M') | _ => False
def e_X6_best : ez_E := (fl_X6, co_X6, [(154, 6+1, 1, sp_X6_noChurch), (182, 6+1, 2, sp_X6_hitsIn)], 0, 6)
set_option maxHeartbeats 4000000 in
set_option maxRecDepth 100000 in
theorem b_X6_best : ez_Body LM e_X6_best p_X6_best sp_X6_best := by
  intro as M Q has hM hsp
  unfold sp_X6_best at hsp
  split at hsp
  rotate_left
  · exact hsp.elim
  rename_i q c
  have g_c : -2147483648 ≤ c ∧ c ≤ 2147483647 := ez_hd (ez_tl (has))
  obtain ⟨rfl, hI, hsp⟩ := hsp
  refine ⟨Nat.le_of_ble_eq_true rfl, fun cut hcut hkut => ?_⟩
  suffices hgo : ∀ M' : ez_M, ff_N M' = ff_N M → cut 5 [(0, .inr (.inr 0)), (1, .inl c)] [] M' by
    refine hkut [(5, [0, 1])] 60 0 _ _ _ ?_
    exact hgo _ (ff_N_th M)
  clear hM
  intro M hth
  rw [← hth] at hI hsp
  clear hth
  have hn := ff_n_N hI
  unfold op_best at hsp
  by_cases h1 : 0 ≤ c ∧ c < ff_N M 1 4
  · have h1m : 0 ≤ c ∧ c < M 0 13 := h1
    simp only [if_pos h1] at hsp
    have loop : ∀ (n : Nat) (k b z : Int) (N : ez_M), k + n = 6 → 0 ≤ k → ff_N N = ff_N M → (∀ M' : ez_M, ff_N M' = ff_N M → Q (some (.inl (ff_bst (ff_N M) c n k b z))) M') → cut 23 [(0, .inr (.inr 0)), (1, .inl c), (2, .inl b), (3, .inl z), (4, .inl k)] [] N := by
      intro n
      induction n with
      | zero =>
        intro k b z N hk hk0 hX hq
        simp only [ff_bst] at hq
        have hq := hq N hX
        refine hkut [(23, [0, 1, 2, 3, 4])] 60 23 _ _ _ ?_
        repeat' (first | (intro hh; exfalso; omega) | (refine And.intro (by first | assumption | omega) ?_) | (refine And.intro rfl ?_) | (refine And.intro ?_ ?_) | (intro qq hq1 hq2 hq3; have hq4 := hq2 (by omega) (by omega); subst hq4) | (intro hh) | omega | exact trivial)
        all_goals exact hq
      | succ n ih =>
        intro k b z N hk hk0 hX hq
        have hIN : ff_Inv (ff_N N) := by rw [hX]; exact hI
        have h13 : N 0 13 = M 0 13 := congrFun (congrFun hX 1) 4
        have hw := ff_wh_r hI (r := k) (c := c) h1.1 h1.2
        simp only [ff_bst] at hq
        have he : ff_wh (ff_N M) k c = N 8 k.toNat * ff_hits (ff_N N) k c := by
          rw [hX]
          show ff_N M 6 k.toNat * ff_hits (ff_N M) k c = ff_N N 6 k.toNat * ff_hits (ff_N M) k c
          rw [hX]
        refine hkut [(23, [0, 1, 2, 3, 4])] 60 23 _ _ _ ?_
        by_cases hz : z < ff_wh (ff_N M) k c
        · simp only [if_pos hz] at hq
          have ih := fun N hN => ih (k + 1) k (ff_wh (ff_N M) k c) N (by omega) (by omega) hN hq
          rw [he] at ih hw hz
          repeat' (first | (intro hh; exfalso; omega) | (refine And.intro (by first | assumption | omega) ?_) | (refine And.intro rfl ?_) | (refine And.intro ?_ ?_) | (intro qq hq1 hq2 hq3; have hq4 := hq2 (by omega) (by omega); subst hq4) | (intro hh) | omega | exact trivial)
          all_goals exact ih _ (by rw [← hX]; assumption)
        · simp only [if_neg hz] at hq
          have ih := fun N hN => ih (k + 1) b z N (by omega) (by omega) hN hq
          rw [he] at hw hz
          repeat' (first | (intro hh; exfalso; omega) | (refine And.intro (by first | assumption | omega) ?_) | (refine And.intro rfl ?_) | (refine And.intro ?_ ?_) | (intro qq hq1 hq2 hq3; have hq4 := hq2 (by omega) (by omega); subst hq4) | (intro hh) | omega | exact trivial)
          all_goals exact ih _ (by rw [← hX]; assumption)
    refine hkut [(23, [0, 1, 2, 3, 4])] 60 5 _ _ _ ?_
    repeat' (first | (intro hh; exfalso; omega) | (refine And.intro (by first | assumption | omega) ?_) | (refine And.intro rfl ?_) | (refine And.intro ?_ ?_) | (intro qq hq1 hq2 hq3; have hq4 := hq2 (by omega) (by omega); subst hq4) | (intro hh) | omega | exact trivial)
    all_goals exact loop 6 0 (-3) 0 M (by omega) (by omega) rfl hsp
  · have h1m : ¬ (0 ≤ c ∧ c < M 0 13) := h1
    simp only [if_neg h1] at hsp
    refine hkut [] 60 5 _ _ _ ?_
    repeat' (first | (intro hh; exfalso; omega) | (refine And.intro (by first | assumption | omega) ?_) | (refine And.intro rfl ?_) | (refine And.intro ?_ ?_) | (intro qq hq1 hq2 hq3; have hq4 := hq2 (by omega) (by omega); subst hq4) | (intro hh) | omega | exact trivial)
    all_goals exact hsp M rfl
theorem so_X6_best : ez_Sound LM yX6_best cX6_best 6 (some .int) 6 sp_X6_best := ez_sound (E := e_X6_best) (prog := p_X6_best) LM_ok (by decide +kernel) rfl (fun _ h => h) fo_X6 co_X6_ok (List.forall_mem_cons.mpr ⟨k_X6_154 (by decide), List.forall_mem_cons.mpr ⟨k_X6_182 (by decide), fun _ h => absurd h List.not_mem_nil⟩⟩) dp_X6_best b_X6_best
