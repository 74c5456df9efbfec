/-! ===== keep, again, count, fewest ===== -/
def ff_kb (M : ez_M) (k : Nat) : ez_M := ez_up (ez_up M 11 k 1) 10 k (M 0 13)
def ff_kf (M : ez_M) (k : Nat) (n : Nat) : ez_M := fun i j => if i = 9 ∧ 110 * k ≤ j ∧ j < 110 * k + n then M 7 (j - 110 * k) else ff_kb M k i j
theorem ff_kf_0 (M : ez_M) (k : Nat) : ff_kf M k 0 = ff_kb M k := by
  funext i j
  simp only [ff_kf]
  rw [if_neg (by omega)]
theorem ff_kf_7 (M : ez_M) (k n : Nat) : ff_kf M k n 7 = M 7 := by
  funext j
  simp [ff_kf, ff_kb, ez_up]
theorem ff_kf_13 (M : ez_M) (k n : Nat) : ff_kf M k n 0 13 = M 0 13 := by
  simp [ff_kf, ff_kb, ez_up]
theorem ff_kf_s (M : ez_M) (k n : Nat) : ez_up (ff_kf M k n) 9 (110 * k + n) (ff_kf M k n 7 n) = ff_kf M k (n + 1) := by
  rw [ff_kf_7]
  funext i j
  simp only [ez_up, ff_kf]
  by_cases h : i = 9 ∧ j = 110 * k + n
  · obtain ⟨rfl, rfl⟩ := h
    rw [if_pos ⟨rfl, rfl⟩, if_pos ⟨rfl, by omega, by omega⟩]
    rw [show 110 * k + n - 110 * k = n by omega]
  · rw [if_neg h]
    by_cases h2 : i = 9 ∧ 110 * k ≤ j ∧ j < 110 * k + n
    · rw [if_pos h2, if_pos ⟨h2.1, h2.2.1, by omega⟩]
    · rw [if_neg h2, if_neg (by omega)]
theorem ff_N_kf0 (M : ez_M) : ff_N (ff_kf M 0 110) = op_keep_s (ff_N M) 0 := by
  unfold op_keep_s
  rw [if_pos rfl]
  funext r j
  rcases r with _ | _ | _ | _ | _ | _ | _ | _ | _ | _ | r
  · simp [ff_N, ff_kf, ff_kb, ez_up]
  · rcases j with _ | _ | _ | _ | _ | j <;> simp [ff_N, ff_kf, ff_kb, ez_up]
  · simp [ff_N, ff_kf, ff_kb, ez_up]
  · simp [ff_N, ff_kf, ff_kb, ez_up]
  · simp [ff_N, ff_kf, ff_kb, ez_up]
  · simp [ff_N, ff_kf, ff_kb, ez_up]
  · simp [ff_N, ff_kf, ff_kb, ez_up]
  · by_cases hj : j < 110
    · simp [ff_N, ff_kf, ff_kb, ez_up, hj]
    · simp [ff_N, hj]
  · have h110 : ¬ 110 + j < 110 := by omega
    simp [ff_N, ff_kf, ff_kb, ez_up, h110]
  · rcases j with _ | _ | _ | _ | j <;> simp [ff_N, ff_kf, ff_kb, ez_up]
  · simp [ff_N]
theorem ff_N_kf1 (M : ez_M) : ff_N (ff_kf M 1 110) = op_keep_s (ff_N M) 1 := by
  unfold op_keep_s
  rw [if_neg (by decide), if_pos rfl]
  funext r j
  rcases r with _ | _ | _ | _ | _ | _ | _ | _ | _ | _ | r
  · simp [ff_N, ff_kf, ff_kb, ez_up]
  · rcases j with _ | _ | _ | _ | _ | j <;> simp [ff_N, ff_kf, ff_kb, ez_up]
  · simp [ff_N, ff_kf, ff_kb, ez_up]
  · simp [ff_N, ff_kf, ff_kb, ez_up]
  · simp [ff_N, ff_kf, ff_kb, ez_up]
  · simp [ff_N, ff_kf, ff_kb, ez_up]
  · simp [ff_N, ff_kf, ff_kb, ez_up]
  · by_cases hj : j < 110
    · simp [ff_N, ff_kf, ff_kb, ez_up, hj]
      omega
    · simp [ff_N, hj]
  · by_cases hj : j < 110
    · simp [ff_N, ff_kf, ff_kb, ez_up, hj]
      omega
    · simp [ff_N, hj]
  · rcases j with _ | _ | _ | _ | j <;> simp [ff_N, ff_kf, ff_kb, ez_up]
  · simp [ff_N]
def sp_X6_keep : ez_Sp := fun as M Q => match as with | [.inr (.inr q), .inl k] => q = 0 ∧ ff_Inv (ff_N M) ∧ (∀ M' : ez_M, ff_N M' = op_keep_s (ff_N M) k → Q (some (.inl (op_keep (ff_N M) k))) M') | _ => False
def e_X6_keep : ez_E := (fl_X6, co_X6, [(69, 0, 3, sp_X6_in)], 0, 3)
set_option maxHeartbeats 4000000 in
set_option maxRecDepth 100000 in
theorem b_X6_keep : ez_Body LM e_X6_keep p_X6_keep sp_X6_keep := by
  intro as M Q has hM hsp
  unfold sp_X6_keep at hsp
  split at hsp
  rotate_left
  · exact hsp.elim
  rename_i q k
  have g_k : -2147483648 ≤ k ∧ k ≤ 2147483647 := ez_hd (ez_tl (has))
  obtain ⟨rfl, hI, hsp⟩ := hsp
  refine ⟨Nat.le_of_ble_eq_true rfl, fun cut hcut hkut => ?_⟩
  suffices hgo : ∀ M' : ez_M, ff_N M' = ff_N M → cut 5 [(0, .inr (.inr 0)), (1, .inl k)] [] M' by
    refine hkut [(5, [0, 1])] 60 0 _ _ _ ?_
    exact hgo _ (ff_N_th M)
  clear hM
  intro M hth
  rw [← hth] at hI hsp
  clear hth
  have hn := ff_n_N hI
  unfold op_keep at hsp
  by_cases h1 : 0 ≤ k ∧ k ≤ 1
  · rw [if_pos h1] at hsp
    have hx : ff_N (ff_kf M k.toNat 110) = op_keep_s (ff_N M) k := by
      have hk : k = 0 ∨ k = 1 := by omega
      rcases hk with rfl | rfl
      · exact ff_N_kf0 M
      · exact ff_N_kf1 M
    have hsp := hsp _ hx
    have loop : ∀ (n j : Nat), j + n = 110 → cut 36 [(0, .inr (.inr 0)), (1, .inl k), (2, .inl (j : Int))] [] (ff_kf M k.toNat j) := by
      intro n
      induction n with
      | zero =>
        intro j hj
        obtain rfl : j = 110 := by omega
        have h13 := ff_kf_13 M k.toNat 110
        refine hkut [(36, [0, 1, 2])] 60 36 _ _ _ ?_
        repeat' (first | (intro hh; exfalso; omega) | (refine And.intro (by first | assumption | omega) ?_) | (refine And.intro rfl ?_) | (refine And.intro ?_ ?_) | (intro qq hq1 hq2 hq3; have hq4 := hq2 (by omega) (by omega); subst hq4) | (intro hh) | omega | exact trivial)
        all_goals exact ez_ret hsp h13
      | succ n ih =>
        intro j hj
        have ih := ih (j + 1) (by omega)
        rw [← ff_kf_s] at ih
        have he : (110 * k + (j : Int)).toNat = 110 * k.toNat + j := by omega
        rw [← he] at ih
        refine hkut [(36, [0, 1, 2])] 60 36 _ _ _ ?_
        repeat' (first | (intro hh; exfalso; omega) | (refine And.intro (by first | assumption | omega) ?_) | (refine And.intro rfl ?_) | (refine And.intro ?_ ?_) | (intro qq hq1 hq2 hq3; have hq4 := hq2 (by omega) (by omega); subst hq4) | (intro hh) | omega | exact trivial)
        all_goals exact ih
    have h0 := loop 110 0 (by omega)
    rw [ff_kf_0] at h0
    have h13 : ez_up M 11 k.toNat 1 0 13 = M 0 13 := by simp [ez_up]
    unfold ff_kb at h0
    rw [← h13] at h0
    refine hkut [(36, [0, 1, 2])] 60 5 _ _ _ ?_
    repeat' (first | (intro hh; exfalso; omega) | (refine And.intro (by first | assumption | omega) ?_) | (refine And.intro rfl ?_) | (refine And.intro ?_ ?_) | (intro qq hq1 hq2 hq3; have hq4 := hq2 (by omega) (by omega); subst hq4) | (intro hh) | omega | exact trivial)
    all_goals exact h0
  · rw [if_neg h1] at hsp
    have hs : op_keep_s (ff_N M) k = ff_N M := by
      unfold op_keep_s
      rw [if_neg (by omega), if_neg (by omega)]
    have hsp := hsp M hs.symm
    refine hkut [] 60 5 _ _ _ ?_
    repeat' (first | (intro hh; exfalso; omega) | (refine And.intro (by first | assumption | omega) ?_) | (refine And.intro rfl ?_) | (refine And.intro ?_ ?_) | (intro qq hq1 hq2 hq3; have hq4 := hq2 (by omega) (by omega); subst hq4) | (intro hh) | omega | exact trivial)
    all_goals exact hsp
theorem so_X6_keep : ez_Sound LM yX6_keep cX6_keep 3 (some .int) 1 sp_X6_keep := ez_sound (E := e_X6_keep) (prog := p_X6_keep) LM_ok (by decide +kernel) rfl (fun _ h => h) fo_X6 co_X6_ok (List.forall_mem_cons.mpr ⟨k_X6_69 (by decide), fun _ h => absurd h List.not_mem_nil⟩) dp_X6_keep b_X6_keep
def ff_af (M : ez_M) (k : Nat) (n : Nat) : ez_M := fun i j => if i = 7 ∧ j < n then M 9 (110 * k + j) else if i = 0 ∧ j = 13 then M 10 k else M i j
theorem ff_af_0 (M : ez_M) (k : Nat) : ff_af M k 0 = ez_up M 0 13 (M 10 k) := by
  funext i j
  simp [ff_af, ez_up]
theorem ff_af_9 (M : ez_M) (k n : Nat) : ff_af M k n 9 = M 9 := by
  funext j
  simp [ff_af]
theorem ff_af_13 (M : ez_M) (k n : Nat) : ff_af M k n 0 13 = M 10 k := by
  simp [ff_af]
theorem ff_af_s (M : ez_M) (k n : Nat) : ez_up (ff_af M k n) 7 n (ff_af M k n 9 (110 * k + n)) = ff_af M k (n + 1) := by
  rw [ff_af_9]
  funext i j
  simp only [ez_up, ff_af]
  by_cases h : i = 7 ∧ j = n
  · obtain ⟨rfl, rfl⟩ := h
    rw [if_pos ⟨rfl, rfl⟩, if_pos ⟨rfl, by omega⟩]
  · rw [if_neg h]
    by_cases h2 : i = 7 ∧ j < n
    · rw [if_pos h2, if_pos ⟨h2.1, by omega⟩]
    · rw [if_neg h2]
      have h3 : ¬ (i = 7 ∧ j < n + 1) := by omega
      rw [if_neg h3]
theorem ff_N_af0 (M : ez_M) (h : ¬ M 11 0 = 0) : ff_N (ff_af M 0 110) = op_again_s (ff_N M) 0 := by
  have h2 : ¬ ff_N M 9 2 = 0 := h
  unfold op_again_s
  rw [if_pos rfl, if_neg h2]
  funext r j
  rcases r with _ | _ | _ | _ | _ | _ | _ | _ | _ | _ | r
  · simp [ff_N, ff_af]
  · rcases j with _ | _ | _ | _ | _ | j <;> simp [ff_N, ff_af]
  · simp [ff_N, ff_af]
  · simp [ff_N, ff_af]
  · simp [ff_N, ff_af]
  · by_cases hj : j < 110 <;> simp [ff_N, ff_af, hj]
  · simp [ff_N, ff_af]
  · simp [ff_N, ff_af]
  · simp [ff_N, ff_af]
  · rcases j with _ | _ | _ | _ | j <;> simp [ff_N, ff_af]
  · simp [ff_N]
theorem ff_N_af1 (M : ez_M) (h : ¬ M 11 1 = 0) : ff_N (ff_af M 1 110) = op_again_s (ff_N M) 1 := by
  have h2 : ¬ ff_N M 9 3 = 0 := h
  unfold op_again_s
  rw [if_neg (by decide), if_pos rfl, if_neg h2]
  funext r j
  rcases r with _ | _ | _ | _ | _ | _ | _ | _ | _ | _ | r
  · simp [ff_N, ff_af]
  · rcases j with _ | _ | _ | _ | _ | j <;> simp [ff_N, ff_af]
  · simp [ff_N, ff_af]
  · simp [ff_N, ff_af]
  · simp [ff_N, ff_af]
  · by_cases hj : j < 110 <;> simp [ff_N, ff_af, hj]
  · simp [ff_N, ff_af]
  · simp [ff_N, ff_af]
  · simp [ff_N, ff_af]
  · rcases j with _ | _ | _ | _ | j <;> simp [ff_N, ff_af]
  · simp [ff_N]
theorem op_again_eq (M : ez_M) {k : Int} (h : 0 ≤ k ∧ k ≤ 1) : op_again (ff_N M) k = (if M 11 k.toNat = 0 then -3 else M 10 k.toNat) ∧ (M 11 k.toNat = 0 → op_again_s (ff_N M) k = ff_N M) ∧ (¬ M 11 k.toNat = 0 → op_again_s (ff_N M) k = ff_N (ff_af M k.toNat 110)) ∧ (ff_Inv (ff_N M) → M 11 k.toNat = 0 ∨ M 11 k.toNat = 1) := by
  have hk : k = 0 ∨ k = 1 := by omega
  rcases hk with rfl | rfl
  · refine ⟨rfl, fun h => ?_, fun h => (ff_N_af0 M h).symm, fun h => h.2.2.2.2.2.2.1.2.2.1⟩
    have h2 : ff_N M 9 2 = 0 := h
    unfold op_again_s
    rw [if_pos rfl, if_pos h2]
  · refine ⟨rfl, fun h => ?_, fun h => (ff_N_af1 M h).symm, fun h => h.2.2.2.2.2.2.1.2.2.2⟩
    have h2 : ff_N M 9 3 = 0 := h
    unfold op_again_s
    rw [if_neg (by decide), if_pos rfl, if_pos h2]
def sp_X6_again : ez_Sp := fun as M Q => match as with | [.inr (.inr q), .inl k] => q = 0 ∧ ff_Inv (ff_N M) ∧ (∀ M' : ez_M, ff_N M' = op_again_s (ff_N M) k → Q (some (.inl (op_again (ff_N M) k))) M') | _ => False
def e_X6_again : ez_E := (fl_X6, co_X6, [(69, 0, 3, sp_X6_in)], 0, 3)
set_option maxHeartbeats 4000000 in
set_option maxRecDepth 100000 in
theorem b_X6_again : ez_Body LM e_X6_again p_X6_again sp_X6_again := by
  intro as M Q has hM hsp
  unfold sp_X6_again at hsp
  split at hsp
  rotate_left
  · exact hsp.elim
  rename_i q k
  have g_k : -2147483648 ≤ k ∧ k ≤ 2147483647 := ez_hd (ez_tl (has))
  obtain ⟨rfl, hI, hsp⟩ := hsp
  refine ⟨Nat.le_of_ble_eq_true rfl, fun cut hcut hkut => ?_⟩
  suffices hgo : ∀ M' : ez_M, ff_N M' = ff_N M → cut 5 [(0, .inr (.inr 0)), (1, .inl k)] [] M' by
    refine hkut [(5, [0, 1])] 60 0 _ _ _ ?_
    exact hgo _ (ff_N_th M)
  clear hM
  intro M hth
  rw [← hth] at hI hsp
  clear hth
  have hn := ff_n_N hI
  by_cases h1 : 0 ≤ k ∧ k ≤ 1
  · obtain ⟨e1, e2, e3, e4⟩ := op_again_eq M h1
    have e4 := e4 hI
    rw [e1] at hsp
    by_cases h0 : M 11 k.toNat = 0
    · rw [if_pos h0, e2 h0] at hsp
      have hsp := hsp M rfl
      refine hkut [] 60 5 _ _ _ ?_
      repeat' (first | (intro hh; exfalso; omega) | (refine And.intro (by first | assumption | omega) ?_) | (refine And.intro rfl ?_) | (refine And.intro ?_ ?_) | (intro qq hq1 hq2 hq3; have hq4 := hq2 (by omega) (by omega); subst hq4) | (intro hh) | omega | exact trivial)
      all_goals exact hsp
    · rw [if_neg h0, e3 h0] at hsp
      have hsp := hsp _ rfl
      have loop : ∀ (n j : Nat), j + n = 110 → cut 41 [(0, .inr (.inr 0)), (1, .inl k), (2, .inl (j : Int))] [] (ff_af M k.toNat j) := by
        intro n
        induction n with
        | zero =>
          intro j hj
          obtain rfl : j = 110 := by omega
          have h13 := ff_af_13 M k.toNat 110
          refine hkut [(41, [0, 1, 2])] 60 41 _ _ _ ?_
          repeat' (first | (intro hh; exfalso; omega) | (refine And.intro (by first | assumption | omega) ?_) | (refine And.intro rfl ?_) | (refine And.intro ?_ ?_) | (intro qq hq1 hq2 hq3; have hq4 := hq2 (by omega) (by omega); subst hq4) | (intro hh) | omega | exact trivial)
          all_goals exact ez_ret hsp h13
        | succ n ih =>
          intro j hj
          have ih := ih (j + 1) (by omega)
          rw [← ff_af_s] at ih
          have he : (110 * k + (j : Int)).toNat = 110 * k.toNat + j := by omega
          rw [← he] at ih
          refine hkut [(41, [0, 1, 2])] 60 41 _ _ _ ?_
          repeat' (first | (intro hh; exfalso; omega) | (refine And.intro (by first | assumption | omega) ?_) | (refine And.intro rfl ?_) | (refine And.intro ?_ ?_) | (intro qq hq1 hq2 hq3; have hq4 := hq2 (by omega) (by omega); subst hq4) | (intro hh) | omega | exact trivial)
          all_goals exact ih
      have hl := loop 110 0 (by omega)
      rw [ff_af_0] at hl
      refine hkut [(41, [0, 1, 2])] 60 5 _ _ _ ?_
      repeat' (first | (intro hh; exfalso; omega) | (refine And.intro (by first | assumption | omega) ?_) | (refine And.intro rfl ?_) | (refine And.intro ?_ ?_) | (intro qq hq1 hq2 hq3; have hq4 := hq2 (by omega) (by omega); subst hq4) | (intro hh) | omega | exact trivial)
      all_goals exact hl
  · have e1 : op_again (ff_N M) k = -1 := by
      unfold op_again
      rw [if_neg (by omega), if_neg (by omega)]
    have e2 : op_again_s (ff_N M) k = ff_N M := by
      unfold op_again_s
      rw [if_neg (by omega), if_neg (by omega)]
    rw [e1, e2] at hsp
    have hsp := hsp M rfl
    refine hkut [] 60 5 _ _ _ ?_
    repeat' (first | (intro hh; exfalso; omega) | (refine And.intro (by first | assumption | omega) ?_) | (refine And.intro rfl ?_) | (refine And.intro ?_ ?_) | (intro qq hq1 hq2 hq3; have hq4 := hq2 (by omega) (by omega); subst hq4) | (intro hh) | omega | exact trivial)
    all_goals exact hsp
theorem so_X6_again : ez_Sound LM yX6_again cX6_again 3 (some .int) 1 sp_X6_again := ez_sound (E := e_X6_again) (prog := p_X6_again) LM_ok (by decide +kernel) rfl (fun _ h => h) fo_X6 co_X6_ok (List.forall_mem_cons.mpr ⟨k_X6_69 (by decide), fun _ h => absurd h List.not_mem_nil⟩) dp_X6_again b_X6_again
def sp_X6_count : ez_Sp := fun as M Q => match as with | [.inr (.inr q), .inl w] => q = 0 ∧ ff_Inv (ff_N M) ∧ (∀ M' : ez_M, ff_N M' = ff_N M → Q (some (.inl (op_count (ff_N M) w))) M') | _ => False
def e_X6_count : ez_E := (fl_X6, co_X6, [(185, 6+1, 1, sp_X6_explained)], 0, 6)
set_option maxHeartbeats 4000000 in
set_option maxRecDepth 100000 in
theorem b_X6_count : ez_Body LM e_X6_count p_X6_count sp_X6_count := by
  intro as M Q has hM hsp
  unfold sp_X6_count at hsp
  split at hsp
  rotate_left
  · exact hsp.elim
  rename_i q w
  have g_w : -2147483648 ≤ w ∧ w ≤ 2147483647 := ez_hd (ez_tl (has))
  obtain ⟨rfl, hI, hsp⟩ := hsp
  refine ⟨Nat.le_of_ble_eq_true rfl, fun cut hcut hkut => ?_⟩
  suffices hgo : ∀ M' : ez_M, ff_N M' = ff_N M → cut 5 [(0, .inr (.inr 0)), (1, .inl w)] [] M' by
    refine hkut [(5, [0, 1])] 60 0 _ _ _ ?_
    exact hgo _ (ff_N_th M)
  clear hM
  intro M hth
  rw [← hth] at hI hsp
  clear hth
  have hn := ff_n_N hI
  unfold op_count at hsp
  have fin : ∀ (N : ez_M) (y : Int), ff_N N = ff_N M → y = M 0 13 → cut 15 [(0, .inr (.inr 0)), (1, .inl w), (2, .inl (ff_cn (ff_kn (ff_N M 5) 5) (ff_N M 1 4).toNat 0)), (3, .inl (ff_cn (ff_kn (ff_N M 5) 8) (ff_N M 1 4).toNat 0)), (4, .inl (ff_une (ff_N M))), (5, .inl y)] [] N := by
    intro N y hX hy
    have h13 : N 0 13 = M 0 13 := congrFun (congrFun hX 1) 4
    have hsp := hsp N hX
    rw [← hX] at hsp ⊢
    refine hkut [(15, [0, 1, 2, 3, 4, 5])] 60 15 _ _ _ ?_
    by_cases h0 : w = 0
    · subst h0
      rw [if_pos rfl] at hsp
      repeat' (first | (intro hh; exfalso; omega) | (refine And.intro (by first | assumption | omega) ?_) | (refine And.intro rfl ?_) | (refine And.intro ?_ ?_) | (intro qq hq1 hq2 hq3; have hq4 := hq2 (by omega) (by omega); subst hq4) | (intro hh) | omega | exact trivial)
      all_goals exact hsp
    · rw [if_neg h0] at hsp
      by_cases h1 : w = 1
      · subst h1
        rw [if_pos rfl] at hsp
        repeat' (first | (intro hh; exfalso; omega) | (refine And.intro (by first | assumption | omega) ?_) | (refine And.intro rfl ?_) | (refine And.intro ?_ ?_) | (intro qq hq1 hq2 hq3; have hq4 := hq2 (by omega) (by omega); subst hq4) | (intro hh) | omega | exact trivial)
        all_goals exact hsp
      · rw [if_neg h1] at hsp
        by_cases h2 : w = 2
        · subst h2
          rw [if_pos rfl] at hsp
          repeat' (first | (intro hh; exfalso; omega) | (refine And.intro (by first | assumption | omega) ?_) | (refine And.intro rfl ?_) | (refine And.intro ?_ ?_) | (intro qq hq1 hq2 hq3; have hq4 := hq2 (by omega) (by omega); subst hq4) | (intro hh) | omega | exact trivial)
          all_goals exact hsp
        · rw [if_neg h2] at hsp
          by_cases h3 : w = 3
          · subst h3
            rw [if_pos rfl] at hsp
            repeat' (first | (intro hh; exfalso; omega) | (refine And.intro (by first | assumption | omega) ?_) | (refine And.intro rfl ?_) | (refine And.intro ?_ ?_) | (intro qq hq1 hq2 hq3; have hq4 := hq2 (by omega) (by omega); subst hq4) | (intro hh) | omega | exact trivial)
            all_goals exact hsp
          · rw [if_neg h3] at hsp
            by_cases h4 : w = 4
            · subst h4
              rw [if_pos rfl] at hsp
              repeat' (first | (intro hh; exfalso; omega) | (refine And.intro (by first | assumption | omega) ?_) | (refine And.intro rfl ?_) | (refine And.intro ?_ ?_) | (intro qq hq1 hq2 hq3; have hq4 := hq2 (by omega) (by omega); subst hq4) | (intro hh) | omega | exact trivial)
              all_goals exact hsp
            · rw [if_neg h4] at hsp
              by_cases h5 : w = 5
              · subst h5
                rw [if_pos rfl] at hsp
                repeat' (first | (intro hh; exfalso; omega) | (refine And.intro (by first | assumption | omega) ?_) | (refine And.intro rfl ?_) | (refine And.intro ?_ ?_) | (intro qq hq1 hq2 hq3; have hq4 := hq2 (by omega) (by omega); subst hq4) | (intro hh) | omega | exact trivial)
                all_goals exact hsp
              · rw [if_neg h5] at hsp
                repeat' (first | (intro hh; exfalso; omega) | (refine And.intro (by first | assumption | omega) ?_) | (refine And.intro rfl ?_) | (refine And.intro ?_ ?_) | (intro qq hq1 hq2 hq3; have hq4 := hq2 (by omega) (by omega); subst hq4) | (intro hh) | omega | exact trivial)
                all_goals exact hsp
  generalize hA : ff_cn (ff_kn (ff_N M 5) 5) (ff_N M 1 4).toNat 0 = A at fin
  generalize hB : ff_cn (ff_kn (ff_N M 5) 8) (ff_N M 1 4).toNat 0 = B at fin
  generalize hC : ff_une (ff_N M) = C at fin
  unfold ff_une at hC
  generalize hpC : (fun c => decide (ff_rules (ff_N M) c = 0)) = pC at hC
  have hpv : ∀ c, decide (ff_rules (ff_N M) c = 0) = pC c := fun c => by rw [← hpC]
  have loop : ∀ (n : Nat) (y a b e : Int) (N : ez_M), y + n = M 0 13 → 0 ≤ y → 0 ≤ a → a ≤ y → 0 ≤ b → b ≤ y → 0 ≤ e → e ≤ y → ff_N N = ff_N M → a + ff_cn (ff_kn (ff_N M 5) 5) n y = A → b + ff_cn (ff_kn (ff_N M 5) 8) n y = B → e + ff_cn pC n y = C → cut 15 [(0, .inr (.inr 0)), (1, .inl w), (2, .inl a), (3, .inl b), (4, .inl e), (5, .inl y)] [] N := by
    intro n
    induction n with
    | zero =>
      intro y a b e N hy h0 ha0 ha1 hb0 hb1 he0 he1 hX qa qb qc
      simp only [ff_cn, Int.add_zero] at qa qb qc
      subst qa
      subst qb
      subst qc
      exact fin N y hX (by omega)
    | succ n ih =>
      intro y a b e N hy h0 ha0 ha1 hb0 hb1 he0 he1 hX qa qb qc
      have h13 : N 0 13 = M 0 13 := congrFun (congrFun hX 1) 4
      have h7 : N 7 = M 7 := congrFun hX 5
      have hIN : ff_Inv (ff_N N) := by rw [hX]; exact hI
      simp only [ff_cn] at qa qb qc
      have ka : (ff_kn (ff_N M 5) 5 y = true) ↔ ¬ N 7 (11 * y + 5).toNat = -9 := by
        rw [← hX]
        exact decide_eq_true_iff
      have kb : (ff_kn (ff_N M 5) 8 y = true) ↔ ¬ N 7 (11 * y + 8).toNat = -9 := by
        rw [← hX]
        exact decide_eq_true_iff
      have kc : (pC y = true) ↔ ff_rules (ff_N N) y = 0 := by
        rw [← hpv, hX]
        exact decide_eq_true_iff
      have ih := fun (x1 x2 x3 : Int) (K : ez_M) (g1 : x1 = 0 ∨ x1 = 1) (g2 : x2 = 0 ∨ x2 = 1) (g3 : x3 = 0 ∨ x3 = 1) (hK : ff_N K = ff_N M) (r1 : a + x1 + ff_cn (ff_kn (ff_N M 5) 5) n (y + 1) = A) (r2 : b + x2 + ff_cn (ff_kn (ff_N M 5) 8) n (y + 1) = B) (r3 : e + x3 + ff_cn pC n (y + 1) = C) => ih (y + 1) (a + x1) (b + x2) (e + x3) K (by omega) (by omega) (by omega) (by omega) (by omega) (by omega) (by omega) (by omega) hK r1 r2 r3
      refine hkut [(15, [0, 1, 2, 3, 4, 5])] 80 15 _ _ _ ?_
      by_cases ca : N 7 (11 * y + 5).toNat = -9
      · rw [if_neg (fun z => ka.mp z ca)] at qa
        by_cases cb : N 7 (11 * y + 8).toNat = -9
        · rw [if_neg (fun z => kb.mp z cb)] at qb
          by_cases cc : ff_rules (ff_N N) y = 0
          · rw [if_pos (kc.mpr cc)] at qc
            repeat' (first | (intro hh; exfalso; omega) | (refine And.intro (by first | assumption | omega) ?_) | (refine And.intro rfl ?_) | (refine And.intro ?_ ?_) | (intro qq hq1 hq2 hq3; have hq4 := hq2 (by omega) (by omega); subst hq4) | (intro hh) | omega | exact trivial)
            all_goals exact ih 0 0 1 _ (by omega) (by omega) (by omega) (by rw [← hX]; assumption) (by omega) (by omega) (by omega)
          · rw [if_neg (fun z => cc (kc.mp z))] at qc
            repeat' (first | (intro hh; exfalso; omega) | (refine And.intro (by first | assumption | omega) ?_) | (refine And.intro rfl ?_) | (refine And.intro ?_ ?_) | (intro qq hq1 hq2 hq3; have hq4 := hq2 (by omega) (by omega); subst hq4) | (intro hh) | omega | exact trivial)
            all_goals exact ih 0 0 0 _ (by omega) (by omega) (by omega) (by rw [← hX]; assumption) (by omega) (by omega) (by omega)
        · rw [if_pos (kb.mpr cb)] at qb
          by_cases cc : ff_rules (ff_N N) y = 0
          · rw [if_pos (kc.mpr cc)] at qc
            repeat' (first | (intro hh; exfalso; omega) | (refine And.intro (by first | assumption | omega) ?_) | (refine And.intro rfl ?_) | (refine And.intro ?_ ?_) | (intro qq hq1 hq2 hq3; have hq4 := hq2 (by omega) (by omega); subst hq4) | (intro hh) | omega | exact trivial)
            all_goals exact ih 0 1 1 _ (by omega) (by omega) (by omega) (by rw [← hX]; assumption) (by omega) (by omega) (by omega)
          · rw [if_neg (fun z => cc (kc.mp z))] at qc
            repeat' (first | (intro hh; exfalso; omega) | (refine And.intro (by first | assumption | omega) ?_) | (refine And.intro rfl ?_) | (refine And.intro ?_ ?_) | (intro qq hq1 hq2 hq3; have hq4 := hq2 (by omega) (by omega); subst hq4) | (intro hh) | omega | exact trivial)
            all_goals exact ih 0 1 0 _ (by omega) (by omega) (by omega) (by rw [← hX]; assumption) (by omega) (by omega) (by omega)
      · rw [if_pos (ka.mpr ca)] at qa
        by_cases cb : N 7 (11 * y + 8).toNat = -9
        · rw [if_neg (fun z => kb.mp z cb)] at qb
          by_cases cc : ff_rules (ff_N N) y = 0
          · rw [if_pos (kc.mpr cc)] at qc
            repeat' (first | (intro hh; exfalso; omega) | (refine And.intro (by first | assumption | omega) ?_) | (refine And.intro rfl ?_) | (refine And.intro ?_ ?_) | (intro qq hq1 hq2 hq3; have hq4 := hq2 (by omega) (by omega); subst hq4) | (intro hh) | omega | exact trivial)
            all_goals exact ih 1 0 1 _ (by omega) (by omega) (by omega) (by rw [← hX]; assumption) (by omega) (by omega) (by omega)
          · rw [if_neg (fun z => cc (kc.mp z))] at qc
            repeat' (first | (intro hh; exfalso; omega) | (refine And.intro (by first | assumption | omega) ?_) | (refine And.intro rfl ?_) | (refine And.intro ?_ ?_) | (intro qq hq1 hq2 hq3; have hq4 := hq2 (by omega) (by omega); subst hq4) | (intro hh) | omega | exact trivial)
            all_goals exact ih 1 0 0 _ (by omega) (by omega) (by omega) (by rw [← hX]; assumption) (by omega) (by omega) (by omega)
        · rw [if_pos (kb.mpr cb)] at qb
          by_cases cc : ff_rules (ff_N N) y = 0
          · rw [if_pos (kc.mpr cc)] at qc
            repeat' (first | (intro hh; exfalso; omega) | (refine And.intro (by first | assumption | omega) ?_) | (refine And.intro rfl ?_) | (refine And.intro ?_ ?_) | (intro qq hq1 hq2 hq3; have hq4 := hq2 (by omega) (by omega); subst hq4) | (intro hh) | omega | exact trivial)
            all_goals exact ih 1 1 1 _ (by omega) (by omega) (by omega) (by rw [← hX]; assumption) (by omega) (by omega) (by omega)
          · rw [if_neg (fun z => cc (kc.mp z))] at qc
            repeat' (first | (intro hh; exfalso; omega) | (refine And.intro (by first | assumption | omega) ?_) | (refine And.intro rfl ?_) | (refine And.intro ?_ ?_) | (intro qq hq1 hq2 hq3; have hq4 := hq2 (by omega) (by omega); subst hq4) | (intro hh) | omega | exact trivial)
            all_goals exact ih 1 1 0 _ (by omega) (by omega) (by omega) (by rw [← hX]; assumption) (by omega) (by omega) (by omega)
  have hl := loop (M 0 13).toNat 0 0 0 0 M (by omega) (by omega) (by omega) (by omega) (by omega) (by omega) (by omega) (by omega) rfl (by rw [← hA, Int.zero_add]; rfl) (by rw [← hB, Int.zero_add]; rfl) (by rw [← hC, Int.zero_add]; rfl)
  refine hkut [(15, [0, 1, 2, 3, 4, 5])] 60 5 _ _ _ ?_
  exact hl
theorem so_X6_count : ez_Sound LM yX6_count cX6_count 6 (some .int) 7 sp_X6_count := ez_sound (E := e_X6_count) (prog := p_X6_count) LM_ok (by decide +kernel) rfl (fun _ h => h) fo_X6 co_X6_ok (List.forall_mem_cons.mpr ⟨k_X6_185 (by decide), fun _ h => absurd h List.not_mem_nil⟩) dp_X6_count b_X6_count
