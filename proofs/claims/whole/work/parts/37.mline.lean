/-! ===== the model's needle and lines ===== -/
theorem ff_lat_eq {Y : Nat → Int} {y k : Int} : ∀ (n : Nat) (j : Int), 0 ≤ j → j ≤ k → k ≤ j + n → (∀ i : Int, j ≤ i → i < k → Y i.toNat ≤ y) → (k = j + n ∨ y < Y k.toNat) → ff_lat Y y n j = k
  | 0, j, _, h0, h1, _, _ => by
    simp only [ff_lat]
    omega
  | n + 1, j, hj, h0, h1, h2, h3 => by
    simp only [ff_lat]
    by_cases hk : j = k
    · subst hk
      rcases h3 with h3 | h3
      · omega
      · rw [if_neg (by omega)]
    · rw [if_pos (h2 j (by omega) (by omega))]
      exact ff_lat_eq n (j + 1) (by omega) (by omega) (by omega) (fun i hi hi2 => h2 i (by omega) hi2) (by omega)
theorem ff_lat_bk {n : Int} {Y V : Nat → Int} (h : ff_bk n Y V) {y k : Int} (h0 : 0 ≤ k) (h1 : k ≤ n) (ha : k = 0 ∨ Y (k - 1).toNat ≤ y) (hb : k = n ∨ y < Y k.toNat) : ff_lat Y y n.toNat 0 = k := by
  have hn := h.1
  refine ff_lat_eq n.toNat 0 (by omega) h0 (by omega) (fun i hi hi2 => ?_) (by omega)
  rcases ha with ha | ha
  · omega
  · by_cases he : i = k - 1
    · rw [he]
      exact ha
    · have := ff_bk_lt h (i := i) (k := k - 1) hi (by omega) (by omega)
      omega
theorem ff_nd_0 {n : Int} {Y V : Nat → Int} (h : ff_bk n Y V) {y : Int} (hn : 0 < n) (hy : y ≤ Y 0) : ff_nd n Y V y = V 0 := by
  unfold ff_nd
  rw [if_neg (by omega)]
  by_cases he : y = Y 0
  · have hl := ff_lat_bk h (y := y) (k := 1) (by omega) (by omega) (Or.inr (by show Y 0 ≤ y; omega)) (by
      by_cases h1 : 1 = n
      · exact Or.inl h1
      · right
        have := ff_bk_lt h (i := 0) (k := 1) (by omega) (by omega) (by omega)
        have e0 : Y (0 : Int).toNat = Y 0 := rfl
        omega)
    rw [hl]
    unfold ff_ndk
    rw [if_neg (by decide)]
    split
    · rfl
    · have e0 : Y ((1 : Int) - 1).toNat = Y 0 := rfl
      rw [e0, show y - Y 0 = 0 by omega, Int.mul_zero, Int.zero_tdiv, Int.add_zero]
      rfl
  · have hl := ff_lat_bk h (y := y) (k := 0) (by omega) (by omega) (Or.inl rfl) (Or.inr (by show y < Y 0; omega))
    rw [hl]
    unfold ff_ndk
    rw [if_pos rfl]
    rfl
theorem ff_nd_k {n : Int} {Y V : Nat → Int} (h : ff_bk n Y V) {y k : Int} (h1 : 1 ≤ k) (hk : k < n) (ha : Y (k - 1).toNat < y) (hb : y ≤ Y k.toNat) : ff_nd n Y V y = V (k - 1).toNat + Int.tdiv ((V k.toNat - V (k - 1).toNat) * (y - Y (k - 1).toNat)) (Y k.toNat - Y (k - 1).toNat) := by
  unfold ff_nd
  rw [if_neg (by omega)]
  by_cases he : y = Y k.toNat
  · have hl := ff_lat_bk h (y := y) (k := k + 1) (by omega) (by omega) (Or.inr (by rw [show k + 1 - 1 = k by omega]; omega)) (by
      by_cases h1 : k + 1 = n
      · exact Or.inl h1
      · right
        have := ff_bk_lt h (i := k) (k := k + 1) (by omega) (by omega) (by omega)
        omega)
    have hz : V (k - 1).toNat + Int.tdiv ((V k.toNat - V (k - 1).toNat) * (y - Y (k - 1).toNat)) (Y k.toNat - Y (k - 1).toNat) = V k.toNat := by
      rw [he, Int.mul_tdiv_cancel _ (by omega)]
      omega
    rw [hl, hz]
    unfold ff_ndk
    rw [if_neg (by omega)]
    rw [show k + 1 - 1 = k by omega]
    split
    · rfl
    · rw [he, Int.sub_self, Int.mul_zero, Int.zero_tdiv, Int.add_zero]
  · have hl := ff_lat_bk h (y := y) (k := k) (by omega) (by omega) (Or.inr (by omega)) (Or.inr (by omega))
    rw [hl]
    unfold ff_ndk
    rw [if_neg (by omega), if_neg (by omega)]
theorem ff_nd_n {n : Int} {Y V : Nat → Int} (h : ff_bk n Y V) {y : Int} (hn : 0 < n) (ha : Y (n - 1).toNat < y) : ff_nd n Y V y = V (n - 1).toNat := by
  unfold ff_nd
  rw [if_neg (by omega)]
  have hl := ff_lat_bk h (y := y) (k := n) (by omega) (by omega) (Or.inr (by omega)) (Or.inl rfl)
  rw [hl]
  unfold ff_ndk
  rw [if_neg (by omega), if_pos rfl]
def sp_X6_needleOf : ez_Sp := fun as M Q => match as with | [.inr (.inr q), .inl y] => q = 0 ∧ (0 ≤ y ∧ y ≤ 599) ∧ ff_bk (M 0 7) (M 3) (M 4) ∧ Q (some (.inl (ff_nd (M 0 7) (M 3) (M 4) y))) M | _ => False
def e_X6_needleOf : ez_E := (fl_X6, co_X6, [], 0, 3)
set_option maxHeartbeats 4000000 in
set_option maxRecDepth 100000 in
theorem b_X6_needleOf : ez_Body LM e_X6_needleOf p_X6_needleOf sp_X6_needleOf := by
  intro as M Q has hM hsp
  unfold sp_X6_needleOf at hsp
  split at hsp
  rotate_left
  · exact hsp.elim
  rename_i q y
  have g_y : -2147483648 ≤ y ∧ y ≤ 2147483647 := ez_hd (ez_tl (has))
  obtain ⟨rfl, hv, hb, hsp⟩ := hsp
  have hn := hb.1
  refine ⟨Nat.le_of_ble_eq_true rfl, fun cut hcut hkut => ?_⟩
  by_cases h0 : M 0 7 = 0
  · have e0 : ff_nd (M 0 7) (M 3) (M 4) y = 0 := by
      unfold ff_nd
      rw [if_pos h0]
    rw [e0] at hsp
    refine hkut [] 60 0 _ _ _ ?_
    repeat' (first | (intro hh; exfalso; omega) | (refine And.intro (by first | assumption | omega) ?_) | (refine And.intro rfl ?_) | (refine And.intro ?_ ?_) | (intro qq hq1 hq2 hq3; have hq4 := hq2 (by omega) (by omega); subst hq4) | (intro hh) | omega | exact trivial)
    all_goals exact hsp
  · by_cases h1 : y ≤ M 3 (0 : Int).toNat
    · rw [ff_nd_0 hb (by omega) h1] at hsp
      refine hkut [] 60 0 _ _ _ ?_
      repeat' (first | (intro hh; exfalso; omega) | (refine And.intro (by first | assumption | omega) ?_) | (refine And.intro rfl ?_) | (refine And.intro ?_ ?_) | (intro qq hq1 hq2 hq3; have hq4 := hq2 (by omega) (by omega); subst hq4) | (intro hh) | omega | exact trivial)
      all_goals exact hsp
    · have loop : ∀ (n : Nat) (k : Int), k + n = M 0 7 → 1 ≤ k → M 3 (k - 1).toNat < y → cut 28 [(0, .inr (.inr 0)), (1, .inl y), (2, .inl k)] [] M := by
        intro n
        induction n with
        | zero =>
          intro k hk hk1 hy
          have e : k = M 0 7 := by omega
          rw [ff_nd_n hb (by omega) (by rw [← e]; exact hy)] at hsp
          refine hkut [(28, [0, 1, 2])] 60 28 _ _ _ ?_
          repeat' (first | (intro hh; exfalso; omega) | (refine And.intro (by first | assumption | omega) ?_) | (refine And.intro rfl ?_) | (refine And.intro ?_ ?_) | (intro qq hq1 hq2 hq3; have hq4 := hq2 (by omega) (by omega); subst hq4) | (intro hh) | omega | exact trivial)
          all_goals exact hsp
        | succ n ih =>
          intro k hk hk1 hy
          have a1 := ff_bk_at hb (k := k - 1) (by omega) (by omega)
          have a2 := ff_bk_at hb (k := k) (by omega) (by omega)
          have a3 := ff_bk_lt hb (i := k - 1) (k := k) (by omega) (by omega) (by omega)
          have hm := ez_mulb (a := M 4 k.toNat - M 4 (k - 1).toNat) (b := y - M 3 (k - 1).toNat) (A := 80) (B := 599) (by omega) (by omega) (by omega) (by omega)
          have ht := Int.natAbs_tdiv_le_natAbs ((M 4 k.toNat - M 4 (k - 1).toNat) * (y - M 3 (k - 1).toNat)) (M 3 k.toNat - M 3 (k - 1).toNat)
          refine hkut [(28, [0, 1, 2])] 80 28 _ _ _ ?_
          by_cases hc : y ≤ M 3 k.toNat
          · rw [ff_nd_k hb hk1 (by omega) hy hc] at hsp
            repeat' (first | (intro hh; exfalso; omega) | (refine And.intro (by first | assumption | omega) ?_) | (refine And.intro rfl ?_) | (refine And.intro ?_ ?_) | (intro qq hq1 hq2 hq3; have hq4 := hq2 (by omega) (by omega); subst hq4) | (intro hh) | omega | exact trivial)
            all_goals first | exact hsp | (rename_i z hz _ _; subst hz; exact hsp)
          · have ih := ih (k + 1) (by omega) (by omega) (by rw [show k + 1 - 1 = k by omega]; omega)
            repeat' (first | (intro hh; exfalso; omega) | (refine And.intro (by first | assumption | omega) ?_) | (refine And.intro rfl ?_) | (refine And.intro ?_ ?_) | (intro qq hq1 hq2 hq3; have hq4 := hq2 (by omega) (by omega); subst hq4) | (intro hh) | omega | exact trivial)
            all_goals exact ih
      have hl := loop (M 0 7 - 1).toNat 1 (by omega) (by omega) (by show M 3 (0 : Int).toNat < y; omega)
      refine hkut [(28, [0, 1, 2])] 60 0 _ _ _ ?_
      repeat' (first | (intro hh; exfalso; omega) | (refine And.intro (by first | assumption | omega) ?_) | (refine And.intro rfl ?_) | (refine And.intro ?_ ?_) | (intro qq hq1 hq2 hq3; have hq4 := hq2 (by omega) (by omega); subst hq4) | (intro hh) | omega | exact trivial)
      all_goals exact hl
theorem so_X6_needleOf : ez_Sound LM yX6_needleOf cX6_needleOf 3 (some .int) 0 sp_X6_needleOf := ez_sound (E := e_X6_needleOf) (prog := p_X6_needleOf) LM_ok (by decide +kernel) rfl (fun _ h => h) fo_X6 co_X6_ok (fun _ h => absurd h List.not_mem_nil) dp_X6_needleOf b_X6_needleOf
theorem k_X6_147 {d : Nat} (h : 0 < d) : ez_CallOK LM RX6 d (147, 6+1, 1, sp_X6_needleOf) := ez_callV (y := yX6_needleOf) (bytes := cX6_needleOf) so_X6_needleOf h (by decide) q_857 q_78 ⟨by decide +kernel, by decide +kernel, by decide +kernel⟩ (Or.inl q_854) q_856 q_53 (T := TX6) (N := 28) rfl
def sp_X6_needle : ez_Sp := fun as M Q => match as with | [.inr (.inr q), .inl y] => q = 0 ∧ ff_Inv (ff_N M) ∧ (∀ M' : ez_M, ff_N M' = ff_N M → Q (some (.inl (op_needle (ff_N M) y))) M') | _ => False
def e_X6_needle : ez_E := (fl_X6, co_X6, [(111, 0, 1, sp_X6_noYear), (147, 6+1, 1, sp_X6_needleOf)], 0, 2)
set_option maxHeartbeats 4000000 in
set_option maxRecDepth 100000 in
theorem b_X6_needle : ez_Body LM e_X6_needle p_X6_needle sp_X6_needle := by
  intro as M Q has hM hsp
  unfold sp_X6_needle at hsp
  split at hsp
  rotate_left
  · exact hsp.elim
  rename_i q y
  have g_y : -2147483648 ≤ y ∧ y ≤ 2147483647 := ez_hd (ez_tl (has))
  obtain ⟨rfl, hI, hsp⟩ := hsp
  refine ⟨Nat.le_of_ble_eq_true rfl, fun cut hcut hkut => ?_⟩
  suffices hgo : ∀ M' : ez_M, ff_N M' = ff_N M → cut 5 [(0, .inr (.inr 0)), (1, .inl y)] [] M' by
    refine hkut [(5, [0, 1])] 60 0 _ _ _ ?_
    exact hgo _ (ff_N_th M)
  clear hM
  intro M hth
  rw [← hth] at hI hsp
  clear hth
  have hn := ff_n_N hI
  have hsp := hsp M rfl
  have hb := ff_bk_N hI
  have hsp : Q (some (.inl (if 0 ≤ y ∧ y ≤ 599 then ff_nd (M 0 7) (M 3) (M 4) y + 100 else -1))) M := by
    rw [← ff_nd_N M hb.1.1 y]
    exact hsp
  refine hkut [] 60 5 _ _ _ ?_
  split at hsp
  · rename_i h1
    have hnd := ff_nd_r hb h1.1 h1.2
    repeat' (first | (intro hh; exfalso; omega) | (refine And.intro (by first | assumption | omega) ?_) | (refine And.intro rfl ?_) | (refine And.intro ?_ ?_) | (intro qq hq1 hq2 hq3; have hq4 := hq2 (by omega) (by omega); subst hq4) | (intro hh) | omega | exact trivial)
    all_goals exact ez_ret hsp (by omega)
  · (repeat' (first | (intro hh; exfalso; omega) | (refine And.intro (by first | assumption | omega) ?_) | (refine And.intro rfl ?_) | (refine And.intro ?_ ?_) | (intro qq hq1 hq2 hq3; have hq4 := hq2 (by omega) (by omega); subst hq4) | (intro hh) | omega | exact trivial))
    all_goals exact hsp
theorem so_X6_needle : ez_Sound LM yX6_needle cX6_needle 2 (some .int) 2 sp_X6_needle := ez_sound (E := e_X6_needle) (prog := p_X6_needle) LM_ok (by decide +kernel) rfl (fun _ h => h) fo_X6 co_X6_ok (List.forall_mem_cons.mpr ⟨k_X6_111 (by decide), List.forall_mem_cons.mpr ⟨k_X6_147 (by decide), fun _ h => absurd h List.not_mem_nil⟩⟩) dp_X6_needle b_X6_needle
def sp_X6_riseBy : ez_Sp := fun as M Q => match as with | [.inr (.inr q), .inl l, .inl d, .inl y] => q = 0 ∧ (0 ≤ l ∧ l ≤ 3 ∧ 0 ≤ y ∧ y ≤ 599 ∧ (d = -9 ∨ (0 ≤ d ∧ d ≤ 363))) ∧ (∀ j, 0 ≤ M 1 j ∧ M 1 j ≤ 9) ∧ Q (some (.inl (ff_rby (M 1) (M 0 2) l d y))) M | _ => False
def e_X6_riseBy : ez_E := (fl_X6, co_X6, [(114, 6+1, 2, sp_X6_dayOf), (106, 6+1, 2, sp_X6_riseOf)], 0, 4)
set_option maxHeartbeats 4000000 in
set_option maxRecDepth 100000 in
theorem b_X6_riseBy : ez_Body LM e_X6_riseBy p_X6_riseBy sp_X6_riseBy := by
  intro as M Q has hM hsp
  unfold sp_X6_riseBy at hsp
  split at hsp
  rotate_left
  · exact hsp.elim
  rename_i q l d y
  have g_l : -2147483648 ≤ l ∧ l ≤ 2147483647 := ez_hd (ez_tl (has))
  have g_d : -2147483648 ≤ d ∧ d ≤ 2147483647 := ez_hd (ez_tl (ez_tl (has)))
  have g_y : -2147483648 ≤ y ∧ y ≤ 2147483647 := ez_hd (ez_tl (ez_tl (ez_tl (has))))
  obtain ⟨rfl, hv, hh, hsp⟩ := hsp
  unfold ff_rby at hsp
  refine ⟨Nat.le_of_ble_eq_true rfl, fun cut hcut hkut => hcut [] 60 0 _ _ _ ?_⟩
  split at hsp
  · (repeat' (first | (intro hh; exfalso; omega) | (refine And.intro (by first | assumption | omega) ?_) | (refine And.intro rfl ?_) | (refine And.intro ?_ ?_) | (intro qq hq1 hq2 hq3; have hq4 := hq2 (by omega) (by omega); subst hq4) | (intro hh) | omega | exact trivial))
    all_goals exact hsp
  · have hd := ff_day_r (sw := M 0 2) (date := d) (y := y) (by omega) (by omega)
    repeat' (first | (intro hh; exfalso; omega) | (refine And.intro (by first | assumption | omega) ?_) | (refine And.intro rfl ?_) | (refine And.intro ?_ ?_) | (intro qq hq1 hq2 hq3; have hq4 := hq2 (by omega) (by omega); subst hq4) | (intro hh) | omega | exact trivial)
    all_goals exact hsp
theorem so_X6_riseBy : ez_Sound LM yX6_riseBy cX6_riseBy 4 (some .int) 2 sp_X6_riseBy := ez_sound (E := e_X6_riseBy) (prog := p_X6_riseBy) LM_ok (by decide +kernel) rfl (fun _ h => h) fo_X6 co_X6_ok (List.forall_mem_cons.mpr ⟨k_X6_114 (by decide), List.forall_mem_cons.mpr ⟨k_X6_106 (by decide), fun _ h => absurd h List.not_mem_nil⟩⟩) dp_X6_riseBy b_X6_riseBy
theorem k_X6_161 {d : Nat} (h : 2 < d) : ez_CallOK LM RX6 d (161, 6+1, 3, sp_X6_riseBy) := ez_callV (y := yX6_riseBy) (bytes := cX6_riseBy) so_X6_riseBy h (by decide) q_894 q_78 ⟨by decide +kernel, by decide +kernel, by decide +kernel⟩ (Or.inl q_891) q_893 q_56 (T := TX6) (N := 28) rfl
def sp_X6_lineOf : ez_Sp := fun as M Q => match as with | [.inr (.inr q), .inl r, .inl c, .inl y] => q = 0 ∧ (0 ≤ r ∧ r ≤ 5 ∧ 0 ≤ c ∧ c < M 0 13 ∧ 0 ≤ y ∧ y ≤ 599) ∧ ff_Inv (ff_N M) ∧ Q (some (.inl (ff_line (ff_N M) r c y))) M | _ => False
def e_X6_lineOf : ez_E := (fl_X6, co_X6, [(161, 6+1, 3, sp_X6_riseBy), (147, 6+1, 1, sp_X6_needleOf)], 0, 5)
set_option maxHeartbeats 4000000 in
set_option maxRecDepth 100000 in
theorem b_X6_lineOf : ez_Body LM e_X6_lineOf p_X6_lineOf sp_X6_lineOf := by
  intro as M Q has hM hsp
  unfold sp_X6_lineOf at hsp
  split at hsp
  rotate_left
  · exact hsp.elim
  rename_i q r c y
  have g_r : -2147483648 ≤ r ∧ r ≤ 2147483647 := ez_hd (ez_tl (has))
  have g_c : -2147483648 ≤ c ∧ c ≤ 2147483647 := ez_hd (ez_tl (ez_tl (has)))
  have g_y : -2147483648 ≤ y ∧ y ≤ 2147483647 := ez_hd (ez_tl (ez_tl (ez_tl (has))))
  obtain ⟨rfl, hv, hI, hsp⟩ := hsp
  have hn := ff_n_N hI
  have hh : ∀ j, 0 ≤ M 1 j ∧ M 1 j ≤ 9 := hI.1
  have hc := ff_ch_N hI (c := c) (by omega) (by omega)
  unfold ff_ch at hc
  have hb := ff_bk_N hI
  have hnd := ff_nd_r hb (y := y) (by omega) (by omega)
  have hf : 0 ≤ M 0 3 ∧ M 0 3 ≤ 363 := hI.2.1.2.1
  have hsp : Q (some (.inl (if r = 0 then 90 else if r = 1 then ff_rby (M 1) (M 0 2) (M 7 (11 * c + 0).toNat) (M 7 (11 * c + 5).toNat) y else if r = 2 then 90 + ff_nd (M 0 7) (M 3) (M 4) y else if r = 3 then M 7 (11 * c + 6).toNat else if r = 4 then M 7 (11 * c + 7).toNat else ff_rby (M 1) (M 0 2) (M 7 (11 * c + 0).toNat) (M 0 3) y))) M := by
    rw [← ff_nd_N M hb.1.1 y]
    exact hsp
  rw [Int.add_zero] at hsp hc
  have hr : r = 0 ∨ r = 1 ∨ r = 2 ∨ r = 3 ∨ r = 4 ∨ r = 5 := by omega
  refine ⟨Nat.le_of_ble_eq_true rfl, fun cut hcut hkut => hcut [] 80 0 _ _ _ ?_⟩
  rcases hr with rfl | rfl | rfl | rfl | rfl | rfl
  · rw [if_pos rfl] at hsp
    repeat' (first | (intro hh; exfalso; omega) | (refine And.intro (by first | assumption | omega) ?_) | (refine And.intro rfl ?_) | (refine And.intro ?_ ?_) | (intro qq hq1 hq2 hq3; have hq4 := hq2 (by omega) (by omega); subst hq4) | (intro hh) | omega | exact trivial)
    all_goals exact hsp
  · rw [if_neg (by decide), if_pos rfl] at hsp
    repeat' (first | (intro hh; exfalso; omega) | (refine And.intro (by first | assumption | omega) ?_) | (refine And.intro rfl ?_) | (refine And.intro ?_ ?_) | (intro qq hq1 hq2 hq3; have hq4 := hq2 (by omega) (by omega); subst hq4) | (intro hh) | omega | exact trivial)
    all_goals exact hsp
  · rw [if_neg (by decide), if_neg (by decide), if_pos rfl] at hsp
    repeat' (first | (intro hh; exfalso; omega) | (refine And.intro (by first | assumption | omega) ?_) | (refine And.intro rfl ?_) | (refine And.intro ?_ ?_) | (intro qq hq1 hq2 hq3; have hq4 := hq2 (by omega) (by omega); subst hq4) | (intro hh) | omega | exact trivial)
    all_goals exact hsp
  · rw [if_neg (by decide), if_neg (by decide), if_neg (by decide), if_pos rfl] at hsp
    repeat' (first | (intro hh; exfalso; omega) | (refine And.intro (by first | assumption | omega) ?_) | (refine And.intro rfl ?_) | (refine And.intro ?_ ?_) | (intro qq hq1 hq2 hq3; have hq4 := hq2 (by omega) (by omega); subst hq4) | (intro hh) | omega | exact trivial)
    all_goals exact hsp
  · rw [if_neg (by decide), if_neg (by decide), if_neg (by decide), if_neg (by decide), if_pos rfl] at hsp
    repeat' (first | (intro hh; exfalso; omega) | (refine And.intro (by first | assumption | omega) ?_) | (refine And.intro rfl ?_) | (refine And.intro ?_ ?_) | (intro qq hq1 hq2 hq3; have hq4 := hq2 (by omega) (by omega); subst hq4) | (intro hh) | omega | exact trivial)
    all_goals exact hsp
  · rw [if_neg (by decide), if_neg (by decide), if_neg (by decide), if_neg (by decide), if_neg (by decide)] at hsp
    repeat' (first | (intro hh; exfalso; omega) | (refine And.intro (by first | assumption | omega) ?_) | (refine And.intro rfl ?_) | (refine And.intro ?_ ?_) | (intro qq hq1 hq2 hq3; have hq4 := hq2 (by omega) (by omega); subst hq4) | (intro hh) | omega | exact trivial)
    all_goals exact hsp
theorem so_X6_lineOf : ez_Sound LM yX6_lineOf cX6_lineOf 5 (some .int) 3 sp_X6_lineOf := ez_sound (E := e_X6_lineOf) (prog := p_X6_lineOf) LM_ok (by decide +kernel) rfl (fun _ h => h) fo_X6 co_X6_ok (List.forall_mem_cons.mpr ⟨k_X6_161 (by decide), List.forall_mem_cons.mpr ⟨k_X6_147 (by decide), fun _ h => absurd h List.not_mem_nil⟩⟩) dp_X6_lineOf b_X6_lineOf
theorem k_X6_168 {d : Nat} (h : 3 < d) : ez_CallOK LM RX6 d (168, 6+1, 3, sp_X6_lineOf) := ez_callV (y := yX6_lineOf) (bytes := cX6_lineOf) so_X6_lineOf h (by decide) q_890 q_78 ⟨by decide +kernel, by decide +kernel, by decide +kernel⟩ (Or.inl q_887) q_889 q_55 (T := TX6) (N := 28) rfl
def sp_X6_line : ez_Sp := fun as M Q => match as with | [.inr (.inr q), .inl r, .inl c, .inl y] => q = 0 ∧ ff_Inv (ff_N M) ∧ (∀ M' : ez_M, ff_N M' = ff_N M → Q (some (.inl (op_line (ff_N M) r c y))) M') | _ => False
def e_X6_line : ez_E := (fl_X6, co_X6, [(165, 0, 1, sp_X6_noRule), (154, 6+1, 1, sp_X6_noChurch), (111, 0, 1, sp_X6_noYear), (168, 6+1, 3, sp_X6_lineOf)], 0, 4)
set_option maxHeartbeats 4000000 in
set_option maxRecDepth 100000 in
theorem b_X6_line : ez_Body LM e_X6_line p_X6_line sp_X6_line := by
  intro as M Q has hM hsp
  unfold sp_X6_line at hsp
  split at hsp
  rotate_left
  · exact hsp.elim
  rename_i q r c y
  have g_r : -2147483648 ≤ r ∧ r ≤ 2147483647 := ez_hd (ez_tl (has))
  have g_c : -2147483648 ≤ c ∧ c ≤ 2147483647 := ez_hd (ez_tl (ez_tl (has)))
  have g_y : -2147483648 ≤ y ∧ y ≤ 2147483647 := ez_hd (ez_tl (ez_tl (ez_tl (has))))
  obtain ⟨rfl, hI, hsp⟩ := hsp
  refine ⟨Nat.le_of_ble_eq_true rfl, fun cut hcut hkut => ?_⟩
  suffices hgo : ∀ M' : ez_M, ff_N M' = ff_N M → cut 5 [(0, .inr (.inr 0)), (1, .inl r), (2, .inl c), (3, .inl y)] [] M' by
    refine hkut [(5, [0, 1, 2, 3])] 60 0 _ _ _ ?_
    exact hgo _ (ff_N_th M)
  clear hM
  intro M hth
  rw [← hth] at hI hsp
  clear hth
  have hn := ff_n_N hI
  have hsp := hsp M rfl
  unfold op_line at hsp
  refine hkut [] 60 5 _ _ _ ?_
  by_cases h1 : (0 ≤ r ∧ r ≤ 5) ∧ (0 ≤ c ∧ c < ff_N M 1 4) ∧ (0 ≤ y ∧ y ≤ 599)
  · have h1m : (0 ≤ r ∧ r ≤ 5) ∧ (0 ≤ c ∧ c < M 0 13) ∧ (0 ≤ y ∧ y ≤ 599) := h1
    rw [if_pos h1] at hsp
    repeat' (first | (intro hh; exfalso; omega) | (refine And.intro (by first | assumption | omega) ?_) | (refine And.intro rfl ?_) | (refine And.intro ?_ ?_) | (intro qq hq1 hq2 hq3; have hq4 := hq2 (by omega) (by omega); subst hq4) | (intro hh) | omega | exact trivial)
    all_goals exact hsp
  · have h1m : ¬ ((0 ≤ r ∧ r ≤ 5) ∧ (0 ≤ c ∧ c < M 0 13) ∧ (0 ≤ y ∧ y ≤ 599)) := h1
    rw [if_neg h1] at hsp
    repeat' (first | (intro hh; exfalso; omega) | (refine And.intro (by first | assumption | omega) ?_) | (refine And.intro rfl ?_) | (refine And.intro ?_ ?_) | (intro qq hq1 hq2 hq3; have hq4 := hq2 (by omega) (by omega); subst hq4) | (intro hh) | omega | exact trivial)
    all_goals exact hsp
theorem so_X6_line : ez_Sound LM yX6_line cX6_line 4 (some .int) 4 sp_X6_line := ez_sound (E := e_X6_line) (prog := p_X6_line) LM_ok (by decide +kernel) rfl (fun _ h => h) fo_X6 co_X6_ok (List.forall_mem_cons.mpr ⟨k_X6_165 (by decide), List.forall_mem_cons.mpr ⟨k_X6_154 (by decide), List.forall_mem_cons.mpr ⟨k_X6_111 (by decide), List.forall_mem_cons.mpr ⟨k_X6_168 (by decide), fun _ h => absurd h List.not_mem_nil⟩⟩⟩⟩) dp_X6_line b_X6_line
def sp_X6_isNear : ez_Sp := fun as M Q => match as with | [.inr (.inr q), .inl c, .inl l, .inl k] => q = 0 ∧ (0 ≤ c ∧ c ≤ 9 ∧ 0 ≤ k ∧ k ≤ 10) ∧ (-100000 ≤ l ∧ l ≤ 100000 ∧ -100000 ≤ M 7 (11 * c + k).toNat ∧ M 7 (11 * c + k).toNat ≤ 100000) ∧ (ff_nr l (M 7 (11 * c + k).toNat) (M 7 (11 * c + 2).toNat) = true → Q (some (.inl 1)) M) ∧ (ff_nr l (M 7 (11 * c + k).toNat) (M 7 (11 * c + 2).toNat) = false → Q (some (.inl 0)) M) | _ => False
def e_X6_isNear : ez_E := (fl_X6, co_X6, [(88, 0, 2, sp_X6_offOf)], 1, 4)
set_option maxHeartbeats 4000000 in
set_option maxRecDepth 100000 in
theorem b_X6_isNear : ez_Body LM e_X6_isNear p_X6_isNear sp_X6_isNear := by
  intro as M Q has hM hsp
  unfold sp_X6_isNear at hsp
  split at hsp
  rotate_left
  · exact hsp.elim
  rename_i q c l k
  have g_c : -2147483648 ≤ c ∧ c ≤ 2147483647 := ez_hd (ez_tl (has))
  have g_l : -2147483648 ≤ l ∧ l ≤ 2147483647 := ez_hd (ez_tl (ez_tl (has)))
  have g_k : -2147483648 ≤ k ∧ k ≤ 2147483647 := ez_hd (ez_tl (ez_tl (ez_tl (has))))
  obtain ⟨rfl, hv, hw, hs1, hs2⟩ := hsp
  have hs1 : (¬ l = -9 ∧ ff_off l (M 7 (11 * c + k).toNat) ≤ M 7 (11 * c + 2).toNat) → Q (some (.inl 1)) M := fun h => hs1 (decide_eq_true h)
  have hs2 : ¬ (¬ l = -9 ∧ ff_off l (M 7 (11 * c + k).toNat) ≤ M 7 (11 * c + 2).toNat) → Q (some (.inl 0)) M := fun h => hs2 (decide_eq_false h)
  refine ⟨Nat.le_of_ble_eq_true rfl, fun cut hcut hkut => hcut [] 60 0 _ _ _ ?_⟩
  repeat' (first | (intro hh; exfalso; omega) | (refine And.intro (by first | assumption | omega) ?_) | (refine And.intro rfl ?_) | (refine And.intro ?_ ?_) | (intro qq hq1 hq2 hq3; have hq4 := hq2 (by omega) (by omega); subst hq4) | (intro hh) | omega | exact trivial)
  all_goals first | exact hs1 (by omega) | exact hs2 (by omega)
theorem so_X6_isNear : ez_Sound LM yX6_isNear cX6_isNear 4 (some .boolean) 1 sp_X6_isNear := ez_sound (E := e_X6_isNear) (prog := p_X6_isNear) LM_ok (by decide +kernel) rfl (fun _ h => h) fo_X6 co_X6_ok (List.forall_mem_cons.mpr ⟨k_X6_88 (by decide), fun _ h => absurd h List.not_mem_nil⟩) dp_X6_isNear b_X6_isNear
theorem ff_it_lt (p : Int → Bool) (i : Int) : ∀ (n : Nat) (y a : Int), i < a → ff_it p i n y a = -9
  | 0, _, _, _ => rfl
  | n + 1, y, a, h => by
    simp only [ff_it]
    split
    · rw [if_neg (by omega), ff_it_lt p i n (y + 1) (a + 1) (by omega)]
    · exact ff_it_lt p i n (y + 1) a h
theorem k_X6_174 {d : Nat} (h : 1 < d) : ez_CallOK LM RX6 d (174, 6+1, 3, sp_X6_isNear) := ez_callV (y := yX6_isNear) (bytes := cX6_isNear) so_X6_isNear h (by decide) q_910 q_78 ⟨by decide +kernel, by decide +kernel, by decide +kernel⟩ (Or.inl q_907) q_909 q_59 (T := TX6) (N := 28) rfl
def sp_X6_hitsOf : ez_Sp := fun as M Q => match as with | [.inr (.inr q), .inl r, .inl c, .inl k, .inl f, .inl t, .inl i] => q = 0 ∧ ff_Inv (ff_N M) ∧ (0 ≤ r ∧ r ≤ 5 ∧ 0 ≤ c ∧ c < M 0 13 ∧ 0 ≤ k ∧ k ≤ 10) ∧ (-100000 ≤ M 7 (11 * c + k).toNat ∧ M 7 (11 * c + k).toNat ≤ 100000) ∧ (0 ≤ f ∧ t ≤ 599 ∧ f ≤ t + 1) ∧ (∀ M' : ez_M, ff_N M' = ff_N M → M' 0 26 = ff_it (fun y => ff_nr (ff_line (ff_N M) r c y) (M 7 (11 * c + k).toNat) (M 7 (11 * c + 2).toNat)) i (t - f + 1).toNat f 0 → Q (some (.inl (ff_cn (fun y => ff_nr (ff_line (ff_N M) r c y) (M 7 (11 * c + k).toNat) (M 7 (11 * c + 2).toNat)) (t - f + 1).toNat f))) M') | _ => False
def e_X6_hitsOf : ez_E := (fl_X6, co_X6, [(168, 6+1, 3, sp_X6_lineOf), (174, 6+1, 3, sp_X6_isNear)], 0, 9)
set_option maxHeartbeats 4000000 in
set_option maxRecDepth 100000 in
theorem b_X6_hitsOf : ez_Body LM e_X6_hitsOf p_X6_hitsOf sp_X6_hitsOf := by
  intro as M Q has hM hsp
  unfold sp_X6_hitsOf at hsp
  split at hsp
  rotate_left
  · exact hsp.elim
  rename_i q r c k f t i
  have g_r : -2147483648 ≤ r ∧ r ≤ 2147483647 := ez_hd (ez_tl (has))
  have g_c : -2147483648 ≤ c ∧ c ≤ 2147483647 := ez_hd (ez_tl (ez_tl (has)))
  have g_k : -2147483648 ≤ k ∧ k ≤ 2147483647 := ez_hd (ez_tl (ez_tl (ez_tl (has))))
  have g_f : -2147483648 ≤ f ∧ f ≤ 2147483647 := ez_hd (ez_tl (ez_tl (ez_tl (ez_tl (has)))))
  have g_t : -2147483648 ≤ t ∧ t ≤ 2147483647 := ez_hd (ez_tl (ez_tl (ez_tl (ez_tl (ez_tl (has))))))
  have g_i : -2147483648 ≤ i ∧ i ≤ 2147483647 := ez_hd (ez_tl (ez_tl (ez_tl (ez_tl (ez_tl (ez_tl (has)))))))
  obtain ⟨rfl, hI, hv, hw, hft, hsp⟩ := hsp
  have hn := ff_n_N hI
  refine ⟨Nat.le_of_ble_eq_true rfl, fun cut hcut hkut => ?_⟩
  generalize hp : (fun y => ff_nr (ff_line (ff_N M) r c y) (M 7 (11 * c + k).toNat) (M 7 (11 * c + 2).toNat)) = p at hsp
  have hpv : ∀ y, ff_nr (ff_line (ff_N M) r c y) (M 7 (11 * c + k).toNat) (M 7 (11 * c + 2).toNat) = p y := fun y => by rw [← hp]
  have loop : ∀ (n : Nat) (y a : Int) (N : ez_M), y + n = t + 1 → f ≤ y → 0 ≤ a → a ≤ y - f → ff_N N = ff_N M → (i < a ∨ N 0 26 = -9) → (∀ M' : ez_M, ff_N M' = ff_N M → M' 0 26 = (if i < a then N 0 26 else ff_it p i n y a) → Q (some (.inl (a + ff_cn p n y))) M') → cut 13 [(0, .inr (.inr 0)), (1, .inl r), (2, .inl c), (3, .inl k), (5, .inl t), (6, .inl i), (7, .inl a), (8, .inl y)] [] N := by
    intro n
    induction n with
    | zero =>
      intro y a N hy h0 ha0 ha1 hX hi hq
      simp only [ff_cn, Int.add_zero, ff_it] at hq
      have hq := hq N hX (by
        split
        · rfl
        · omega)
      refine hkut [(13, [0, 1, 2, 3, 5, 6, 7, 8])] 60 13 _ _ _ ?_
      repeat' (first | (intro hh; exfalso; omega) | (refine And.intro (by first | assumption | omega) ?_) | (refine And.intro rfl ?_) | (refine And.intro ?_ ?_) | (intro qq hq1 hq2 hq3; have hq4 := hq2 (by omega) (by omega); subst hq4) | (intro hh) | omega | exact trivial)
      all_goals exact hq
    | succ n ih =>
      intro y a N hy h0 ha0 ha1 hX hi hq
      have hIN : ff_Inv (ff_N N) := by rw [hX]; exact hI
      have h7 : N 7 = M 7 := congrFun hX 5
      have h13 : N 0 13 = M 0 13 := congrFun (congrFun hX 1) 4
      have hl := ff_line_r hIN (r := r) (c := c) (y := y) (by omega) (by show c < N 0 13; omega) (by omega) (by omega)
      have hpy := hpv y
      rw [← hX, ← h7] at hpy
      have hw2 : -100000 ≤ N 7 (11 * c + k).toNat ∧ N 7 (11 * c + k).toNat ≤ 100000 := by rw [h7]; exact hw
      simp only [ff_cn, ff_it] at hq
      refine hkut [(13, [0, 1, 2, 3, 5, 6, 7, 8])] 80 13 _ _ _ ?_
      cases hc : p y
      · simp only [hc, Bool.false_eq_true, if_false] at hq
        have ih := ih (y + 1) a N (by omega) (by omega) (by omega) (by omega) hX hi (fun M' h1 h2 => ez_ret (hq M' h1 h2) (by omega))
        repeat' (first | (intro hh; exfalso; omega) | (refine And.intro (by first | assumption | omega) ?_) | (refine And.intro rfl ?_) | (refine And.intro ?_ ?_) | (intro qq hq1 hq2 hq3; have hq4 := hq2 (by omega) (by omega); subst hq4) | (intro hh) | omega | exact trivial)
        all_goals first | exact ih | (exfalso; simp_all; done)
      · simp only [hc, if_true] at hq
        by_cases hai : a = i
        · have ih := ih (y + 1) (a + 1) (ez_up N 0 26 y) (by omega) (by omega) (by omega) (by omega) (by rw [ff_N_fld N 26 y (by decide), hX]) (by omega) (fun M' h1 h2 => ez_ret (hq M' h1 (by rw [h2, if_pos (by omega), if_neg (by omega), if_pos hai]; simp [ez_up])) (by omega))
          repeat' (first | (intro hh; exfalso; omega) | (refine And.intro (by first | assumption | omega) ?_) | (refine And.intro rfl ?_) | (refine And.intro ?_ ?_) | (intro qq hq1 hq2 hq3; have hq4 := hq2 (by omega) (by omega); subst hq4) | (intro hh) | omega | exact trivial)
          all_goals first | exact ih | (exfalso; simp_all; done)
        · have ih := ih (y + 1) (a + 1) (ez_up N 0 26 (N 0 26)) (by omega) (by omega) (by omega) (by omega) (by rw [ff_N_fld N 26 _ (by decide), hX]) (by simp [ez_up]; omega) (fun M' h1 h2 => ez_ret (hq M' h1 (by
            rw [h2]
            by_cases hia : i < a
            · rw [if_pos hia, if_pos (by omega)]
              simp [ez_up]
            · rw [if_neg hia, if_neg (by omega), if_neg hai])) (by omega))
          repeat' (first | (intro hh; exfalso; omega) | (refine And.intro (by first | assumption | omega) ?_) | (refine And.intro rfl ?_) | (refine And.intro ?_ ?_) | (intro qq hq1 hq2 hq3; have hq4 := hq2 (by omega) (by omega); subst hq4) | (intro hh) | omega | exact trivial)
          all_goals first | exact ih | (exfalso; simp_all; done)
  have hl := loop (t - f + 1).toNat f 0 (ez_up M 0 26 (-9)) (by omega) (by omega) (by omega) (by omega) (ff_N_fld M 26 _ (by decide)) (Or.inr (by simp [ez_up])) (fun M' h1 h2 => ez_ret (hsp M' h1 (by
    rw [h2]
    split
    · rename_i h3
      rw [ff_it_lt p i _ _ _ h3]
      simp [ez_up]
    · rfl)) (by omega))
  refine hkut [(13, [0, 1, 2, 3, 5, 6, 7, 8])] 60 0 _ _ _ ?_
  repeat' (first | (intro hh; exfalso; omega) | (refine And.intro (by first | assumption | omega) ?_) | (refine And.intro rfl ?_) | (refine And.intro ?_ ?_) | (intro qq hq1 hq2 hq3; have hq4 := hq2 (by omega) (by omega); subst hq4) | (intro hh) | omega | exact trivial)
  all_goals exact hl
theorem so_X6_hitsOf : ez_Sound LM yX6_hitsOf cX6_hitsOf 9 (some .int) 4 sp_X6_hitsOf := ez_sound (E := e_X6_hitsOf) (prog := p_X6_hitsOf) LM_ok (by decide +kernel) rfl (fun _ h => h) fo_X6 co_X6_ok (List.forall_mem_cons.mpr ⟨k_X6_168 (by decide), List.forall_mem_cons.mpr ⟨k_X6_174 (by decide), fun _ h => absurd h List.not_mem_nil⟩⟩) dp_X6_hitsOf b_X6_hitsOf
theorem k_X6_178 {d : Nat} (h : 4 < d) : ez_CallOK LM RX6 d (178, 6+1, 6, sp_X6_hitsOf) := ez_callV (y := yX6_hitsOf) (bytes := cX6_hitsOf) so_X6_hitsOf h (by decide) q_906 q_78 ⟨by decide +kernel, by decide +kernel, by decide +kernel⟩ (Or.inl q_903) q_905 q_58 (T := TX6) (N := 28) rfl
def sp_X6_hitsIn : ez_Sp := fun as M Q => match as with | [.inr (.inr q), .inl r, .inl c] => q = 0 ∧ ff_Inv (ff_N M) ∧ (0 ≤ r ∧ r ≤ 5 ∧ 0 ≤ c ∧ c < M 0 13) ∧ (∀ M' : ez_M, ff_N M' = ff_N M → Q (some (.inl (ff_hits (ff_N M) r c))) M') | _ => False
def e_X6_hitsIn : ez_E := (fl_X6, co_X6, [(178, 6+1, 6, sp_X6_hitsOf)], 0, 3)
set_option maxHeartbeats 4000000 in
set_option maxRecDepth 100000 in
theorem b_X6_hitsIn : ez_Body LM e_X6_hitsIn p_X6_hitsIn sp_X6_hitsIn := by
  intro as M Q has hM hsp
  unfold sp_X6_hitsIn at hsp
  split at hsp
  rotate_left
  · exact hsp.elim
  rename_i q r c
  have g_r : -2147483648 ≤ r ∧ r ≤ 2147483647 := ez_hd (ez_tl (has))
  have g_c : -2147483648 ≤ c ∧ c ≤ 2147483647 := ez_hd (ez_tl (ez_tl (has)))
  obtain ⟨rfl, hI, hv, hsp⟩ := hsp
  have hn := ff_n_N hI
  have hc := ff_ch_N hI (c := c) (by omega) (by omega)
  unfold ff_ch at hc
  refine ⟨Nat.le_of_ble_eq_true rfl, fun cut hcut hkut => hcut [] 80 0 _ _ _ ?_⟩
  repeat' (first | (intro hh; exfalso; omega) | (refine And.intro (by first | assumption | omega) ?_) | (refine And.intro rfl ?_) | (refine And.intro ?_ ?_) | (intro qq hq1 hq2 hq3; have hq4 := hq2 (by omega) (by omega); subst hq4) | (intro hh) | omega | exact trivial)
  all_goals exact hsp _ (by assumption)
theorem so_X6_hitsIn : ez_Sound LM yX6_hitsIn cX6_hitsIn 3 (some .int) 5 sp_X6_hitsIn := ez_sound (E := e_X6_hitsIn) (prog := p_X6_hitsIn) LM_ok (by decide +kernel) rfl (fun _ h => h) fo_X6 co_X6_ok (List.forall_mem_cons.mpr ⟨k_X6_178 (by decide), fun _ h => absurd h List.not_mem_nil⟩) dp_X6_hitsIn b_X6_hitsIn
theorem k_X6_182 {d : Nat} (h : 5 < d) : ez_CallOK LM RX6 d (182, 6+1, 2, sp_X6_hitsIn) := ez_callV (y := yX6_hitsIn) (bytes := cX6_hitsIn) so_X6_hitsIn h (by decide) q_902 q_78 ⟨by decide +kernel, by decide +kernel, by decide +kernel⟩ (Or.inl q_899) q_901 q_57 (T := TX6) (N := 28) rfl
def sp_X6_hits : ez_Sp := fun as M Q => match as with | [.inr (.inr q), .inl r, .inl c] => q = 0 ∧ ff_Inv (ff_N M) ∧ (∀ M' : ez_M, ff_N M' = ff_N M → Q (some (.inl (op_hits (ff_N M) r c))) M') | _ => False
def e_X6_hits : ez_E := (fl_X6, co_X6, [(165, 0, 1, sp_X6_noRule), (154, 6+1, 1, sp_X6_noChurch), (182, 6+1, 2, sp_X6_hitsIn)], 0, 3)
set_option maxHeartbeats 4000000 in
set_option maxRecDepth 100000 in
theorem b_X6_hits : ez_Body LM e_X6_hits p_X6_hits sp_X6_hits := by
  intro as M Q has hM hsp
  unfold sp_X6_hits at hsp
  split at hsp
  rotate_left
  · exact hsp.elim
  rename_i q r c
  have g_r : -2147483648 ≤ r ∧ r ≤ 2147483647 := ez_hd (ez_tl (has))
  have g_c : -2147483648 ≤ c ∧ c ≤ 2147483647 := ez_hd (ez_tl (ez_tl (has)))
  obtain ⟨rfl, hI, hsp⟩ := hsp
  refine ⟨Nat.le_of_ble_eq_true rfl, fun cut hcut hkut => ?_⟩
  suffices hgo : ∀ M' : ez_M, ff_N M' = ff_N M → cut 5 [(0, .inr (.inr 0)), (1, .inl r), (2, .inl c)] [] M' by
    refine hkut [(5, [0, 1, 2])] 60 0 _ _ _ ?_
    exact hgo _ (ff_N_th M)
  clear hM
  intro M hth
  rw [← hth] at hI hsp
  clear hth
  have hn := ff_n_N hI
  unfold op_hits at hsp
  refine hkut [] 60 5 _ _ _ ?_
  by_cases h1 : (0 ≤ r ∧ r ≤ 5) ∧ (0 ≤ c ∧ c < ff_N M 1 4)
  · have h1m : (0 ≤ r ∧ r ≤ 5) ∧ (0 ≤ c ∧ c < M 0 13) := h1
    simp only [if_pos h1] at hsp
    repeat' (first | (intro hh; exfalso; omega) | (refine And.intro (by first | assumption | omega) ?_) | (refine And.intro rfl ?_) | (refine And.intro ?_ ?_) | (intro qq hq1 hq2 hq3; have hq4 := hq2 (by omega) (by omega); subst hq4) | (intro hh) | omega | exact trivial)
    all_goals exact hsp _ (by assumption)
  · have h1m : ¬ ((0 ≤ r ∧ r ≤ 5) ∧ (0 ≤ c ∧ c < M 0 13)) := h1
    simp only [if_neg h1] at hsp
    repeat' (first | (intro hh; exfalso; omega) | (refine And.intro (by first | assumption | omega) ?_) | (refine And.intro rfl ?_) | (refine And.intro ?_ ?_) | (intro qq hq1 hq2 hq3; have hq4 := hq2 (by omega) (by omega); subst hq4) | (intro hh) | omega | exact trivial)
    all_goals exact hsp M rfl
theorem so_X6_hits : ez_Sound LM yX6_hits cX6_hits 3 (some .int) 6 sp_X6_hits := ez_sound (E := e_X6_hits) (prog := p_X6_hits) LM_ok (by decide +kernel) rfl (fun _ h => h) fo_X6 co_X6_ok (List.forall_mem_cons.mpr ⟨k_X6_165 (by decide), List.forall_mem_cons.mpr ⟨k_X6_154 (by decide), List.forall_mem_cons.mpr ⟨k_X6_182 (by decide), fun _ h => absurd h List.not_mem_nil⟩⟩⟩) dp_X6_hits b_X6_hits
def sp_X6_hit : ez_Sp := fun as M Q => match as with | [.inr (.inr q), .inl r, .inl c, .inl i] => q = 0 ∧ ff_Inv (ff_N M) ∧ (∀ M' : ez_M, ff_N M' = ff_N M → Q (some (.inl (op_hit (ff_N M) r c i))) M') | _ => False
def e_X6_hit : ez_E := (fl_X6, co_X6, [(165, 0, 1, sp_X6_noRule), (154, 6+1, 1, sp_X6_noChurch), (178, 6+1, 6, sp_X6_hitsOf)], 0, 4)
set_option maxHeartbeats 4000000 in
set_option maxRecDepth 100000 in
theorem b_X6_hit : ez_Body LM e_X6_hit p_X6_hit sp_X6_hit := by
  intro as M Q has hM hsp
  unfold sp_X6_hit at hsp
  split at hsp
  rotate_left
  · exact hsp.elim
  rename_i q r c i
  have g_r : -2147483648 ≤ r ∧ r ≤ 2147483647 := ez_hd (ez_tl (has))
  have g_c : -2147483648 ≤ c ∧ c ≤ 2147483647 := ez_hd (ez_tl (ez_tl (has)))
  have g_i : -2147483648 ≤ i ∧ i ≤ 2147483647 := ez_hd (ez_tl (ez_tl (ez_tl (has))))
  obtain ⟨rfl, hI, hsp⟩ := hsp
  refine ⟨Nat.le_of_ble_eq_true rfl, fun cut hcut hkut => ?_⟩
  suffices hgo : ∀ M' : ez_M, ff_N M' = ff_N M → cut 5 [(0, .inr (.inr 0)), (1, .inl r), (2, .inl c), (3, .inl i)] [] M' by
    refine hkut [(5, [0, 1, 2, 3])] 60 0 _ _ _ ?_
    exact hgo _ (ff_N_th M)
  clear hM
  intro M hth
  rw [← hth] at hI hsp
  clear hth
  have hn := ff_n_N hI
  unfold op_hit at hsp
  refine hkut [] 80 5 _ _ _ ?_
  by_cases h1 : (0 ≤ r ∧ r ≤ 5) ∧ (0 ≤ c ∧ c < ff_N M 1 4)
  · have h1m : (0 ≤ r ∧ r ≤ 5) ∧ (0 ≤ c ∧ c < M 0 13) := h1
    have hc := ff_ch_N hI (c := c) (by omega) (by omega)
    unfold ff_ch at hc
    simp only [if_pos h1] at hsp
    repeat' (first | (intro hh; exfalso; omega) | (refine And.intro (by first | assumption | omega) ?_) | (refine And.intro rfl ?_) | (refine And.intro ?_ ?_) | (intro qq hq1 hq2 hq3; have hq4 := hq2 (by omega) (by omega); subst hq4) | (intro hh) | omega | exact trivial)
    all_goals exact ez_ret (hsp _ (by assumption)) (by assumption)
  · have h1m : ¬ ((0 ≤ r ∧ r ≤ 5) ∧ (0 ≤ c ∧ c < M 0 13)) := h1
    simp only [if_neg h1] at hsp
    repeat' (first | (intro hh; exfalso; omega) | (refine And.intro (by first | assumption | omega) ?_) | (refine And.intro rfl ?_) | (refine And.intro ?_ ?_) | (intro qq hq1 hq2 hq3; have hq4 := hq2 (by omega) (by omega); subst hq4) | (intro hh) | omega | exact trivial)
    all_goals exact hsp M rfl
theorem so_X6_hit : ez_Sound LM yX6_hit cX6_hit 4 (some .int) 5 sp_X6_hit := ez_sound (E := e_X6_hit) (prog := p_X6_hit) LM_ok (by decide +kernel) rfl (fun _ h => h) fo_X6 co_X6_ok (List.forall_mem_cons.mpr ⟨k_X6_165 (by decide), List.forall_mem_cons.mpr ⟨k_X6_154 (by decide), List.forall_mem_cons.mpr ⟨k_X6_178 (by decide), fun _ h => absurd h List.not_mem_nil⟩⟩⟩) dp_X6_hit b_X6_hit
