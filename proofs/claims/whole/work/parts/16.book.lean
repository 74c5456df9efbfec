theorem ez_mulb {a b A B : Int} (h1 : -A ≤ a) (h2 : a ≤ A) (h3 : -B ≤ b) (h4 : b ≤ B) : -(A * B) ≤ a * b ∧ a * b ≤ A * B := by
  have ha : a.natAbs ≤ A.natAbs := by omega
  have hb : b.natAbs ≤ B.natAbs := by omega
  have hm : (a * b).natAbs ≤ (A * B).natAbs := by
    rw [Int.natAbs_mul, Int.natAbs_mul]
    exact Nat.mul_le_mul ha hb
  have hA : 0 ≤ A := by omega
  have hB : 0 ≤ B := by omega
  have hAB : 0 ≤ A * B := Int.mul_nonneg hA hB
  omega
/-! ===== the text and the book ===== -/
/-- the k-th lowest byte of a word -/
def ff_byte (v k : Int) : Int := ez_and (ez_l2i (ez_lshr v (8 * k))) 255
theorem ff_byte_r (v k : Int) : 0 ≤ ff_byte v k ∧ ff_byte v k ≤ 255 := ez_and255 _
def ff_app (v : Int) : Nat → ez_M → ez_M
  | 0, M => M
  | k + 1, M => ff_app v k (ez_up (ez_up M 4 (M 3 3).toNat (ff_byte v k)) 3 3 (ez_up M 4 (M 3 3).toNat (ff_byte v k) 3 3 + 1))
def sp_X0_room : ez_Sp := fun as M Q => match as with | [.inr (.inr q)] => q = 3 ∧ (0 ≤ M 3 3 ∧ M 3 3 ≤ 48) ∧ Q (some (.inl (48 - M 3 3))) M | _ => False
def e_X0_room : ez_E := (fl_X0, co_X0, [], 0, 1)
set_option maxHeartbeats 4000000 in
set_option maxRecDepth 100000 in
theorem b_X0_room : ez_Body LX e_X0_room p_X0_room sp_X0_room := by
  intro as M Q has hM hsp
  unfold sp_X0_room at hsp
  split at hsp
  rotate_left
  · exact hsp.elim
  rename_i q
  obtain ⟨rfl, hv, hsp⟩ := hsp
  refine ⟨Nat.le_of_ble_eq_true rfl, fun cut hcut hkut => hcut [] 60 0 _ _ _ ?_⟩
  repeat' (first | (intro hh; exfalso; omega) | (refine And.intro (by first | assumption | omega) ?_) | (refine And.intro rfl ?_) | (refine And.intro ?_ ?_) | (intro qq hq1 hq2 hq3; have hq4 := hq2 (by omega) (by omega); subst hq4) | (intro hh) | exact trivial)
  all_goals exact hsp
theorem so_X0_room : ez_Sound LX yX0_room cX0_room 1 (some .int) 0 sp_X0_room := ez_sound (E := e_X0_room) (prog := p_X0_room) LX_ok (by decide +kernel) rfl (fun _ h => h) fo_X0 co_X0_ok (fun _ h => absurd h List.not_mem_nil) dp_X0_room b_X0_room
theorem k_X0_28 {d : Nat} (h : 0 < d) : ez_CallOK LX RX0 d (28, 0, 3, sp_X5_put) := ez_callS (y := yX5_put) (bytes := cX5_put) so_X5_put h (by decide) q_183 q_72 ⟨by decide +kernel, by decide +kernel, by decide +kernel⟩ (Or.inr ⟨"EastNearly", q_307⟩) q_182
def sp_X0_append : ez_Sp := fun as M Q => match as with | [.inr (.inr q), .inl n, .inr (.inl v)] => q = 3 ∧ (1 ≤ n ∧ n ≤ 8 ∧ 0 ≤ M 3 3 ∧ M 3 3 + n ≤ 48) ∧ Q (some (.inl (ff_app v n.toNat M 3 3))) (ff_app v n.toNat M) | _ => False
def e_X0_append : ez_E := (fl_X0, co_X0, [(28, 0, 3, sp_X5_put)], 0, 5)
set_option maxHeartbeats 4000000 in
set_option maxRecDepth 100000 in
theorem b_X0_append : ez_Body LX e_X0_append p_X0_append sp_X0_append := by
  intro as M Q has hM hsp
  unfold sp_X0_append at hsp
  split at hsp
  rotate_left
  · exact hsp.elim
  rename_i q n v
  have g_n : -2147483648 ≤ n ∧ n ≤ 2147483647 := ez_hd (ez_tl (has))
  have g_v : -9223372036854775808 ≤ v ∧ v ≤ 9223372036854775807 := ez_hd (ez_tl (ez_tl (has)))
  obtain ⟨rfl, hv, hsp⟩ := hsp
  refine ⟨Nat.le_of_ble_eq_true rfl, fun cut hcut hkut => ?_⟩
  have loop : ∀ (k : Nat) (w : Int) (M : ez_M), w + 1 = k → k ≤ 8 → 0 ≤ M 3 3 → M 3 3 + k ≤ 48 → Q (some (.inl (ff_app v k M 3 3))) (ff_app v k M) → cut 5 [(4, .inl w), (0, .inr (.inr 3)), (1, .inl n), (2, .inr (.inl v))] [] M := by
    intro k
    induction k with
    | zero =>
      intro w M hw h8 h0 h1 hq
      refine hcut [5] 60 5 _ _ _ ?_
      repeat' (first | (intro hh; exfalso; omega) | (refine And.intro (by first | assumption | omega) ?_) | (refine And.intro rfl ?_) | (refine And.intro ?_ ?_) | (intro qq hq1 hq2 hq3; have hq4 := hq2 (by omega) (by omega); subst hq4) | (intro hh) | exact trivial)
      all_goals exact hq
    | succ k ih =>
      intro w M hw h8 h0 h1 hq
      obtain rfl : w = (k : Int) := by omega
      have e : ∀ a b, ez_up M 4 a b 3 3 = M 3 3 := by
        intros
        simp [ez_up]
      refine hcut [5] 60 5 _ _ _ ?_
      repeat' (first | (intro hh; exfalso; omega) | (refine And.intro (by first | assumption | omega | (simp [ez_up]; omega)) ?_) | (refine And.intro rfl ?_) | (refine And.intro ?_ ?_) | (intro qq hq1 hq2 hq3; have hq4 := hq2 (by omega) (by omega); subst hq4) | (intro hh) | exact trivial)
      all_goals exact ih _ _ (by omega) (by omega) (by simp [ez_up]; omega) (by simp [ez_up]; omega) hq
  refine hcut [5] 60 0 _ _ _ ?_
  repeat' (first | (intro hh; exfalso; omega) | (refine And.intro (by first | assumption | omega) ?_) | (refine And.intro rfl ?_) | (refine And.intro ?_ ?_) | (intro qq hq1 hq2 hq3; have hq4 := hq2 (by omega) (by omega); subst hq4) | (intro hh) | exact trivial)
  all_goals exact loop n.toNat _ M (by omega) (by omega) (by omega) (by omega) hsp
theorem so_X0_append : ez_Sound LX yX0_append cX0_append 5 (some .int) 1 sp_X0_append := ez_sound (E := e_X0_append) (prog := p_X0_append) LX_ok (by decide +kernel) rfl (fun _ h => h) fo_X0 co_X0_ok (List.forall_mem_cons.mpr ⟨k_X0_28 (by decide), fun _ h => absurd h List.not_mem_nil⟩) dp_X0_append b_X0_append
def sp_X0_clearText : ez_Sp := fun as M Q => match as with | [.inr (.inr q)] => q = 3 ∧ Q (some (.inl (M 3 3))) (ez_up M 3 3 0) | _ => False
def e_X0_clearText : ez_E := (fl_X0, co_X0, [], 0, 2)
set_option maxHeartbeats 4000000 in
set_option maxRecDepth 100000 in
theorem b_X0_clearText : ez_Body LX e_X0_clearText p_X0_clearText sp_X0_clearText := by
  intro as M Q has hM hsp
  unfold sp_X0_clearText at hsp
  split at hsp
  rotate_left
  · exact hsp.elim
  rename_i q
  obtain ⟨rfl, hsp⟩ := hsp
  refine ⟨Nat.le_of_ble_eq_true rfl, fun cut hcut hkut => hcut [] 60 0 _ _ _ ?_⟩
  repeat' (first | (intro hh; exfalso; omega) | (refine And.intro (by first | assumption | omega) ?_) | (refine And.intro rfl ?_) | (refine And.intro ?_ ?_) | (intro qq hq1 hq2 hq3; have hq4 := hq2 (by omega) (by omega); subst hq4) | (intro hh) | exact trivial)
  all_goals exact hsp
theorem so_X0_clearText : ez_Sound LX yX0_clearText cX0_clearText 2 (some .int) 0 sp_X0_clearText := ez_sound (E := e_X0_clearText) (prog := p_X0_clearText) LX_ok (by decide +kernel) rfl (fun _ h => h) fo_X0 co_X0_ok (fun _ h => absurd h List.not_mem_nil) dp_X0_clearText b_X0_clearText
def sp_X0_isFigure : ez_Sp := fun as M Q => match as with | [.inl c] => ((48 ≤ c ∧ c ≤ 57) → Q (some (.inl 1)) M) ∧ (¬ (48 ≤ c ∧ c ≤ 57) → Q (some (.inl 0)) M) | _ => False
def e_X0_isFigure : ez_E := (fl_X0, co_X0, [], 1, 1)
set_option maxHeartbeats 4000000 in
set_option maxRecDepth 100000 in
theorem b_X0_isFigure : ez_Body LX e_X0_isFigure p_X0_isFigure sp_X0_isFigure := by
  intro as M Q has hM hsp
  unfold sp_X0_isFigure at hsp
  split at hsp
  rotate_left
  · exact hsp.elim
  rename_i c
  have g_c : -2147483648 ≤ c ∧ c ≤ 2147483647 := ez_hd (has)
  refine ⟨Nat.le_of_ble_eq_true rfl, fun cut hcut hkut => hcut [] 60 0 _ _ _ ?_⟩
  repeat' (first | (intro hh; exfalso; omega) | (refine And.intro (by first | assumption | omega) ?_) | (refine And.intro rfl ?_) | (refine And.intro ?_ ?_) | (intro qq hq1 hq2 hq3; have hq4 := hq2 (by omega) (by omega); subst hq4) | (intro hh) | exact trivial)
  all_goals first | exact hsp.1 (by omega) | exact hsp.2 (by omega)
theorem so_X0_isFigure : ez_Sound LX yX0_isFigure cX0_isFigure 1 (some .boolean) 0 sp_X0_isFigure := ez_sound (E := e_X0_isFigure) (prog := p_X0_isFigure) LX_ok (by decide +kernel) rfl (fun _ h => h) fo_X0 co_X0_ok (fun _ h => absurd h List.not_mem_nil) dp_X0_isFigure b_X0_isFigure
def ff_fg (T : Nat → Int) : Nat → Int → Int → Int
  | 0, _, v => v
  | n + 1, p, v => ff_fg T n (p + 1) (v * 10 + T p.toNat - 48)
/-- the number of n signs from p on -/
def ff_fig (T : Nat → Int) (p n : Int) : Int := ff_fg T n.toNat p 0
theorem ff_fig_r {T : Nat → Int} (hT : ∀ j, 0 ≤ T j ∧ T j ≤ 255) (p n : Int) (h0 : 0 ≤ n) (h3 : n ≤ 3) : -100000 ≤ ff_fig T p n ∧ ff_fig T p n ≤ 100000 := by
  have h1 := hT p.toNat
  have h2 := hT (p + 1).toNat
  have h4 := hT (p + 1 + 1).toNat
  have hn : n = 0 ∨ n = 1 ∨ n = 2 ∨ n = 3 := by omega
  rcases hn with rfl | rfl | rfl | rfl
  · show -100000 ≤ (0 : Int) ∧ (0 : Int) ≤ 100000
    omega
  · show -100000 ≤ (0 : Int) * 10 + T p.toNat - 48 ∧ (0 : Int) * 10 + T p.toNat - 48 ≤ 100000
    omega
  · show -100000 ≤ ((0 : Int) * 10 + T p.toNat - 48) * 10 + T (p + 1).toNat - 48 ∧ ((0 : Int) * 10 + T p.toNat - 48) * 10 + T (p + 1).toNat - 48 ≤ 100000
    omega
  · show -100000 ≤ (((0 : Int) * 10 + T p.toNat - 48) * 10 + T (p + 1).toNat - 48) * 10 + T (p + 1 + 1).toNat - 48 ∧ (((0 : Int) * 10 + T p.toNat - 48) * 10 + T (p + 1).toNat - 48) * 10 + T (p + 1 + 1).toNat - 48 ≤ 100000
    omega
theorem k_X0_36 {d : Nat} (h : 0 < d) : ez_CallOK LX RX0 d (36, 0, 2, sp_X5_at) := ez_callS (y := yX5_at) (bytes := cX5_at) so_X5_at h (by decide) q_259 q_72 ⟨by decide +kernel, by decide +kernel, by decide +kernel⟩ (Or.inr ⟨"EastNearly", q_328⟩) q_258
def sp_X0_figures : ez_Sp := fun as M Q => match as with | [.inr (.inr q), .inl p, .inl n] => q = 3 ∧ (0 ≤ p ∧ 0 ≤ n ∧ n ≤ 3 ∧ p + n ≤ 48) ∧ (∀ j, 0 ≤ M 4 j ∧ M 4 j ≤ 255) ∧ Q (some (.inl (ff_fig (M 4) p n))) M | _ => False
def e_X0_figures : ez_E := (fl_X0, co_X0, [(36, 0, 2, sp_X5_at)], 0, 5)
set_option maxHeartbeats 4000000 in
set_option maxRecDepth 100000 in
theorem b_X0_figures : ez_Body LX e_X0_figures p_X0_figures sp_X0_figures := by
  intro as M Q has hM hsp
  unfold sp_X0_figures at hsp
  split at hsp
  rotate_left
  · exact hsp.elim
  rename_i q p n
  have g_p : -2147483648 ≤ p ∧ p ≤ 2147483647 := ez_hd (ez_tl (has))
  have g_n : -2147483648 ≤ n ∧ n ≤ 2147483647 := ez_hd (ez_tl (ez_tl (has)))
  obtain ⟨rfl, hv, hT, hsp⟩ := hsp
  refine ⟨Nat.le_of_ble_eq_true rfl, fun cut hcut hkut => ?_⟩
  have loop : ∀ (k : Nat) (i v : Int), i + k = n → 0 ≤ i → ((v = 0 ∧ i = 0) ∨ (-300 ≤ v ∧ v ≤ 300 ∧ k ≤ 2) ∨ (-4000 ≤ v ∧ v ≤ 4000 ∧ k ≤ 1) ∨ (-50000 ≤ v ∧ v ≤ 50000 ∧ k = 0)) → Q (some (.inl (ff_fg (M 4) k (p + i) v))) M → cut 5 [(4, .inl i), (3, .inl v), (0, .inr (.inr 3)), (1, .inl p), (2, .inl n)] [] M := by
    intro k
    induction k with
    | zero =>
      intro i v hi h0 hb hq
      refine hcut [5] 60 5 _ _ _ ?_
      simp only [ff_fg] at hq
      repeat' (first | (intro hh; exfalso; omega) | (refine And.intro (by first | assumption | omega) ?_) | (refine And.intro rfl ?_) | (refine And.intro ?_ ?_) | (intro qq hq1 hq2 hq3; have hq4 := hq2 (by omega) (by omega); subst hq4) | (intro hh) | exact trivial)
      all_goals exact hq
    | succ k ih =>
      intro i v hi h0 hb hq
      have ht := hT (p + i).toNat
      refine hcut [5] 60 5 _ _ _ ?_
      simp only [ff_fg] at hq
      repeat' (first | (intro hh; exfalso; omega) | (refine And.intro (by first | assumption | omega) ?_) | (refine And.intro rfl ?_) | (refine And.intro ?_ ?_) | (intro qq hq1 hq2 hq3; have hq4 := hq2 (by omega) (by omega); subst hq4) | (intro hh) | exact trivial)
      all_goals exact ih _ _ (by omega) (by omega) (by omega) (by rw [Int.add_assoc] at hq; exact hq)
  refine hcut [5] 60 0 _ _ _ ?_
  exact loop n.toNat 0 0 (by omega) (by omega) (by omega) (by rw [Int.add_zero]; exact hsp)
theorem so_X0_figures : ez_Sound LX yX0_figures cX0_figures 5 (some .int) 1 sp_X0_figures := ez_sound (E := e_X0_figures) (prog := p_X0_figures) LX_ok (by decide +kernel) rfl (fun _ h => h) fo_X0 co_X0_ok (List.forall_mem_cons.mpr ⟨k_X0_36 (by decide), fun _ h => absurd h List.not_mem_nil⟩) dp_X0_figures b_X0_figures
