/-! ===== counting ===== -/
/-- how many of n numbers from y on -/
def ff_cn (p : Int → Bool) : Nat → Int → Int
  | 0, _ => 0
  | n + 1, y => (if p y = true then 1 else 0) + ff_cn p n (y + 1)
def ff_ex (p : Int → Bool) : Nat → Int → Bool
  | 0, _ => false
  | n + 1, y => p y || ff_ex p n (y + 1)
theorem ff_cn_r (p : Int → Bool) : ∀ (n : Nat) (y : Int), 0 ≤ ff_cn p n y ∧ ff_cn p n y ≤ n
  | 0, y => by simp [ff_cn]
  | n + 1, y => by
    have := ff_cn_r p n (y + 1)
    simp only [ff_cn]
    split <;> omega
theorem ff_ex_cn (p : Int → Bool) : ∀ (n : Nat) (y : Int), ff_ex p n y = true ↔ 0 < ff_cn p n y
  | 0, y => by simp [ff_ex, ff_cn]
  | n + 1, y => by
    have h1 := ff_cn_r p n (y + 1)
    have h2 := ff_ex_cn p n (y + 1)
    simp only [ff_ex, ff_cn, Bool.or_eq_true]
    rw [h2]
    by_cases h : p y = true
    · simp only [h, if_true, true_or, true_iff]
      omega
    · simp [h]
/-- whether a number is told of a church -/
def ff_kn (f : Nat → Int) (w c : Int) : Bool := decide (¬ f (11 * c + w).toNat = -9)
def ff_mid (f : Nat → Int) (c : Int) : Int := (f (11 * c + 3).toNat + f (11 * c + 4).toNat) / 2
def sp_X1_has : ez_Sp := fun as M Q => match as with | [.inr (.inr q), .inl c] => q = 7 ∧ ((0 ≤ c ∧ c < M 7 1) → Q (some (.inl 1)) M) ∧ (¬ (0 ≤ c ∧ c < M 7 1) → Q (some (.inl 0)) M) | _ => False
def e_X1_has : ez_E := (fl_X1, co_X1, [], 1, 2)
set_option maxHeartbeats 4000000 in
set_option maxRecDepth 100000 in
theorem b_X1_has : ez_Body LX e_X1_has p_X1_has sp_X1_has := by
  intro as M Q has hM hsp
  unfold sp_X1_has at hsp
  split at hsp
  rotate_left
  · exact hsp.elim
  rename_i q c
  have g_c : -2147483648 ≤ c ∧ c ≤ 2147483647 := ez_hd (ez_tl (has))
  obtain ⟨rfl, hsp⟩ := hsp
  refine ⟨Nat.le_of_ble_eq_true rfl, fun cut hcut hkut => hcut [] 60 0 _ _ _ ?_⟩
  repeat' (first | (intro hh; exfalso; omega) | (refine And.intro (by first | assumption | omega) ?_) | (refine And.intro rfl ?_) | (refine And.intro ?_ ?_) | (intro qq hq1 hq2 hq3; have hq4 := hq2 (by omega) (by omega); subst hq4) | (intro hh) | exact trivial)
  all_goals first | exact hsp.1 (by omega) | exact hsp.2 (by omega)
theorem so_X1_has : ez_Sound LX yX1_has cX1_has 2 (some .boolean) 0 sp_X1_has := ez_sound (E := e_X1_has) (prog := p_X1_has) LX_ok (by decide +kernel) rfl (fun _ h => h) fo_X1 co_X1_ok (fun _ h => absurd h List.not_mem_nil) dp_X1_has b_X1_has
theorem k_X1_23 {d : Nat} (h : 0 < d) : ez_CallOK LX RX1 d (23, 0, 2, sp_X5_at) := ez_callS (y := yX5_at) (bytes := cX5_at) so_X5_at h (by decide) q_259 q_72 ⟨by decide +kernel, by decide +kernel, by decide +kernel⟩ (Or.inr ⟨"EastNearly", q_372⟩) q_258
def sp_X1_get : ez_Sp := fun as M Q => match as with | [.inr (.inr q), .inl c, .inl w] => q = 7 ∧ (0 ≤ c ∧ c ≤ 9 ∧ 0 ≤ w ∧ w ≤ 10) ∧ Q (some (.inl (M 8 (11 * c + w).toNat))) M | _ => False
def e_X1_get : ez_E := (fl_X1, co_X1, [(23, 0, 2, sp_X5_at)], 0, 3)
set_option maxHeartbeats 4000000 in
set_option maxRecDepth 100000 in
theorem b_X1_get : ez_Body LX e_X1_get p_X1_get sp_X1_get := by
  intro as M Q has hM hsp
  unfold sp_X1_get at hsp
  split at hsp
  rotate_left
  · exact hsp.elim
  rename_i q c w
  have g_c : -2147483648 ≤ c ∧ c ≤ 2147483647 := ez_hd (ez_tl (has))
  have g_w : -2147483648 ≤ w ∧ w ≤ 2147483647 := ez_hd (ez_tl (ez_tl (has)))
  obtain ⟨rfl, hv, hsp⟩ := hsp
  rw [Int.mul_comm 11 c] at hsp
  refine ⟨Nat.le_of_ble_eq_true rfl, fun cut hcut hkut => hcut [] 60 0 _ _ _ ?_⟩
  repeat' (first | (intro hh; exfalso; omega) | (refine And.intro (by first | assumption | omega) ?_) | (refine And.intro rfl ?_) | (refine And.intro ?_ ?_) | (intro qq hq1 hq2 hq3; have hq4 := hq2 (by omega) (by omega); subst hq4) | (intro hh) | exact trivial)
  all_goals exact hsp
theorem so_X1_get : ez_Sound LX yX1_get cX1_get 3 (some .int) 1 sp_X1_get := ez_sound (E := e_X1_get) (prog := p_X1_get) LX_ok (by decide +kernel) rfl (fun _ h => h) fo_X1 co_X1_ok (List.forall_mem_cons.mpr ⟨k_X1_23 (by decide), fun _ h => absurd h List.not_mem_nil⟩) dp_X1_get b_X1_get
theorem k_X1_27 {d : Nat} (h : 1 < d) : ez_CallOK LX RX1 d (27, 1+1, 2, sp_X1_get) := ez_callV (y := yX1_get) (bytes := cX1_get) so_X1_get h (by decide) q_371 q_75 ⟨by decide +kernel, by decide +kernel, by decide +kernel⟩ (Or.inl q_368) q_370 q_14 (T := TX1) (N := 3) rfl
def sp_X1_knows : ez_Sp := fun as M Q => match as with | [.inr (.inr q), .inl c, .inl w] => q = 7 ∧ (0 ≤ c ∧ c ≤ 9 ∧ 0 ≤ w ∧ w ≤ 10) ∧ ((¬ M 8 (11 * c + w).toNat = -9) → Q (some (.inl 1)) M) ∧ (M 8 (11 * c + w).toNat = -9 → Q (some (.inl 0)) M) | _ => False
def e_X1_knows : ez_E := (fl_X1, co_X1, [(27, 1+1, 2, sp_X1_get)], 1, 3)
set_option maxHeartbeats 4000000 in
set_option maxRecDepth 100000 in
theorem b_X1_knows : ez_Body LX e_X1_knows p_X1_knows sp_X1_knows := by
  intro as M Q has hM hsp
  unfold sp_X1_knows at hsp
  split at hsp
  rotate_left
  · exact hsp.elim
  rename_i q c w
  have g_c : -2147483648 ≤ c ∧ c ≤ 2147483647 := ez_hd (ez_tl (has))
  have g_w : -2147483648 ≤ w ∧ w ≤ 2147483647 := ez_hd (ez_tl (ez_tl (has)))
  obtain ⟨rfl, hv, hsp⟩ := hsp
  refine ⟨Nat.le_of_ble_eq_true rfl, fun cut hcut hkut => hcut [] 60 0 _ _ _ ?_⟩
  repeat' (first | (intro hh; exfalso; omega) | (refine And.intro (by first | assumption | omega) ?_) | (refine And.intro rfl ?_) | (refine And.intro ?_ ?_) | (intro qq hq1 hq2 hq3; have hq4 := hq2 (by omega) (by omega); subst hq4) | (intro hh) | exact trivial)
  all_goals first | exact hsp.1 (by omega) | exact hsp.2 (by omega)
theorem so_X1_knows : ez_Sound LX yX1_knows cX1_knows 3 (some .boolean) 2 sp_X1_knows := ez_sound (E := e_X1_knows) (prog := p_X1_knows) LX_ok (by decide +kernel) rfl (fun _ h => h) fo_X1 co_X1_ok (List.forall_mem_cons.mpr ⟨k_X1_27 (by decide), fun _ h => absurd h List.not_mem_nil⟩) dp_X1_knows b_X1_knows
theorem k_X1_31 {d : Nat} (h : 0 < d) : ez_CallOK LX RX1 d (31, 0, 3, sp_X5_put) := ez_callS (y := yX5_put) (bytes := cX5_put) so_X5_put h (by decide) q_183 q_72 ⟨by decide +kernel, by decide +kernel, by decide +kernel⟩ (Or.inr ⟨"EastNearly", q_373⟩) q_182
def sp_X1_change : ez_Sp := fun as M Q => match as with | [.inr (.inr q), .inl c, .inl w, .inl v] => q = 7 ∧ (0 ≤ c ∧ c ≤ 9 ∧ 0 ≤ w ∧ w ≤ 10) ∧ Q (some (.inl (M 8 (11 * c + w).toNat))) (ez_up M 8 (11 * c + w).toNat v) | _ => False
def e_X1_change : ez_E := (fl_X1, co_X1, [(27, 1+1, 2, sp_X1_get), (31, 0, 3, sp_X5_put)], 0, 5)
set_option maxHeartbeats 4000000 in
set_option maxRecDepth 100000 in
theorem b_X1_change : ez_Body LX e_X1_change p_X1_change sp_X1_change := by
  intro as M Q has hM hsp
  unfold sp_X1_change at hsp
  split at hsp
  rotate_left
  · exact hsp.elim
  rename_i q c w v
  have g_c : -2147483648 ≤ c ∧ c ≤ 2147483647 := ez_hd (ez_tl (has))
  have g_w : -2147483648 ≤ w ∧ w ≤ 2147483647 := ez_hd (ez_tl (ez_tl (has)))
  have g_v : -2147483648 ≤ v ∧ v ≤ 2147483647 := ez_hd (ez_tl (ez_tl (ez_tl (has))))
  obtain ⟨rfl, hv, hsp⟩ := hsp
  rw [Int.mul_comm 11 c] at hsp
  refine ⟨Nat.le_of_ble_eq_true rfl, fun cut hcut hkut => hcut [] 60 0 _ _ _ ?_⟩
  repeat' (first | (intro hh; exfalso; omega) | (refine And.intro (by first | assumption | omega) ?_) | (refine And.intro rfl ?_) | (refine And.intro ?_ ?_) | (intro qq hq1 hq2 hq3; have hq4 := hq2 (by omega) (by omega); subst hq4) | (intro hh) | exact trivial)
  all_goals
    rw [Int.mul_comm 11 c]
    exact hsp
theorem so_X1_change : ez_Sound LX yX1_change cX1_change 5 (some .int) 2 sp_X1_change := ez_sound (E := e_X1_change) (prog := p_X1_change) LX_ok (by decide +kernel) rfl (fun _ h => h) fo_X1 co_X1_ok (List.forall_mem_cons.mpr ⟨k_X1_27 (by decide), List.forall_mem_cons.mpr ⟨k_X1_31 (by decide), fun _ h => absurd h List.not_mem_nil⟩⟩) dp_X1_change b_X1_change
def sp_X1_middleYear : ez_Sp := fun as M Q => match as with | [.inr (.inr q), .inl c] => q = 7 ∧ (0 ≤ c ∧ c ≤ 9) ∧ (0 ≤ M 8 (11 * c + 3).toNat ∧ M 8 (11 * c + 3).toNat ≤ 599 ∧ 0 ≤ M 8 (11 * c + 4).toNat ∧ M 8 (11 * c + 4).toNat ≤ 599) ∧ Q (some (.inl (ff_mid (M 8) c))) M | _ => False
def e_X1_middleYear : ez_E := (fl_X1, co_X1, [(27, 1+1, 2, sp_X1_get)], 0, 2)
set_option maxHeartbeats 4000000 in
set_option maxRecDepth 100000 in
theorem b_X1_middleYear : ez_Body LX e_X1_middleYear p_X1_middleYear sp_X1_middleYear := by
  intro as M Q has hM hsp
  unfold sp_X1_middleYear at hsp
  split at hsp
  rotate_left
  · exact hsp.elim
  rename_i q c
  have g_c : -2147483648 ≤ c ∧ c ≤ 2147483647 := ez_hd (ez_tl (has))
  obtain ⟨rfl, hv, hw, hsp⟩ := hsp
  unfold ff_mid at hsp
  refine ⟨Nat.le_of_ble_eq_true rfl, fun cut hcut hkut => hcut [] 60 0 _ _ _ ?_⟩
  repeat' (first | (intro hh; exfalso; omega) | (refine And.intro (by first | assumption | omega) ?_) | (refine And.intro rfl ?_) | (refine And.intro ?_ ?_) | (intro qq hq1 hq2 hq3; have hq4 := hq2 (by omega) (by omega); subst hq4) | (intro hh) | exact trivial)
  all_goals exact hsp
theorem so_X1_middleYear : ez_Sound LX yX1_middleYear cX1_middleYear 2 (some .int) 2 sp_X1_middleYear := ez_sound (E := e_X1_middleYear) (prog := p_X1_middleYear) LX_ok (by decide +kernel) rfl (fun _ h => h) fo_X1 co_X1_ok (List.forall_mem_cons.mpr ⟨k_X1_27 (by decide), fun _ h => absurd h List.not_mem_nil⟩) dp_X1_middleYear b_X1_middleYear
theorem k_X1_39 {d : Nat} (h : 2 < d) : ez_CallOK LX RX1 d (39, 1+1, 2, sp_X1_knows) := ez_callV (y := yX1_knows) (bytes := cX1_knows) so_X1_knows h (by decide) q_513 q_75 ⟨by decide +kernel, by decide +kernel, by decide +kernel⟩ (Or.inl q_655) q_512 q_27 (T := TX1) (N := 3) rfl
def sp_X1_countWith : ez_Sp := fun as M Q => match as with | [.inr (.inr q), .inl w] => q = 7 ∧ (0 ≤ w ∧ w ≤ 10) ∧ (0 ≤ M 7 1 ∧ M 7 1 ≤ 10) ∧ Q (some (.inl (ff_cn (ff_kn (M 8) w) (M 7 1).toNat 0))) M | _ => False
def e_X1_countWith : ez_E := (fl_X1, co_X1, [(39, 1+1, 2, sp_X1_knows)], 0, 4)
set_option maxHeartbeats 4000000 in
set_option maxRecDepth 100000 in
theorem b_X1_countWith : ez_Body LX e_X1_countWith p_X1_countWith sp_X1_countWith := by
  intro as M Q has hM hsp
  unfold sp_X1_countWith at hsp
  split at hsp
  rotate_left
  · exact hsp.elim
  rename_i q w
  have g_w : -2147483648 ≤ w ∧ w ≤ 2147483647 := ez_hd (ez_tl (has))
  obtain ⟨rfl, hv, hw, hsp⟩ := hsp
  refine ⟨Nat.le_of_ble_eq_true rfl, fun cut hcut hkut => ?_⟩
  have loop : ∀ (n : Nat) (y z : Int), y + n = M 7 1 → 0 ≤ y → 0 ≤ z → z ≤ y → Q (some (.inl (z + ff_cn (ff_kn (M 8) w) n y))) M → cut 4 [(3, .inl y), (2, .inl z), (0, .inr (.inr 7)), (1, .inl w)] [] M := by
    intro n
    induction n with
    | zero =>
      intro y z hy h0 hz0 hz1 hq
      refine hcut [4] 60 4 _ _ _ ?_
      simp only [ff_cn, Int.add_zero] at hq
      repeat' (first | (intro hh; exfalso; omega) | (refine And.intro (by first | assumption | omega) ?_) | (refine And.intro rfl ?_) | (refine And.intro ?_ ?_) | (intro qq hq1 hq2 hq3; have hq4 := hq2 (by omega) (by omega); subst hq4) | (intro hh) | exact trivial)
      all_goals exact hq
    | succ n ih =>
      intro y z hy h0 hz0 hz1 hq
      refine hcut [4] 60 4 _ _ _ ?_
      simp only [ff_cn, ff_kn, decide_eq_true_eq] at hq
      split at hq
      · (repeat' (first | (intro hh; exfalso; omega) | (refine And.intro (by first | assumption | omega) ?_) | (refine And.intro rfl ?_) | (refine And.intro ?_ ?_) | (intro qq hq1 hq2 hq3; have hq4 := hq2 (by omega) (by omega); subst hq4) | (intro hh) | exact trivial))
        all_goals exact ih (y + 1) (z + 1) (by omega) (by omega) (by omega) (by omega) (ez_ret hq (by omega))
      · (repeat' (first | (intro hh; exfalso; omega) | (refine And.intro (by first | assumption | omega) ?_) | (refine And.intro rfl ?_) | (refine And.intro ?_ ?_) | (intro qq hq1 hq2 hq3; have hq4 := hq2 (by omega) (by omega); subst hq4) | (intro hh) | exact trivial))
        all_goals exact ih (y + 1) z (by omega) (by omega) (by omega) (by omega) (ez_ret hq (by omega))
  refine hcut [4] 60 0 _ _ _ ?_
  exact loop (M 7 1).toNat 0 0 (by omega) (by omega) (by omega) (by omega) (ez_ret hsp (by omega))
theorem so_X1_countWith : ez_Sound LX yX1_countWith cX1_countWith 4 (some .int) 3 sp_X1_countWith := ez_sound (E := e_X1_countWith) (prog := p_X1_countWith) LX_ok (by decide +kernel) rfl (fun _ h => h) fo_X1 co_X1_ok (List.forall_mem_cons.mpr ⟨k_X1_39 (by decide), fun _ h => absurd h List.not_mem_nil⟩) dp_X1_countWith b_X1_countWith
/-- the list o's churches go over to the list q -/
def ff_cpy (M : ez_M) (q o k : Nat) : ez_M := fun i j => if i = q + 1 ∧ j < k then M (o + 1) j else M i j
def ff_take (M : ez_M) (q o : Nat) : ez_M := fun i j => if i = q + 1 ∧ j < 110 then M (o + 1) j else if i = q ∧ j = 1 then M o 1 else if i = q ∧ j = 2 then 1 else M i j
theorem ff_cpy_s {M : ez_M} {q o k : Nat} (h : ¬ o = q) : ez_up (ff_cpy M q o k) (q + 1) k (ff_cpy M q o k (o + 1) k) = ff_cpy M q o (k + 1) := by
  funext i j
  simp only [ez_up, ff_cpy]
  grind
theorem ff_take_s {M : ez_M} {q o : Nat} (h : ¬ o = q) (h2 : ¬ o = q + 1) : ez_up (ez_up (ff_cpy M q o 110) q 1 (ff_cpy M q o 110 o 1)) q 2 1 = ff_take M q o := by
  funext i j
  simp only [ez_up, ff_cpy, ff_take]
  grind
def sp_X1_takeAll : ez_Sp := fun as M Q => match as with | [.inr (.inr q), .inr (.inr o)] => ((q = 7 ∧ o = 9) ∨ (q = 7 ∧ o = 11) ∨ (q = 9 ∧ o = 7) ∨ (q = 11 ∧ o = 7)) ∧ Q (some (.inl (M o 1))) (ff_take M q o) | _ => False
def e_X1_takeAll : ez_E := (fl_X1, co_X1, [(23, 0, 2, sp_X5_at), (31, 0, 3, sp_X5_put)], 0, 3)
set_option maxHeartbeats 4000000 in
set_option maxRecDepth 100000 in
theorem b_X1_takeAll : ez_Body LX e_X1_takeAll p_X1_takeAll sp_X1_takeAll := by
  intro as M Q has hM hsp
  unfold sp_X1_takeAll at hsp
  split at hsp
  rotate_left
  · exact hsp.elim
  rename_i q o
  obtain ⟨hqo, hsp⟩ := hsp
  refine ⟨Nat.le_of_ble_eq_true rfl, fun cut hcut hkut => ?_⟩
  have loop : ∀ (n k : Nat), k + n = 110 → cut 9 [(2, .inl (k : Int)), (0, .inr (.inr q)), (1, .inr (.inr o))] [] (ff_cpy M q o k) := by
    intro n
    induction n with
    | zero =>
      intro k hk
      obtain rfl : k = 110 := by omega
      refine hcut [9] 60 9 _ _ _ ?_
      rcases hqo with ⟨rfl, rfl⟩ | ⟨rfl, rfl⟩ | ⟨rfl, rfl⟩ | ⟨rfl, rfl⟩
      all_goals
        repeat' (first | (intro hh; exfalso; omega) | (refine And.intro (by first | assumption | omega) ?_) | (refine And.intro rfl ?_) | (refine And.intro ?_ ?_) | (intro qq hq1 hq2 hq3; have hq4 := hq2 (by omega) (by omega); subst hq4) | (intro hh) | exact trivial)
      all_goals
        rw [← ff_take_s (by decide) (by decide)] at hsp
        exact hsp
    | succ n ih =>
      intro k hk
      have ih := ih (k + 1) (by omega)
      refine hcut [9] 60 9 _ _ _ ?_
      rw [← ff_cpy_s (by omega)] at ih
      rcases hqo with ⟨rfl, rfl⟩ | ⟨rfl, rfl⟩ | ⟨rfl, rfl⟩ | ⟨rfl, rfl⟩
      all_goals
        repeat' (first | (intro hh; exfalso; omega) | (refine And.intro (by first | assumption | omega) ?_) | (refine And.intro rfl ?_) | (refine And.intro ?_ ?_) | (intro qq hq1 hq2 hq3; have hq4 := hq2 (by omega) (by omega); subst hq4) | (intro hh) | exact trivial)
      all_goals exact ih
  refine hcut [9] 60 0 _ _ _ ?_
  have h0 := loop 110 0 (by omega)
  have e : ff_cpy M q o 0 = M := by
    funext i j
    simp [ff_cpy]
  rw [e] at h0
  exact h0
theorem so_X1_takeAll : ez_Sound LX yX1_takeAll cX1_takeAll 3 (some .int) 1 sp_X1_takeAll := ez_sound (E := e_X1_takeAll) (prog := p_X1_takeAll) LX_ok (by decide +kernel) rfl (fun _ h => h) fo_X1 co_X1_ok (List.forall_mem_cons.mpr ⟨k_X1_23 (by decide), List.forall_mem_cons.mpr ⟨k_X1_31 (by decide), fun _ h => absurd h List.not_mem_nil⟩⟩) dp_X1_takeAll b_X1_takeAll
