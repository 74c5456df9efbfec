/-! ===== lines dealt ===== -/
def ff_sg (a b : Int) : Int := if a = b then 0 else if a < b then 1 else -1
theorem ff_sg_r (a b : Int) : -1 ≤ ff_sg a b ∧ ff_sg a b ≤ 1 := by
  unfold ff_sg
  split
  · omega
  · split <;> omega
def ff_si (nd ln : Int → Int) (a : Int) : Nat → Int → Int
  | 0, _ => 0
  | n + 1, b => ff_sg (nd a) (nd b) * ff_sg (ln a) (ln b) + ff_si nd ln a n (b + 1)
def ff_so (nd ln : Int → Int) : Nat → Int → Int
  | 0, _ => 0
  | n + 1, a => ff_si nd ln a a.toNat 0 + ff_so nd ln n (a + 1)
theorem ff_sgm (a b c d : Int) : -1 ≤ ff_sg a b * ff_sg c d ∧ ff_sg a b * ff_sg c d ≤ 1 := by
  have h1 := ff_sg_r a b
  have h2 := ff_sg_r c d
  have := ez_mulb (a := ff_sg a b) (b := ff_sg c d) (A := 1) (B := 1) (by omega) (by omega) (by omega) (by omega)
  omega
theorem ff_si_r (nd ln : Int → Int) (a : Int) : ∀ (n : Nat) (b : Int), -(n : Int) ≤ ff_si nd ln a n b ∧ ff_si nd ln a n b ≤ n
  | 0, b => by simp [ff_si]
  | n + 1, b => by
    have ih := ff_si_r nd ln a n (b + 1)
    have hm := ff_sgm (nd a) (nd b) (ln a) (ln b)
    simp only [ff_si]
    omega
theorem ff_si_congr {nd nd' ln ln' : Int → Int} {a : Int} (ha : nd a = nd' a) (ha2 : ln a = ln' a) : ∀ (n : Nat) (b : Int), (∀ i : Nat, i < n → nd (b + i) = nd' (b + i) ∧ ln (b + i) = ln' (b + i)) → ff_si nd ln a n b = ff_si nd' ln' a n b
  | 0, b, _ => rfl
  | n + 1, b, h => by
    have h0 := h 0 (by omega)
    rw [show b + ((0 : Nat) : Int) = b by omega] at h0
    simp only [ff_si]
    rw [ha, ha2, h0.1, h0.2, ff_si_congr ha ha2 n (b + 1) (fun i hi => by
      have := h (i + 1) (by omega)
      rw [show b + ((i + 1 : Nat) : Int) = b + 1 + (i : Int) by omega] at this
      exact this)]
theorem ff_so_congr {nd nd' ln ln' : Int → Int} {N : Int} (h : ∀ k : Int, 0 ≤ k → k < N → nd k = nd' k ∧ ln k = ln' k) : ∀ (n : Nat) (a : Int), 0 ≤ a → a + n ≤ N → ff_so nd ln n a = ff_so nd' ln' n a
  | 0, a, _, _ => rfl
  | n + 1, a, h0, h1 => by
    simp only [ff_so]
    rw [ff_si_congr (h a h0 (by omega)).1 (h a h0 (by omega)).2 a.toNat 0 (fun i hi => h _ (by omega) (by omega)), ff_so_congr h n (a + 1) (by omega) (by omega)]
def sp_X2_clearLines : ez_Sp := fun as M Q => match as with | [.inr (.inr q)] => q = 16 ∧ Q none (ez_up M 16 3 0) | _ => False
def e_X2_clearLines : ez_E := (fl_X2, co_X2, [], 3, 1)
set_option maxHeartbeats 4000000 in
set_option maxRecDepth 100000 in
theorem b_X2_clearLines : ez_Body LX e_X2_clearLines p_X2_clearLines sp_X2_clearLines := by
  intro as M Q has hM hsp
  unfold sp_X2_clearLines at hsp
  split at hsp
  rotate_left
  · exact hsp.elim
  rename_i q
  obtain ⟨rfl, hsp⟩ := hsp
  refine ⟨Nat.le_of_ble_eq_true rfl, fun cut hcut hkut => hcut [] 60 0 _ _ _ ?_⟩
  repeat' (first | (intro hh; exfalso; omega) | (refine And.intro (by first | assumption | omega) ?_) | (refine And.intro rfl ?_) | (refine And.intro ?_ ?_) | (intro qq hq1 hq2 hq3; have hq4 := hq2 (by omega) (by omega); subst hq4) | (intro hh) | omega | exact trivial)
  all_goals exact hsp
theorem so_X2_clearLines : ez_Sound LX yX2_clearLines cX2_clearLines 1 none 0 sp_X2_clearLines := ez_sound (E := e_X2_clearLines) (prog := p_X2_clearLines) LX_ok (by decide +kernel) rfl (fun _ h => h) fo_X2 co_X2_ok (fun _ h => absurd h List.not_mem_nil) dp_X2_clearLines b_X2_clearLines
theorem k_X2_25 {d : Nat} (h : 0 < d) : ez_CallOK LX RX2 d (25, 0, 3, sp_X5_put) := ez_callS (y := yX5_put) (bytes := cX5_put) so_X5_put h (by decide) q_183 q_72 ⟨by decide +kernel, by decide +kernel, by decide +kernel⟩ (Or.inr ⟨"EastNearly", q_572⟩) q_182
def sp_X2_addLine : ez_Sp := fun as M Q => match as with | [.inr (.inr q), .inl a, .inl b] => q = 16 ∧ (0 ≤ M 16 3 ∧ M 16 3 ≤ 9) ∧ Q none (ez_up (ez_up (ez_up (ez_up M 17 (M 16 3).toNat a) 18 (M 16 3).toNat b) 19 (M 16 3).toNat b) 16 3 (M 16 3 + 1)) | _ => False
def e_X2_addLine : ez_E := (fl_X2, co_X2, [(25, 0, 3, sp_X5_put)], 3, 3)
set_option maxHeartbeats 4000000 in
set_option maxRecDepth 100000 in
theorem b_X2_addLine : ez_Body LX e_X2_addLine p_X2_addLine sp_X2_addLine := by
  intro as M Q has hM hsp
  unfold sp_X2_addLine at hsp
  split at hsp
  rotate_left
  · exact hsp.elim
  rename_i q a b
  have g_a : -2147483648 ≤ a ∧ a ≤ 2147483647 := ez_hd (ez_tl (has))
  have g_b : -2147483648 ≤ b ∧ b ≤ 2147483647 := ez_hd (ez_tl (ez_tl (has)))
  obtain ⟨rfl, hv, hsp⟩ := hsp
  have e1 : ∀ x y, ez_up M 17 x y 16 3 = M 16 3 := by
    intros
    simp [ez_up]
  have e2 : ∀ x y z w, ez_up (ez_up M 17 x y) 18 z w 16 3 = M 16 3 := by
    intros
    simp [ez_up]
  have e3 : ∀ x y z w u v, ez_up (ez_up (ez_up M 17 x y) 18 z w) 19 u v 16 3 = M 16 3 := by
    intros
    simp [ez_up]
  have f1 := e1 (M 16 3).toNat a
  have f2 := e2 (M 16 3).toNat a (ez_up M 17 (M 16 3).toNat a 16 3).toNat b
  have f3 := e3 (M 16 3).toNat a (ez_up M 17 (M 16 3).toNat a 16 3).toNat b (ez_up (ez_up M 17 (M 16 3).toNat a) 18 (ez_up M 17 (M 16 3).toNat a 16 3).toNat b 16 3).toNat b
  refine ⟨Nat.le_of_ble_eq_true rfl, fun cut hcut hkut => hcut [] 60 0 _ _ _ ?_⟩
  repeat' (first | (intro hh; exfalso; omega) | (refine And.intro (by first | assumption | omega) ?_) | (refine And.intro rfl ?_) | (refine And.intro ?_ ?_) | (intro qq hq1 hq2 hq3; have hq4 := hq2 (by omega) (by omega); subst hq4) | (intro hh) | omega | exact trivial)
  all_goals
    refine ez_mem hsp ?_
    rw [f3, f2, f1]
theorem so_X2_addLine : ez_Sound LX yX2_addLine cX2_addLine 3 none 1 sp_X2_addLine := ez_sound (E := e_X2_addLine) (prog := p_X2_addLine) LX_ok (by decide +kernel) rfl (fun _ h => h) fo_X2 co_X2_ok (List.forall_mem_cons.mpr ⟨k_X2_25 (by decide), fun _ h => absurd h List.not_mem_nil⟩) dp_X2_addLine b_X2_addLine
def sp_X2_way : ez_Sp := fun as M Q => match as with | [.inl a, .inl b] => Q (some (.inl (ff_sg a b))) M | _ => False
def e_X2_way : ez_E := (fl_X2, co_X2, [], 0, 2)
set_option maxHeartbeats 4000000 in
set_option maxRecDepth 100000 in
theorem b_X2_way : ez_Body LX e_X2_way p_X2_way sp_X2_way := by
  intro as M Q has hM hsp
  unfold sp_X2_way at hsp
  split at hsp
  rotate_left
  · exact hsp.elim
  rename_i a b
  have g_a : -2147483648 ≤ a ∧ a ≤ 2147483647 := ez_hd (has)
  have g_b : -2147483648 ≤ b ∧ b ≤ 2147483647 := ez_hd (ez_tl (has))
  unfold ff_sg at hsp
  refine ⟨Nat.le_of_ble_eq_true rfl, fun cut hcut hkut => hcut [] 60 0 _ _ _ ?_⟩
  by_cases h1 : a = b
  · rw [if_pos h1] at hsp
    repeat' (first | (intro hh; exfalso; omega) | (refine And.intro (by first | assumption | omega) ?_) | (refine And.intro rfl ?_) | (refine And.intro ?_ ?_) | (intro qq hq1 hq2 hq3; have hq4 := hq2 (by omega) (by omega); subst hq4) | (intro hh) | omega | exact trivial)
    all_goals exact hsp
  · rw [if_neg h1] at hsp
    split at hsp <;> (repeat' (first | (intro hh; exfalso; omega) | (refine And.intro (by first | assumption | omega) ?_) | (refine And.intro rfl ?_) | (refine And.intro ?_ ?_) | (intro qq hq1 hq2 hq3; have hq4 := hq2 (by omega) (by omega); subst hq4) | (intro hh) | omega | exact trivial))
    all_goals exact hsp
theorem so_X2_way : ez_Sound LX yX2_way cX2_way 2 (some .int) 0 sp_X2_way := ez_sound (E := e_X2_way) (prog := p_X2_way) LX_ok (by decide +kernel) rfl (fun _ h => h) fo_X2 co_X2_ok (fun _ h => absurd h List.not_mem_nil) dp_X2_way b_X2_way
theorem k_X2_33 {d : Nat} (h : 0 < d) : ez_CallOK LX RX2 d (33, 0, 2, sp_X5_at) := ez_callS (y := yX5_at) (bytes := cX5_at) so_X5_at h (by decide) q_259 q_72 ⟨by decide +kernel, by decide +kernel, by decide +kernel⟩ (Or.inr ⟨"EastNearly", q_577⟩) q_258
theorem k_X2_37 {d : Nat} (h : 0 < d) : ez_CallOK LX RX2 d (37, 0, 2, sp_X2_way) := ez_callS (y := yX2_way) (bytes := cX2_way) so_X2_way h (by decide) q_580 q_77 ⟨by decide +kernel, by decide +kernel, by decide +kernel⟩ (Or.inl q_578) q_579
def sp_X2_score : ez_Sp := fun as M Q => match as with | [.inr (.inr q)] => q = 16 ∧ (0 ≤ M 16 3 ∧ M 16 3 ≤ 10) ∧ Q (some (.inl (ff_so (fun k => M 17 k.toNat) (fun k => M 19 k.toNat) (M 16 3).toNat 0))) M | _ => False
def e_X2_score : ez_E := (fl_X2, co_X2, [(33, 0, 2, sp_X5_at), (37, 0, 2, sp_X2_way)], 0, 6)
set_option maxHeartbeats 4000000 in
set_option maxRecDepth 100000 in
theorem b_X2_score : ez_Body LX e_X2_score p_X2_score sp_X2_score := by
  intro as M Q has hM hsp
  unfold sp_X2_score at hsp
  split at hsp
  rotate_left
  · exact hsp.elim
  rename_i q
  obtain ⟨rfl, hv, hsp⟩ := hsp
  refine ⟨Nat.le_of_ble_eq_true rfl, fun cut hcut hkut => ?_⟩
  generalize hnd : (fun k : Int => M 17 k.toNat) = nd at hsp
  generalize hln : (fun k : Int => M 19 k.toNat) = ln at hsp
  have hnv : ∀ k, M 17 k.toNat = nd k := fun k => by rw [← hnd]
  have hlv : ∀ k, M 19 k.toNat = ln k := fun k => by rw [← hln]
  have inner : ∀ (n : Nat) (a b z r : Int), b + n = a → 0 ≤ b → a < M 16 3 → -1000 ≤ z - n → z + n ≤ 1000 → z + ff_si nd ln a n b = r → cut 4 [(0, .inr (.inr 16)), (1, .inl r), (2, .inl (a + 1))] [] M → cut 14 [(0, .inr (.inr 16)), (1, .inl z), (2, .inl a), (3, .inl b)] [] M := by
    intro n
    induction n with
    | zero =>
      intro a b z r hb h0 ha hz0 hz1 hr hc
      simp only [ff_si, Int.add_zero] at hr
      subst hr
      refine hkut [(14, [0, 1, 2, 3]), (4, [0, 1, 2])] 60 14 _ _ _ ?_
      repeat' (first | (intro hh; exfalso; omega) | (refine And.intro (by first | assumption | omega) ?_) | (refine And.intro rfl ?_) | (refine And.intro ?_ ?_) | (intro qq hq1 hq2 hq3; have hq4 := hq2 (by omega) (by omega); subst hq4) | (intro hh) | omega | exact trivial)
      all_goals exact hc
    | succ n ih =>
      intro a b z r hb h0 ha hz0 hz1 hr hc
      simp only [ff_si] at hr
      have hm := ff_sgm (nd a) (nd b) (ln a) (ln b)
      have ih := ih a (b + 1) (z + ff_sg (nd a) (nd b) * ff_sg (ln a) (ln b)) r (by omega) (by omega) ha (by omega) (by omega) (by omega) hc
      rw [← hnv a, ← hnv b, ← hlv a, ← hlv b] at ih hm
      refine hkut [(14, [0, 1, 2, 3]), (4, [0, 1, 2])] 60 14 _ _ _ ?_
      repeat' (first | (intro hh; exfalso; omega) | (refine And.intro (by first | assumption | omega) ?_) | (refine And.intro rfl ?_) | (refine And.intro ?_ ?_) | (intro qq hq1 hq2 hq3; have hq4 := hq2 (by omega) (by omega); subst hq4) | (intro hh) | omega | exact trivial)
      all_goals exact ih
  have outer : ∀ (n : Nat) (a z : Int), a + n = M 16 3 → 0 ≤ a → -(10 * a) ≤ z → z ≤ 10 * a → Q (some (.inl (z + ff_so nd ln n a))) M → cut 4 [(0, .inr (.inr 16)), (1, .inl z), (2, .inl a)] [] M := by
    intro n
    induction n with
    | zero =>
      intro a z ha h0 hz0 hz1 hq
      simp only [ff_so, Int.add_zero] at hq
      refine hkut [(14, [0, 1, 2, 3]), (4, [0, 1, 2])] 60 4 _ _ _ ?_
      repeat' (first | (intro hh; exfalso; omega) | (refine And.intro (by first | assumption | omega) ?_) | (refine And.intro rfl ?_) | (refine And.intro ?_ ?_) | (intro qq hq1 hq2 hq3; have hq4 := hq2 (by omega) (by omega); subst hq4) | (intro hh) | omega | exact trivial)
      all_goals exact hq
    | succ n ih =>
      intro a z ha h0 hz0 hz1 hq
      simp only [ff_so] at hq
      have hr := ff_si_r nd ln a a.toNat 0
      have ih := ih (a + 1) (z + ff_si nd ln a a.toNat 0) (by omega) (by omega) (by omega) (by omega) (ez_ret hq (by omega))
      have hi := inner a.toNat a 0 z _ (by omega) (by omega) (by omega) (by omega) (by omega) rfl ih
      refine hkut [(14, [0, 1, 2, 3]), (4, [0, 1, 2])] 60 4 _ _ _ ?_
      repeat' (first | (intro hh; exfalso; omega) | (refine And.intro (by first | assumption | omega) ?_) | (refine And.intro rfl ?_) | (refine And.intro ?_ ?_) | (intro qq hq1 hq2 hq3; have hq4 := hq2 (by omega) (by omega); subst hq4) | (intro hh) | omega | exact trivial)
      all_goals exact hi
  refine hkut [(4, [0, 1, 2])] 60 0 _ _ _ ?_
  exact outer (M 16 3).toNat 0 0 (by omega) (by omega) (by omega) (by omega) (ez_ret hsp (by omega))
theorem so_X2_score : ez_Sound LX yX2_score cX2_score 6 (some .int) 1 sp_X2_score := ez_sound (E := e_X2_score) (prog := p_X2_score) LX_ok (by decide +kernel) rfl (fun _ h => h) fo_X2 co_X2_ok (List.forall_mem_cons.mpr ⟨k_X2_33 (by decide), List.forall_mem_cons.mpr ⟨k_X2_37 (by decide), fun _ h => absurd h List.not_mem_nil⟩⟩) dp_X2_score b_X2_score
def ff_ba (left i : Int) : Nat → Int → Int → Int
  | 0, _, _ => 0
  | n + 1, b, a => if ez_and (ez_shr left b) 1 = 0 then ff_ba left i n (b + 1) a else if a = i then b else ff_ba left i n (b + 1) (a + 1)
def ff_bat (left i : Int) : Int := ff_ba left i 10 0 0
theorem ff_ba_r (left i : Int) : ∀ (n : Nat) (b a : Int), 0 ≤ b → b + n ≤ 10 → 0 ≤ ff_ba left i n b a ∧ ff_ba left i n b a ≤ 9
  | 0, b, a, _, _ => by simp [ff_ba]
  | n + 1, b, a, h0, h1 => by
    simp only [ff_ba]
    split
    · exact ff_ba_r left i n (b + 1) a (by omega) (by omega)
    · split
      · omega
      · exact ff_ba_r left i n (b + 1) (a + 1) (by omega) (by omega)
theorem ff_bat_r (left i : Int) : 0 ≤ ff_bat left i ∧ ff_bat left i ≤ 9 := ff_ba_r left i 10 0 0 (by omega) (by omega)
def ff_lx (left num : Int) (c : Nat) : Int := ff_bat left (num % ((c + 1 : Nat) : Int))
def ff_lf (left num : Int) (c : Nat) : Int := ez_and left (ez_xor (ez_shl 1 (ff_lx left num c)) (-1))
def ff_dxm (p : Int) : Nat → Int → Int → ez_M → ez_M
  | 0, _, _, M => M
  | c + 1, left, num, M => ff_dxm p c (ff_lf left num c) (num / ((c + 1 : Nat) : Int)) (ez_up M 19 (p - ((c + 1 : Nat) : Int)).toNat (M 18 (ff_lx left num c).toNat))
def ff_dxl : Nat → Int → Int → List Int
  | 0, _, _ => []
  | c + 1, left, num => ff_lx left num c :: ff_dxl c (ff_lf left num c) (num / ((c + 1 : Nat) : Int))
theorem ff_dxm_row (p : Int) : ∀ (c : Nat) (left num : Int) (M : ez_M) (i : Nat), ¬ i = 19 → ff_dxm p c left num M i = M i
  | 0, _, _, _, _, _ => rfl
  | c + 1, left, num, M, i, hi => by
    simp only [ff_dxm]
    rw [ff_dxm_row p c _ _ _ i hi, ez_up_ne i hi]
theorem ff_dxm_lo (p : Int) : ∀ (c : Nat) (left num : Int) (M : ez_M) (j : Nat), (j : Int) < p - c → 0 ≤ p - c → ff_dxm p c left num M 19 j = M 19 j
  | 0, _, _, _, _, _, _ => rfl
  | c + 1, left, num, M, j, hj, hp => by
    simp only [ff_dxm]
    rw [ff_dxm_lo p c _ _ _ j (by omega) (by omega)]
    unfold ez_up
    rw [if_neg (by omega)]
theorem ff_dxm_at (p : Int) : ∀ (c : Nat) (left num : Int) (M : ez_M) (i : Nat), i < c → 0 ≤ p - c → ff_dxm p c left num M 19 ((p - c).toNat + i) = M 18 ((ff_dxl c left num).getD i 0).toNat
  | 0, _, _, _, i, hi, _ => by omega
  | c + 1, left, num, M, i, hi, hp => by
    simp only [ff_dxm, ff_dxl]
    cases i with
    | zero =>
      rw [ff_dxm_lo p c _ _ _ _ (by omega) (by omega)]
      simp [ez_up]
    | succ i =>
      have h := ff_dxm_at p c (ff_lf left num c) (num / ((c + 1 : Nat) : Int)) (ez_up M 19 (p - ((c + 1 : Nat) : Int)).toNat (M 18 (ff_lx left num c).toNat)) i (by omega) (by omega)
      rw [show (p - ((c + 1 : Nat) : Int)).toNat + (i + 1) = (p - (c : Int)).toNat + i by omega, h]
      rw [ez_up_ne 18 (by decide)]
      rfl
def sp_X2_bitAt : ez_Sp := fun as M Q => match as with | [.inl l, .inl i] => Q (some (.inl (ff_bat l i))) M | _ => False
def e_X2_bitAt : ez_E := (fl_X2, co_X2, [], 0, 4)
set_option maxHeartbeats 4000000 in
set_option maxRecDepth 100000 in
theorem b_X2_bitAt : ez_Body LX e_X2_bitAt p_X2_bitAt sp_X2_bitAt := by
  intro as M Q has hM hsp
  unfold sp_X2_bitAt at hsp
  split at hsp
  rotate_left
  · exact hsp.elim
  rename_i l i
  have g_l : -2147483648 ≤ l ∧ l ≤ 2147483647 := ez_hd (has)
  have g_i : -2147483648 ≤ i ∧ i ≤ 2147483647 := ez_hd (ez_tl (has))
  refine ⟨Nat.le_of_ble_eq_true rfl, fun cut hcut hkut => ?_⟩
  unfold ff_bat at hsp
  have loop : ∀ (n : Nat) (b a : Int), b + n = 10 → 0 ≤ b → 0 ≤ a → a ≤ b → Q (some (.inl (ff_ba l i n b a))) M → cut 4 [(0, .inl l), (1, .inl i), (2, .inl a), (3, .inl b)] [] M := by
    intro n
    induction n with
    | zero =>
      intro b a hb h0 ha0 ha1 hq
      refine hkut [(4, [0, 1, 2, 3])] 60 4 _ _ _ ?_
      repeat' (first | (intro hh; exfalso; omega) | (refine And.intro (by first | assumption | omega) ?_) | (refine And.intro rfl ?_) | (refine And.intro ?_ ?_) | (intro qq hq1 hq2 hq3; have hq4 := hq2 (by omega) (by omega); subst hq4) | (intro hh) | omega | exact trivial)
      all_goals exact hq
    | succ n ih =>
      intro b a hb h0 ha0 ha1 hq
      simp only [ff_ba] at hq
      refine hkut [(4, [0, 1, 2, 3])] 60 4 _ _ _ ?_
      split at hq
      · (repeat' (first | (intro hh; exfalso; omega) | (refine And.intro (by first | assumption | omega) ?_) | (refine And.intro rfl ?_) | (refine And.intro ?_ ?_) | (intro qq hq1 hq2 hq3; have hq4 := hq2 (by omega) (by omega); subst hq4) | (intro hh) | omega | exact trivial))
        all_goals exact ih _ _ (by omega) (by omega) (by omega) (by omega) hq
      · split at hq
        · (repeat' (first | (intro hh; exfalso; omega) | (refine And.intro (by first | assumption | omega) ?_) | (refine And.intro rfl ?_) | (refine And.intro ?_ ?_) | (intro qq hq1 hq2 hq3; have hq4 := hq2 (by omega) (by omega); subst hq4) | (intro hh) | omega | exact trivial))
          all_goals exact hq
        · (repeat' (first | (intro hh; exfalso; omega) | (refine And.intro (by first | assumption | omega) ?_) | (refine And.intro rfl ?_) | (refine And.intro ?_ ?_) | (intro qq hq1 hq2 hq3; have hq4 := hq2 (by omega) (by omega); subst hq4) | (intro hh) | omega | exact trivial))
          all_goals exact ih _ _ (by omega) (by omega) (by omega) (by omega) hq
  refine hkut [(4, [0, 1, 2, 3])] 60 0 _ _ _ ?_
  exact loop 10 0 0 (by omega) (by omega) (by omega) (by omega) hsp
theorem so_X2_bitAt : ez_Sound LX yX2_bitAt cX2_bitAt 4 (some .int) 0 sp_X2_bitAt := ez_sound (E := e_X2_bitAt) (prog := p_X2_bitAt) LX_ok (by decide +kernel) rfl (fun _ h => h) fo_X2 co_X2_ok (fun _ h => absurd h List.not_mem_nil) dp_X2_bitAt b_X2_bitAt
theorem k_X2_29 {d : Nat} (h : 0 < d) : ez_CallOK LX RX2 d (29, 0, 2, sp_X2_bitAt) := ez_callS (y := yX2_bitAt) (bytes := cX2_bitAt) so_X2_bitAt h (by decide) q_591 q_77 ⟨by decide +kernel, by decide +kernel, by decide +kernel⟩ (Or.inl q_589) q_590
def sp_X2_deal : ez_Sp := fun as M Q => match as with | [.inr (.inr q), .inl w] => q = 16 ∧ (0 ≤ M 16 3 ∧ M 16 3 ≤ 10 ∧ 0 ≤ w) ∧ Q none (ff_dxm (M 16 3) (M 16 3).toNat (ez_shl 1 (M 16 3) - 1) w M) | _ => False
def e_X2_deal : ez_E := (fl_X2, co_X2, [(29, 0, 2, sp_X2_bitAt), (33, 0, 2, sp_X5_at), (25, 0, 3, sp_X5_put)], 3, 6)
set_option maxHeartbeats 4000000 in
set_option maxRecDepth 100000 in
theorem b_X2_deal : ez_Body LX e_X2_deal p_X2_deal sp_X2_deal := by
  intro as M Q has hM hsp
  unfold sp_X2_deal at hsp
  split at hsp
  rotate_left
  · exact hsp.elim
  rename_i q w
  have g_w : -2147483648 ≤ w ∧ w ≤ 2147483647 := ez_hd (ez_tl (has))
  obtain ⟨rfl, hv, hsp⟩ := hsp
  have hP := ff_shl_n (n := M 16 3) ⟨hv.1, hv.2.1⟩
  generalize hp : M 16 3 = p at hv hsp hP
  refine ⟨Nat.le_of_ble_eq_true rfl, fun cut hcut hkut => ?_⟩
  have loop : ∀ (c : Nat) (x left num : Int) (N : ez_M), x = (c : Int) → (c : Int) ≤ p → 0 ≤ num → num ≤ 2147483647 → N 16 3 = p → Q none (ff_dxm p c left num N) → cut 17 [(0, .inr (.inr 16)), (2, .inl num), (3, .inl left), (4, .inl x)] [] N := by
    intro c
    induction c with
    | zero =>
      intro x left num N hx hc hn0 hn1 hN hq
      refine hkut [(17, [0, 2, 3, 4])] 60 17 _ _ _ ?_
      repeat' (first | (intro hh; exfalso; omega) | (refine And.intro (by first | assumption | omega) ?_) | (refine And.intro rfl ?_) | (refine And.intro ?_ ?_) | (intro qq hq1 hq2 hq3; have hq4 := hq2 (by omega) (by omega); subst hq4) | (intro hh) | omega | exact trivial)
      all_goals exact hq
    | succ c ih =>
      intro x left num N hx hc hn0 hn1 hN hq
      subst hx
      have hd0 := Int.ediv_nonneg hn0 (by omega : 0 ≤ ((c + 1 : Nat) : Int))
      have hd1 := Int.ediv_le_self ((c + 1 : Nat) : Int) hn0
      have hm0 := Int.emod_nonneg num (by omega : ((c + 1 : Nat) : Int) ≠ 0)
      have hm1 := Int.emod_lt_of_pos num (by omega : 0 < ((c + 1 : Nat) : Int))
      have hlr := ff_bat_r left (num % ((c + 1 : Nat) : Int))
      have ih := ih ((c + 1 : Nat) + (-1)) (ff_lf left num c) (num / ((c + 1 : Nat) : Int)) (ez_up N 19 (p - ((c + 1 : Nat) : Int)).toNat (N 18 (ff_lx left num c).toNat)) (by omega) (by omega) hd0 (by omega) (by simp [ez_up]; exact hN) hq
      rw [← hN] at ih
      refine hkut [(17, [0, 2, 3, 4])] 60 17 _ _ _ ?_
      repeat' (first | (intro hh; exfalso; omega) | (refine And.intro (by first | assumption | omega) ?_) | (refine And.intro rfl ?_) | (refine And.intro ?_ ?_) | (intro qq hq1 hq2 hq3; have hq4 := hq2 (by omega) (by omega); subst hq4) | (intro hh) | omega | exact trivial)
      all_goals exact ih
  have hl := loop p.toNat p (ez_shl 1 p - 1) w M (by omega) (by omega) hv.2.2 (by omega) hp hsp
  rw [← hp] at hl hP
  refine hkut [(17, [0, 2, 3, 4])] 60 0 _ _ _ ?_
  repeat' (first | (intro hh; exfalso; omega) | (refine And.intro (by first | assumption | omega) ?_) | (refine And.intro rfl ?_) | (refine And.intro ?_ ?_) | (intro qq hq1 hq2 hq3; have hq4 := hq2 (by omega) (by omega); subst hq4) | (intro hh) | omega | exact trivial)
  all_goals exact hl
theorem so_X2_deal : ez_Sound LX yX2_deal cX2_deal 6 none 1 sp_X2_deal := ez_sound (E := e_X2_deal) (prog := p_X2_deal) LX_ok (by decide +kernel) rfl (fun _ h => h) fo_X2 co_X2_ok (List.forall_mem_cons.mpr ⟨k_X2_29 (by decide), List.forall_mem_cons.mpr ⟨k_X2_33 (by decide), List.forall_mem_cons.mpr ⟨k_X2_25 (by decide), fun _ h => absurd h List.not_mem_nil⟩⟩⟩) dp_X2_deal b_X2_deal
