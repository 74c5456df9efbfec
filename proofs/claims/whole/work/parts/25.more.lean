def op_days (S : ff_S) (c : Int) : Int := if 0 ≤ c ∧ c < S 1 4 then ff_cn (ff_dol S c) 364 0 else -1
def ff_lk (S : ff_S) : Nat → Int → Int → Int → Int
  | 0, _, f, _ => f
  | n + 1, c, f, z => if z < ff_pop (ff_rules S c) then ff_lk S n (c + 1) c (ff_pop (ff_rules S c)) else ff_lk S n (c + 1) f z
def op_look (S : ff_S) : Int := ff_lk S (S 1 4).toNat 0 (-9) (-1)
def ff_une (S : ff_S) : Int := ff_cn (fun c => decide (ff_rules S c = 0)) (S 1 4).toNat 0
def op_count (S : ff_S) (w : Int) : Int := if w = 0 then S 1 4 else if w = 1 then ff_cn (ff_kn (S 5) 5) (S 1 4).toNat 0 else if w = 2 then ff_cn (ff_kn (S 5) 8) (S 1 4).toNat 0 else if w = 3 then ff_une S else if w = 4 then S 1 3 else if w = 5 then S 1 2 else -2
def ff_it (p : Int → Bool) (i : Int) : Nat → Int → Int → Int
  | 0, _, _ => -9
  | n + 1, y, a => if p y = true then (if a = i then y else ff_it p i n (y + 1) (a + 1)) else ff_it p i n (y + 1) a
def op_hit (S : ff_S) (r c i : Int) : Int := if (0 ≤ r ∧ r ≤ 5) ∧ (0 ≤ c ∧ c < S 1 4) then ff_it (ff_hit S r c) i (ff_yrs S c) (S 5 (11 * c + 3).toNat) 0 else -1
def ff_wy (S : ff_S) (c : Int) : Nat → Int → Int
  | 0, _ => -9
  | n + 1, r => if ff_exl S r c 8 9 10 = true ∧ ff_exl S r c 1 3 4 = false then r else ff_wy S c n (r + 1)
def op_why (S : ff_S) (c : Int) : Int := if 0 ≤ c ∧ c < S 1 4 then (if S 5 (11 * c + 8).toNat = -9 then -3 else ff_wy S c 6 0) else -1
def ff_whp (S : ff_S) (c d y b : Int) : Bool := if b < y then ff_dhit S c (S 5 (11 * c + 5).toNat) b else ff_dhit S c d b
def op_when (S : ff_S) (c d y : Int) : Int := if (0 ≤ c ∧ c < S 1 4) ∧ (0 ≤ d ∧ d ≤ 363) ∧ (0 ≤ y ∧ y ≤ 599) then (if S 5 (11 * c + 5).toNat = -9 then -3 else ff_cn (ff_whp S c d y) (ff_yrs S c) (S 5 (11 * c + 3).toNat)) else -1
def ff_b2 (b : Bool) : Int := if b = true then 1 else 0
def ff_sn (p q : Int → Bool) : Nat → Int → Int → Int → Int → Int
  | 0, _, _, _, s => s
  | n + 1, b, m, z, s => if z < m + ff_b2 (p b) - ff_b2 (q b) then ff_sn p q n (b + 1) (m + ff_b2 (p b) - ff_b2 (q b)) (m + ff_b2 (p b) - ff_b2 (q b)) (b + 1) else ff_sn p q n (b + 1) (m + ff_b2 (p b) - ff_b2 (q b)) z s
def op_since (S : ff_S) (c d : Int) : Int := if (0 ≤ c ∧ c < S 1 4) ∧ (0 ≤ d ∧ d ≤ 363) then (if S 5 (11 * c + 5).toNat = -9 then -3 else ff_sn (ff_dhit S c (S 5 (11 * c + 5).toNat)) (ff_dhit S c d) (ff_yrs S c) (S 5 (11 * c + 3).toNat) 0 0 0) else -1
def op_choir (S : ff_S) (c l f t : Int) : Int := if (0 ≤ c ∧ c < S 1 4) ∧ (0 ≤ l ∧ l ≤ 359) ∧ (0 ≤ f ∧ f ≤ 599) ∧ (0 ≤ t ∧ t ≤ 599) then (if 0 ≤ t - f ∧ t - f ≤ 60 then (if S 5 (11 * c + 4).toNat < f then S 5 (11 * c + 8).toNat else -3) else -2) else -1
def op_choir_s (S : ff_S) (c l f t : Int) : ff_S := if ((0 ≤ c ∧ c < S 1 4) ∧ (0 ≤ l ∧ l ≤ 359) ∧ (0 ≤ f ∧ f ≤ 599) ∧ (0 ≤ t ∧ t ≤ 599)) ∧ (0 ≤ t - f ∧ t - f ≤ 60) ∧ S 5 (11 * c + 4).toNat < f then ez_up (ez_up (ez_up S 5 (11 * c + 9).toNat f) 5 (11 * c + 10).toNat t) 5 (11 * c + 8).toNat l else S
def op_keep (S : ff_S) (k : Int) : Int := if 0 ≤ k ∧ k ≤ 1 then S 1 4 else -1
def op_keep_s (S : ff_S) (k : Int) : ff_S :=
  if k = 0 then (fun r j => if r = 7 then (if j < 110 then S 5 j else 0) else if r = 9 ∧ j = 0 then S 1 4 else if r = 9 ∧ j = 2 then 1 else S r j)
  else if k = 1 then (fun r j => if r = 8 then (if j < 110 then S 5 j else 0) else if r = 9 ∧ j = 1 then S 1 4 else if r = 9 ∧ j = 3 then 1 else S r j)
  else S
def op_again (S : ff_S) (k : Int) : Int := if k = 0 then (if S 9 2 = 0 then -3 else S 9 0) else if k = 1 then (if S 9 3 = 0 then -3 else S 9 1) else -1
def op_again_s (S : ff_S) (k : Int) : ff_S :=
  if k = 0 then (if S 9 2 = 0 then S else (fun r j => if r = 5 then (if j < 110 then S 7 j else S 5 j) else if r = 1 ∧ j = 4 then S 9 0 else S r j))
  else if k = 1 then (if S 9 3 = 0 then S else (fun r j => if r = 5 then (if j < 110 then S 8 j else S 5 j) else if r = 1 ∧ j = 4 then S 9 1 else S r j))
  else S
def ff_dt (p : Int → Bool) (w : Int) : Nat → Int → Int → Int → Int → Int → Int
  | 0, _, m, f, l, s => if w = 0 then m else if w = 1 then f else if w = 2 then l else s
  | n + 1, y, m, f, l, s => if p y = true then ff_dt p w n (y + 1) (m + 1) (if m = 0 then y else f) y (if m = 0 ∨ l < y - 1 then s + 1 else s) else ff_dt p w n (y + 1) m f l s
def op_dated (S : ff_S) (c w : Int) : Int := if 0 ≤ c ∧ c < S 1 4 then (if 0 ≤ w ∧ w ≤ 3 then ff_dt (ff_hit S 2 c) w 600 0 0 (-9) (-9) 0 else -2) else -1
def sp_X5_days : ez_Sp := fun as M Q => match as with | [.inr (.inr q), .inl c] => q = 0 ∧ ff_Inv (ff_X M) ∧ (∀ M' : ez_M, ff_X M' = ff_X M → Q (some (.inl (op_days (ff_X M) c))) M') | _ => False
def e_X5_days : ez_E := (fl_X5, co_X5, [(133, 1+1, 1, sp_X1_has), (180, 5+1, 2, sp_X5_isDayOfLine)], 0, 4)
set_option maxHeartbeats 4000000 in
set_option maxRecDepth 100000 in
theorem b_X5_days : ez_Body LX e_X5_days p_X5_days sp_X5_days := by
  intro as M Q has hM hsp
  unfold sp_X5_days at hsp
  split at hsp
  rotate_left
  · exact hsp.elim
  rename_i q c
  have g_c : -2147483648 ≤ c ∧ c ≤ 2147483647 := ez_hd (ez_tl (has))
  obtain ⟨rfl, hI, hsp⟩ := hsp
  have hn := ff_n_X hI
  have hsp := hsp M rfl
  unfold op_days at hsp
  by_cases h1 : 0 ≤ c ∧ c < ff_X M 1 4
  · have h1m : 0 ≤ c ∧ c < M 7 1 := h1
    rw [if_pos h1] at hsp
    refine ⟨Nat.le_of_ble_eq_true rfl, fun cut hcut hkut => ?_⟩
    generalize hA : ff_cn (ff_dol (ff_X M) c) 364 0 = A at hsp
    have loop : ∀ (n : Nat) (y z : Int), y + n = 364 → 0 ≤ y → 0 ≤ z → z ≤ y → z + ff_cn (ff_dol (ff_X M) c) n y = A → cut 17 [(0, .inr (.inr 0)), (1, .inl c), (2, .inl z), (3, .inl y)] [] M := by
      intro n
      induction n with
      | zero =>
        intro y z hy h0 hz0 hz1 hq
        refine hkut [(17, [0, 1, 2, 3])] 60 17 _ _ _ ?_
        simp only [ff_cn, Int.add_zero] at hq
        repeat' (first | (intro hh; exfalso; omega) | (refine And.intro (by first | assumption | omega) ?_) | (refine And.intro rfl ?_) | (refine And.intro ?_ ?_) | (intro qq hq1 hq2 hq3; have hq4 := hq2 (by omega) (by omega); subst hq4) | (intro hh) | omega | exact trivial)
        all_goals exact ez_ret hsp hq
      | succ n ih =>
        intro y z hy h0 hz0 hz1 hq
        refine hkut [(17, [0, 1, 2, 3])] 60 17 _ _ _ ?_
        simp only [ff_cn] at hq
        split at hq
        · rename_i hp
          repeat' (first | (intro hh; exfalso; omega) | (refine And.intro (by first | assumption | omega) ?_) | (refine And.intro rfl ?_) | (refine And.intro ?_ ?_) | (intro qq hq1 hq2 hq3; have hq4 := hq2 (by omega) (by omega); subst hq4) | (intro hh) | omega | exact trivial)
          all_goals first | exact ih (y + 1) (z + 1) (by omega) (by omega) (by omega) (by omega) (by omega) | (rename_i hz; rw [hp] at hz; cases hz; done)
        · rename_i hp
          repeat' (first | (intro hh; exfalso; omega) | (refine And.intro (by first | assumption | omega) ?_) | (refine And.intro rfl ?_) | (refine And.intro ?_ ?_) | (intro qq hq1 hq2 hq3; have hq4 := hq2 (by omega) (by omega); subst hq4) | (intro hh) | omega | exact trivial)
          all_goals first | exact absurd (by assumption) hp | exact ih (y + 1) z (by omega) (by omega) (by omega) (by omega) (by omega)
    refine hkut [(17, [0, 1, 2, 3])] 60 0 _ _ _ ?_
    repeat' (first | (intro hh; exfalso; omega) | (refine And.intro (by first | assumption | omega) ?_) | (refine And.intro rfl ?_) | (refine And.intro ?_ ?_) | (intro qq hq1 hq2 hq3; have hq4 := hq2 (by omega) (by omega); subst hq4) | (intro hh) | omega | exact trivial)
    all_goals exact loop 364 0 0 (by omega) (by omega) (by omega) (by omega) (by rw [hA]; omega)
  · have h1m : ¬ (0 ≤ c ∧ c < M 7 1) := h1
    rw [if_neg h1] at hsp
    refine ⟨Nat.le_of_ble_eq_true rfl, fun cut hcut hkut => hcut [] 60 0 _ _ _ ?_⟩
    repeat' (first | (intro hh; exfalso; omega) | (refine And.intro (by first | assumption | omega) ?_) | (refine And.intro rfl ?_) | (refine And.intro ?_ ?_) | (intro qq hq1 hq2 hq3; have hq4 := hq2 (by omega) (by omega); subst hq4) | (intro hh) | omega | exact trivial)
    all_goals exact hsp
theorem so_X5_days : ez_Sound LX yX5_days cX5_days 4 (some .int) 4 sp_X5_days := ez_sound (E := e_X5_days) (prog := p_X5_days) LX_ok (by decide +kernel) rfl (fun _ h => h) fo_X5 co_X5_ok (List.forall_mem_cons.mpr ⟨k_X5_133 (by decide), List.forall_mem_cons.mpr ⟨k_X5_180 (by decide), fun _ h => absurd h List.not_mem_nil⟩⟩) dp_X5_days b_X5_days
theorem k_X5_172 {d : Nat} (h : 0 < d) : ez_CallOK LX RX5 d (172, 0, 1, sp_J6_bitCount_0f7a4) := ez_callS (y := yJ6_bitCount_0f7a4) (bytes := cJ6_bitCount_0f7a4) so_J6_bitCount_0f7a4 h (by decide) q_465 q_80 ⟨by decide +kernel, by decide +kernel, by decide +kernel⟩ (Or.inl q_463) q_464
def sp_X5_look : ez_Sp := fun as M Q => match as with | [.inr (.inr q)] => q = 0 ∧ ff_Inv (ff_X M) ∧ (∀ M' : ez_M, ff_X M' = ff_X M → Q (some (.inl (op_look (ff_X M)))) M') | _ => False
def e_X5_look : ez_E := (fl_X5, co_X5, [(154, 5+1, 1, sp_X5_rulesThatExplain), (172, 0, 1, sp_J6_bitCount_0f7a4)], 0, 5)
set_option maxHeartbeats 4000000 in
set_option maxRecDepth 100000 in
theorem b_X5_look : ez_Body LX e_X5_look p_X5_look sp_X5_look := by
  intro as M Q has hM hsp
  unfold sp_X5_look at hsp
  split at hsp
  rotate_left
  · exact hsp.elim
  rename_i q
  obtain ⟨rfl, hI, hsp⟩ := hsp
  have hn := ff_n_X hI
  have hsp := hsp M rfl
  refine ⟨Nat.le_of_ble_eq_true rfl, fun cut hcut hkut => ?_⟩
  have loop : ∀ (n : Nat) (c f z : Int), c + n = M 7 1 → 0 ≤ c → Q (some (.inl (ff_lk (ff_X M) n c f z))) M → cut 7 [(0, .inr (.inr 0)), (1, .inl f), (2, .inl z), (3, .inl c)] [] M := by
    intro n
    induction n with
    | zero =>
      intro c f z hc h0 hq
      refine hkut [(7, [0, 1, 2, 3])] 60 7 _ _ _ ?_
      repeat' (first | (intro hh; exfalso; omega) | (refine And.intro (by first | assumption | omega) ?_) | (refine And.intro rfl ?_) | (refine And.intro ?_ ?_) | (intro qq hq1 hq2 hq3; have hq4 := hq2 (by omega) (by omega); subst hq4) | (intro hh) | omega | exact trivial)
      all_goals exact hq
    | succ n ih =>
      intro c f z hc h0 hq
      have hr := ff_rules_r (ff_X M) c
      simp only [ff_lk] at hq
      refine hkut [(7, [0, 1, 2, 3])] 60 7 _ _ _ ?_
      split at hq
      · (repeat' (first | (intro hh; exfalso; omega) | (refine And.intro (by first | assumption | omega) ?_) | (refine And.intro rfl ?_) | (refine And.intro ?_ ?_) | (intro qq hq1 hq2 hq3; have hq4 := hq2 (by omega) (by omega); subst hq4) | (intro hh) | omega | exact trivial))
        all_goals exact ih _ _ _ (by omega) (by omega) hq
      · (repeat' (first | (intro hh; exfalso; omega) | (refine And.intro (by first | assumption | omega) ?_) | (refine And.intro rfl ?_) | (refine And.intro ?_ ?_) | (intro qq hq1 hq2 hq3; have hq4 := hq2 (by omega) (by omega); subst hq4) | (intro hh) | omega | exact trivial))
        all_goals exact ih _ _ _ (by omega) (by omega) hq
  refine hkut [(7, [0, 1, 2, 3])] 60 0 _ _ _ ?_
  exact loop (M 7 1).toNat 0 (-9) (-1) (by omega) (by omega) hsp
theorem so_X5_look : ez_Sound LX yX5_look cX5_look 5 (some .int) 6 sp_X5_look := ez_sound (E := e_X5_look) (prog := p_X5_look) LX_ok (by decide +kernel) rfl (fun _ h => h) fo_X5 co_X5_ok (List.forall_mem_cons.mpr ⟨k_X5_154 (by decide), List.forall_mem_cons.mpr ⟨k_X5_172 (by decide), fun _ h => absurd h List.not_mem_nil⟩⟩) dp_X5_look b_X5_look
def sp_X5_countUnexplained : ez_Sp := fun as M Q => match as with | [.inr (.inr q)] => q = 0 ∧ ff_Inv (ff_X M) ∧ Q (some (.inl (ff_une (ff_X M)))) M | _ => False
def e_X5_countUnexplained : ez_E := (fl_X5, co_X5, [(154, 5+1, 1, sp_X5_rulesThatExplain)], 0, 3)
set_option maxHeartbeats 4000000 in
set_option maxRecDepth 100000 in
theorem b_X5_countUnexplained : ez_Body LX e_X5_countUnexplained p_X5_countUnexplained sp_X5_countUnexplained := by
  intro as M Q has hM hsp
  unfold sp_X5_countUnexplained at hsp
  split at hsp
  rotate_left
  · exact hsp.elim
  rename_i q
  obtain ⟨rfl, hI, hsp⟩ := hsp
  have hn := ff_n_X hI
  refine ⟨Nat.le_of_ble_eq_true rfl, fun cut hcut hkut => ?_⟩
  have loop : ∀ (n : Nat) (y z : Int), y + n = M 7 1 → 0 ≤ y → 0 ≤ z → z ≤ y → Q (some (.inl (z + ff_cn (fun c => decide (ff_rules (ff_X M) c = 0)) n y))) M → cut 4 [(0, .inr (.inr 0)), (1, .inl z), (2, .inl y)] [] M := by
    intro n
    induction n with
    | zero =>
      intro y z hy h0 hz0 hz1 hq
      refine hkut [(4, [0, 1, 2])] 60 4 _ _ _ ?_
      simp only [ff_cn, Int.add_zero] at hq
      repeat' (first | (intro hh; exfalso; omega) | (refine And.intro (by first | assumption | omega) ?_) | (refine And.intro rfl ?_) | (refine And.intro ?_ ?_) | (intro qq hq1 hq2 hq3; have hq4 := hq2 (by omega) (by omega); subst hq4) | (intro hh) | omega | exact trivial)
      all_goals exact hq
    | succ n ih =>
      intro y z hy h0 hz0 hz1 hq
      refine hkut [(4, [0, 1, 2])] 60 4 _ _ _ ?_
      simp only [ff_cn, decide_eq_true_eq] at hq
      split at hq
      · (repeat' (first | (intro hh; exfalso; omega) | (refine And.intro (by first | assumption | omega) ?_) | (refine And.intro rfl ?_) | (refine And.intro ?_ ?_) | (intro qq hq1 hq2 hq3; have hq4 := hq2 (by omega) (by omega); subst hq4) | (intro hh) | omega | exact trivial))
        all_goals exact ih (y + 1) (z + 1) (by omega) (by omega) (by omega) (by omega) (ez_ret hq (by omega))
      · (repeat' (first | (intro hh; exfalso; omega) | (refine And.intro (by first | assumption | omega) ?_) | (refine And.intro rfl ?_) | (refine And.intro ?_ ?_) | (intro qq hq1 hq2 hq3; have hq4 := hq2 (by omega) (by omega); subst hq4) | (intro hh) | omega | exact trivial))
        all_goals exact ih (y + 1) z (by omega) (by omega) (by omega) (by omega) (ez_ret hq (by omega))
  refine hkut [(4, [0, 1, 2])] 60 0 _ _ _ ?_
  exact loop (M 7 1).toNat 0 0 (by omega) (by omega) (by omega) (by omega) (ez_ret hsp (by rw [Int.zero_add]; rfl))
theorem so_X5_countUnexplained : ez_Sound LX yX5_countUnexplained cX5_countUnexplained 3 (some .int) 6 sp_X5_countUnexplained := ez_sound (E := e_X5_countUnexplained) (prog := p_X5_countUnexplained) LX_ok (by decide +kernel) rfl (fun _ h => h) fo_X5 co_X5_ok (List.forall_mem_cons.mpr ⟨k_X5_154 (by decide), fun _ h => absurd h List.not_mem_nil⟩) dp_X5_countUnexplained b_X5_countUnexplained
theorem k_X5_236 {d : Nat} (h : 3 < d) : ez_CallOK LX RX5 d (236, 1+1, 1, sp_X1_countWith) := ez_callV (y := yX1_countWith) (bytes := cX1_countWith) so_X1_countWith h (by decide) q_654 q_75 ⟨by decide +kernel, by decide +kernel, by decide +kernel⟩ (Or.inr ⟨"EastNearly", q_651⟩) q_653 q_45 (T := TX1) (N := 3) rfl
theorem k_X5_239 {d : Nat} (h : 6 < d) : ez_CallOK LX RX5 d (239, 5+1, 0, sp_X5_countUnexplained) := ez_callV (y := yX5_countUnexplained) (bytes := cX5_countUnexplained) so_X5_countUnexplained h (by decide) q_659 q_72 ⟨by decide +kernel, by decide +kernel, by decide +kernel⟩ (Or.inl q_656) q_658 q_46 (T := TX5) (N := 10) rfl
def sp_X5_count : ez_Sp := fun as M Q => match as with | [.inr (.inr q), .inl w] => q = 0 ∧ ff_Inv (ff_X M) ∧ (∀ M' : ez_M, ff_X M' = ff_X M → Q (some (.inl (op_count (ff_X M) w))) M') | _ => False
def e_X5_count : ez_E := (fl_X5, co_X5, [(236, 1+1, 1, sp_X1_countWith), (239, 5+1, 0, sp_X5_countUnexplained)], 0, 2)
set_option maxHeartbeats 4000000 in
set_option maxRecDepth 100000 in
theorem b_X5_count : ez_Body LX e_X5_count p_X5_count sp_X5_count := by
  intro as M Q has hM hsp
  unfold sp_X5_count at hsp
  split at hsp
  rotate_left
  · exact hsp.elim
  rename_i q w
  have g_w : -2147483648 ≤ w ∧ w ≤ 2147483647 := ez_hd (ez_tl (has))
  obtain ⟨rfl, hI, hsp⟩ := hsp
  have hn := ff_n_X hI
  have hsp := hsp M rfl
  unfold op_count at hsp
  refine ⟨Nat.le_of_ble_eq_true rfl, fun cut hcut hkut => hcut [] 60 0 _ _ _ ?_⟩
  by_cases h0 : w = 0
  · subst h0
    rw [if_pos rfl] at hsp
    repeat' (first | (intro hh; exfalso; omega) | (refine And.intro (by first | assumption | omega) ?_) | (refine And.intro rfl ?_) | (refine And.intro ?_ ?_) | (intro qq hq1 hq2 hq3; have hq4 := hq2 (by omega) (by omega); subst hq4) | (intro hh) | omega | exact trivial)
    all_goals exact hsp
  · rw [if_neg h0] at hsp
    by_cases h1 : w = 1
    · subst h1
      rw [if_pos rfl] at hsp
      repeat' (first | (intro hh; exfalso; omega) | (refine And.intro (by first | assumption | omega) ?_) | (refine And.intro rfl ?_) | (refine And.intro ?_ ?_) | (intro qq hq1 hq2 hq3; have hq4 := hq2 (by omega) (by omega); subst hq4) | (intro hh) | omega | exact trivial)
      all_goals exact hsp
    · rw [if_neg h1] at hsp
      by_cases h2 : w = 2
      · subst h2
        rw [if_pos rfl] at hsp
        repeat' (first | (intro hh; exfalso; omega) | (refine And.intro (by first | assumption | omega) ?_) | (refine And.intro rfl ?_) | (refine And.intro ?_ ?_) | (intro qq hq1 hq2 hq3; have hq4 := hq2 (by omega) (by omega); subst hq4) | (intro hh) | omega | exact trivial)
        all_goals exact hsp
      · rw [if_neg h2] at hsp
        by_cases h3 : w = 3
        · subst h3
          rw [if_pos rfl] at hsp
          repeat' (first | (intro hh; exfalso; omega) | (refine And.intro (by first | assumption | omega) ?_) | (refine And.intro rfl ?_) | (refine And.intro ?_ ?_) | (intro qq hq1 hq2 hq3; have hq4 := hq2 (by omega) (by omega); subst hq4) | (intro hh) | omega | exact trivial)
          all_goals exact hsp
        · rw [if_neg h3] at hsp
          by_cases h4 : w = 4
          · subst h4
            rw [if_pos rfl] at hsp
            repeat' (first | (intro hh; exfalso; omega) | (refine And.intro (by first | assumption | omega) ?_) | (refine And.intro rfl ?_) | (refine And.intro ?_ ?_) | (intro qq hq1 hq2 hq3; have hq4 := hq2 (by omega) (by omega); subst hq4) | (intro hh) | omega | exact trivial)
            all_goals exact hsp
          · rw [if_neg h4] at hsp
            by_cases h5 : w = 5
            · subst h5
              rw [if_pos rfl] at hsp
              repeat' (first | (intro hh; exfalso; omega) | (refine And.intro (by first | assumption | omega) ?_) | (refine And.intro rfl ?_) | (refine And.intro ?_ ?_) | (intro qq hq1 hq2 hq3; have hq4 := hq2 (by omega) (by omega); subst hq4) | (intro hh) | omega | exact trivial)
              all_goals exact hsp
            · rw [if_neg h5] at hsp
              repeat' (first | (intro hh; exfalso; omega) | (refine And.intro (by first | assumption | omega) ?_) | (refine And.intro rfl ?_) | (refine And.intro ?_ ?_) | (intro qq hq1 hq2 hq3; have hq4 := hq2 (by omega) (by omega); subst hq4) | (intro hh) | omega | exact trivial)
              all_goals exact hsp
theorem so_X5_count : ez_Sound LX yX5_count cX5_count 2 (some .int) 7 sp_X5_count := ez_sound (E := e_X5_count) (prog := p_X5_count) LX_ok (by decide +kernel) rfl (fun _ h => h) fo_X5 co_X5_ok (List.forall_mem_cons.mpr ⟨k_X5_236 (by decide), List.forall_mem_cons.mpr ⟨k_X5_239 (by decide), fun _ h => absurd h List.not_mem_nil⟩⟩) dp_X5_count b_X5_count
def sp_X5_hit : ez_Sp := fun as M Q => match as with | [.inr (.inr q), .inl r, .inl c, .inl i] => q = 0 ∧ ff_Inv (ff_X M) ∧ (∀ M' : ez_M, ff_X M' = ff_X M → Q (some (.inl (op_hit (ff_X M) r c i))) M') | _ => False
def e_X5_hit : ez_E := (fl_X5, co_X5, [(142, 0, 1, sp_X5_isRule), (133, 1+1, 1, sp_X1_has), (139, 1+1, 2, sp_X1_get), (151, 5+1, 3, sp_X5_ruleHits)], 0, 7)
set_option maxHeartbeats 4000000 in
set_option maxRecDepth 100000 in
theorem b_X5_hit : ez_Body LX e_X5_hit p_X5_hit sp_X5_hit := by
  intro as M Q has hM hsp
  unfold sp_X5_hit at hsp
  split at hsp
  rotate_left
  · exact hsp.elim
  rename_i q r c i
  have g_r : -2147483648 ≤ r ∧ r ≤ 2147483647 := ez_hd (ez_tl (has))
  have g_c : -2147483648 ≤ c ∧ c ≤ 2147483647 := ez_hd (ez_tl (ez_tl (has)))
  have g_i : -2147483648 ≤ i ∧ i ≤ 2147483647 := ez_hd (ez_tl (ez_tl (ez_tl (has))))
  obtain ⟨rfl, hI, hsp⟩ := hsp
  have hn := ff_n_X hI
  have hsp := hsp M rfl
  unfold op_hit at hsp
  by_cases h1 : (0 ≤ r ∧ r ≤ 5) ∧ (0 ≤ c ∧ c < ff_X M 1 4)
  · have h1m : (0 ≤ r ∧ r ≤ 5) ∧ (0 ≤ c ∧ c < M 7 1) := h1
    rw [if_pos h1] at hsp
    have hc := ff_ch_X hI (c := c) h1.2.1 h1.2.2
    unfold ff_ch at hc
    refine ⟨Nat.le_of_ble_eq_true rfl, fun cut hcut hkut => ?_⟩
    have loop : ∀ (n : Nat) (y a : Int), y + n = M 8 (11 * c + 4).toNat + 1 → 0 ≤ y → 0 ≤ a → a + n ≤ 61 → Q (some (.inl (ff_it (ff_hit (ff_X M) r c) i n y a))) M → cut 45 [(0, .inr (.inr 0)), (1, .inl r), (2, .inl c), (3, .inl i), (4, .inl a), (5, .inl (M 8 (11 * c + 4).toNat)), (6, .inl y)] [] M := by
      intro n
      induction n with
      | zero =>
        intro y a hy h0 ha0 ha1 hq
        refine hkut [(45, [0, 1, 2, 3, 4, 5, 6])] 60 45 _ _ _ ?_
        repeat' (first | (intro hh; exfalso; omega) | (refine And.intro (by first | assumption | omega) ?_) | (refine And.intro rfl ?_) | (refine And.intro ?_ ?_) | (intro qq hq1 hq2 hq3; have hq4 := hq2 (by omega) (by omega); subst hq4) | (intro hh) | omega | exact trivial)
        all_goals exact hq
      | succ n ih =>
        intro y a hy h0 ha0 ha1 hq
        refine hkut [(45, [0, 1, 2, 3, 4, 5, 6])] 60 45 _ _ _ ?_
        simp only [ff_it] at hq
        split at hq
        · rename_i hp
          split at hq
          · (repeat' (first | (intro hh; exfalso; omega) | (refine And.intro (by first | assumption | omega) ?_) | (refine And.intro rfl ?_) | (refine And.intro ?_ ?_) | (intro qq hq1 hq2 hq3; have hq4 := hq2 (by omega) (by omega); subst hq4) | (intro hh) | omega | exact trivial))
            all_goals first | exact hq | (rename_i hz; rw [hp] at hz; cases hz; done)
          · (repeat' (first | (intro hh; exfalso; omega) | (refine And.intro (by first | assumption | omega) ?_) | (refine And.intro rfl ?_) | (refine And.intro ?_ ?_) | (intro qq hq1 hq2 hq3; have hq4 := hq2 (by omega) (by omega); subst hq4) | (intro hh) | omega | exact trivial))
            all_goals first | exact ih (y + 1) (a + 1) (by omega) (by omega) (by omega) (by omega) hq | (rename_i hz; rw [hp] at hz; cases hz; done)
        · rename_i hp
          repeat' (first | (intro hh; exfalso; omega) | (refine And.intro (by first | assumption | omega) ?_) | (refine And.intro rfl ?_) | (refine And.intro ?_ ?_) | (intro qq hq1 hq2 hq3; have hq4 := hq2 (by omega) (by omega); subst hq4) | (intro hh) | omega | exact trivial)
          all_goals first | exact absurd (by assumption) hp | exact ih (y + 1) a (by omega) (by omega) (by omega) (by omega) hq
    refine hkut [(45, [0, 1, 2, 3, 4, 5, 6])] 60 0 _ _ _ ?_
    repeat' (first | (intro hh; exfalso; omega) | (refine And.intro (by first | assumption | omega) ?_) | (refine And.intro rfl ?_) | (refine And.intro ?_ ?_) | (intro qq hq1 hq2 hq3; have hq4 := hq2 (by omega) (by omega); subst hq4) | (intro hh) | omega | exact trivial)
    all_goals exact loop (M 8 (11 * c + 4).toNat - M 8 (11 * c + 3).toNat + 1).toNat _ 0 (by omega) (by omega) (by omega) (by omega) hsp
  · have h1m : ¬ ((0 ≤ r ∧ r ≤ 5) ∧ (0 ≤ c ∧ c < M 7 1)) := h1
    rw [if_neg h1] at hsp
    refine ⟨Nat.le_of_ble_eq_true rfl, fun cut hcut hkut => hcut [] 60 0 _ _ _ ?_⟩
    repeat' (first | (intro hh; exfalso; omega) | (refine And.intro (by first | assumption | omega) ?_) | (refine And.intro rfl ?_) | (refine And.intro ?_ ?_) | (intro qq hq1 hq2 hq3; have hq4 := hq2 (by omega) (by omega); subst hq4) | (intro hh) | omega | exact trivial)
    all_goals exact hsp
theorem so_X5_hit : ez_Sound LX yX5_hit cX5_hit 7 (some .int) 5 sp_X5_hit := ez_sound (E := e_X5_hit) (prog := p_X5_hit) LX_ok (by decide +kernel) rfl (fun _ h => h) fo_X5 co_X5_ok (List.forall_mem_cons.mpr ⟨k_X5_142 (by decide), List.forall_mem_cons.mpr ⟨k_X5_133 (by decide), List.forall_mem_cons.mpr ⟨k_X5_139 (by decide), List.forall_mem_cons.mpr ⟨k_X5_151 (by decide), fun _ h => absurd h List.not_mem_nil⟩⟩⟩⟩) dp_X5_hit b_X5_hit
def sp_X5_why : ez_Sp := fun as M Q => match as with | [.inr (.inr q), .inl c] => q = 0 ∧ ff_Inv (ff_X M) ∧ (∀ M' : ez_M, ff_X M' = ff_X M → Q (some (.inl (op_why (ff_X M) c))) M') | _ => False
def e_X5_why : ez_E := (fl_X5, co_X5, [(133, 1+1, 1, sp_X1_has), (211, 1+1, 2, sp_X1_knows), (214, 5+1, 5, sp_X5_explains)], 0, 4)
set_option maxHeartbeats 4000000 in
set_option maxRecDepth 100000 in
theorem b_X5_why : ez_Body LX e_X5_why p_X5_why sp_X5_why := by
  intro as M Q has hM hsp
  unfold sp_X5_why at hsp
  split at hsp
  rotate_left
  · exact hsp.elim
  rename_i q c
  have g_c : -2147483648 ≤ c ∧ c ≤ 2147483647 := ez_hd (ez_tl (has))
  obtain ⟨rfl, hI, hsp⟩ := hsp
  have hn := ff_n_X hI
  have hsp := hsp M rfl
  unfold op_why at hsp
  by_cases h1 : 0 ≤ c ∧ c < ff_X M 1 4
  · have h1m : 0 ≤ c ∧ c < M 7 1 := h1
    rw [if_pos h1] at hsp
    by_cases h2 : ff_X M 5 (11 * c + 8).toNat = -9
    · have h2m : M 8 (11 * c + 8).toNat = -9 := h2
      rw [if_pos h2] at hsp
      refine ⟨Nat.le_of_ble_eq_true rfl, fun cut hcut hkut => hcut [] 60 0 _ _ _ ?_⟩
      repeat' (first | (intro hh; exfalso; omega) | (refine And.intro (by first | assumption | omega) ?_) | (refine And.intro rfl ?_) | (refine And.intro ?_ ?_) | (intro qq hq1 hq2 hq3; have hq4 := hq2 (by omega) (by omega); subst hq4) | (intro hh) | omega | exact trivial)
      all_goals exact hsp
    · have h2m : ¬ M 8 (11 * c + 8).toNat = -9 := h2
      rw [if_neg h2] at hsp
      refine ⟨Nat.le_of_ble_eq_true rfl, fun cut hcut hkut => ?_⟩
      have loop : ∀ (n : Nat) (r : Int), r + n = 6 → 0 ≤ r → Q (some (.inl (ff_wy (ff_X M) c n r))) M → cut 31 [(0, .inr (.inr 0)), (1, .inl c), (2, .inl r)] [] M := by
        intro n
        induction n with
        | zero =>
          intro r hr h0 hq
          refine hkut [(31, [0, 1, 2])] 60 31 _ _ _ ?_
          repeat' (first | (intro hh; exfalso; omega) | (refine And.intro (by first | assumption | omega) ?_) | (refine And.intro rfl ?_) | (refine And.intro ?_ ?_) | (intro qq hq1 hq2 hq3; have hq4 := hq2 (by omega) (by omega); subst hq4) | (intro hh) | omega | exact trivial)
          all_goals exact hq
        | succ n ih =>
          intro r hr h0 hq
          simp only [ff_wy] at hq
          refine hkut [(31, [0, 1, 2])] 60 31 _ _ _ ?_
          cases ha : ff_exl (ff_X M) r c 8 9 10
          · rw [if_neg (fun z => by rw [ha] at z; cases z.1)] at hq
            repeat' (first | (intro hh; exfalso; omega) | (refine And.intro (by first | assumption | omega) ?_) | (refine And.intro rfl ?_) | (refine And.intro ?_ ?_) | (intro qq hq1 hq2 hq3; have hq4 := hq2 (by omega) (by omega); subst hq4) | (intro hh) | omega | exact trivial)
            all_goals first | exact ih (r + 1) (by omega) (by omega) hq | (exfalso; simp_all; done)
          · cases hb : ff_exl (ff_X M) r c 1 3 4
            · rw [if_pos ⟨ha, hb⟩] at hq
              repeat' (first | (intro hh; exfalso; omega) | (refine And.intro (by first | assumption | omega) ?_) | (refine And.intro rfl ?_) | (refine And.intro ?_ ?_) | (intro qq hq1 hq2 hq3; have hq4 := hq2 (by omega) (by omega); subst hq4) | (intro hh) | omega | exact trivial)
              all_goals first | exact hq | (exfalso; simp_all; done)
            · rw [if_neg (fun z => by rw [hb] at z; cases z.2)] at hq
              repeat' (first | (intro hh; exfalso; omega) | (refine And.intro (by first | assumption | omega) ?_) | (refine And.intro rfl ?_) | (refine And.intro ?_ ?_) | (intro qq hq1 hq2 hq3; have hq4 := hq2 (by omega) (by omega); subst hq4) | (intro hh) | omega | exact trivial)
              all_goals first | exact ih (r + 1) (by omega) (by omega) hq | (exfalso; simp_all; done)
      refine hkut [(31, [0, 1, 2])] 60 0 _ _ _ ?_
      repeat' (first | (intro hh; exfalso; omega) | (refine And.intro (by first | assumption | omega) ?_) | (refine And.intro rfl ?_) | (refine And.intro ?_ ?_) | (intro qq hq1 hq2 hq3; have hq4 := hq2 (by omega) (by omega); subst hq4) | (intro hh) | omega | exact trivial)
      all_goals exact loop 6 0 (by omega) (by omega) hsp
  · have h1m : ¬ (0 ≤ c ∧ c < M 7 1) := h1
    rw [if_neg h1] at hsp
    refine ⟨Nat.le_of_ble_eq_true rfl, fun cut hcut hkut => hcut [] 60 0 _ _ _ ?_⟩
    repeat' (first | (intro hh; exfalso; omega) | (refine And.intro (by first | assumption | omega) ?_) | (refine And.intro rfl ?_) | (refine And.intro ?_ ?_) | (intro qq hq1 hq2 hq3; have hq4 := hq2 (by omega) (by omega); subst hq4) | (intro hh) | omega | exact trivial)
    all_goals exact hsp
theorem so_X5_why : ez_Sound LX yX5_why cX5_why 4 (some .int) 5 sp_X5_why := ez_sound (E := e_X5_why) (prog := p_X5_why) LX_ok (by decide +kernel) rfl (fun _ h => h) fo_X5 co_X5_ok (List.forall_mem_cons.mpr ⟨k_X5_133 (by decide), List.forall_mem_cons.mpr ⟨k_X5_211 (by decide), List.forall_mem_cons.mpr ⟨k_X5_214 (by decide), fun _ h => absurd h List.not_mem_nil⟩⟩⟩) dp_X5_why b_X5_why
