/-! ===== fractions ===== -/
def ff_gcd (a b : Int) : Int := ((Nat.gcd a.toNat b.toNat : Nat) : Int)
theorem ff_gcd_0 {a : Int} (h : 0 ≤ a) : ff_gcd a 0 = a := by
  unfold ff_gcd
  rw [show (0 : Int).toNat = 0 from rfl, Nat.gcd_zero_right]
  omega
theorem ff_gcd_s {a b : Int} (ha : 0 ≤ a) (hb : 0 ≤ b) : ff_gcd b (a % b) = ff_gcd a b := by
  unfold ff_gcd
  rw [Int.toNat_emod ha hb, Nat.gcd_comm b.toNat, ← Nat.gcd_rec, Nat.gcd_comm]
theorem ff_gcd_pos {a b : Int} (hb : 0 < b) : 0 < ff_gcd a b := by
  unfold ff_gcd
  have := Nat.gcd_pos_of_pos_right a.toNat (n := b.toNat) (by omega)
  omega
theorem ff_gcd_le {a b : Int} (hb : 0 < b) : ff_gcd a b ≤ b := by
  unfold ff_gcd
  have := Nat.gcd_le_right a.toNat (n := b.toNat) (by omega)
  omega
def ff_lt (a b up : Int) : Int := if up = 0 then b / ff_gcd a b else a / ff_gcd a b
/-- two steps of Euclid's halve the smaller one -/
theorem ff_half {y r : Int} (h0 : 0 < r) (h1 : r < y) : y % r < r ∧ 0 ≤ y % r ∧ 2 * (y % r) < y := by
  have a1 := Int.emod_lt_of_pos y h0
  have a2 := Int.emod_nonneg y (by omega : r ≠ 0)
  refine ⟨a1, a2, ?_⟩
  have e := Int.emod_add_mul_ediv y r
  have hq : 1 ≤ y / r := by
    rw [Int.le_ediv_iff_mul_le h0]
    omega
  have hm : r * 1 ≤ r * (y / r) := Int.mul_le_mul_of_nonneg_left hq (by omega)
  omega
def sp_X5_greatestDivisor : ez_Sp := fun as M Q => match as with | [.inr (.inl a), .inr (.inl b)] => (0 ≤ a ∧ 0 ≤ b ∧ b < 562949953421312) ∧ Q (some (.inr (.inl (ff_gcd a b)))) M | _ => False
def e_X5_greatestDivisor : ez_E := (fl_X5, co_X5, [], 2, 11)
set_option maxHeartbeats 4000000 in
set_option maxRecDepth 100000 in
theorem b_X5_greatestDivisor : ez_Body LX e_X5_greatestDivisor p_X5_greatestDivisor sp_X5_greatestDivisor := by
  intro as M Q has hM hsp
  unfold sp_X5_greatestDivisor at hsp
  split at hsp
  rotate_left
  · exact hsp.elim
  rename_i a b
  have g_a : -9223372036854775808 ≤ a ∧ a ≤ 9223372036854775807 := ez_hd (has)
  have g_b : -9223372036854775808 ≤ b ∧ b ≤ 9223372036854775807 := ez_hd (ez_tl (has))
  obtain ⟨hv, hsp⟩ := hsp
  refine ⟨Nat.le_of_ble_eq_true rfl, fun cut hcut hkut => ?_⟩
  have fin : ∀ (x k : Int), 0 ≤ x → 0 ≤ k → k ≤ 100 → Q (some (.inr (.inl x))) M → cut 9 [(4, .inr (.inl x)), (6, .inr (.inl 0)), (8, .inl k)] [] M := by
    intro x k hx hk0 hk1 hq
    refine hkut [(9, [4, 6, 8])] 60 9 _ _ _ ?_
    repeat' (first | (intro hh; exfalso; omega) | (refine And.intro (by first | assumption | omega) ?_) | (refine And.intro rfl ?_) | (refine And.intro ?_ ?_) | (intro qq hq1 hq2 hq3; have hq4 := hq2 (by omega) (by omega); subst hq4) | (intro hh) | omega | exact trivial)
    all_goals exact hq
  have one : ∀ (x y k : Int), 0 ≤ x → 0 < y → y < 562949953421312 → 0 ≤ k → k < 100 → cut 9 [(4, .inr (.inl y)), (6, .inr (.inl (x % y))), (8, .inl (k + 1))] [] M → cut 9 [(4, .inr (.inl x)), (6, .inr (.inl y)), (8, .inl k)] [] M := by
    intro x y k hx hy hy2 hk0 hk1 hc
    have hm := Int.emod_lt_of_pos x hy
    have hm2 := Int.emod_nonneg x (by omega : y ≠ 0)
    refine hkut [(9, [4, 6, 8])] 60 9 _ _ _ ?_
    repeat' (first | (intro hh; exfalso; omega) | (refine And.intro (by first | assumption | omega) ?_) | (refine And.intro rfl ?_) | (refine And.intro ?_ ?_) | (intro qq hq1 hq2 hq3; have hq4 := hq2 (by omega) (by omega); subst hq4) | (intro hh) | omega | exact trivial)
    all_goals first | exact hc | (exfalso; omega)
  have loop : ∀ (m : Nat) (x y k : Int), 0 ≤ x → 0 ≤ y → y < 2 ^ m → m ≤ 49 → 0 ≤ k → k + 2 * m ≤ 98 → Q (some (.inr (.inl (ff_gcd x y)))) M → cut 9 [(4, .inr (.inl x)), (6, .inr (.inl y)), (8, .inl k)] [] M := by
    intro m
    induction m with
    | zero =>
      intro x y k hx hy hy2 hm hk0 hk1 hq
      have hy0 : y = 0 := by
        rw [Int.pow_zero] at hy2
        omega
      subst hy0
      rw [ff_gcd_0 hx] at hq
      exact fin x k hx hk0 (by omega) hq
    | succ m ih =>
      intro x y k hx hy hy2 hm hk0 hk1 hq
      have hp : (2 : Int) ^ (m + 1) = 2 * 2 ^ m := by rw [Int.pow_succ]; omega
      have hbig : (2 : Int) ^ (m + 1) ≤ 2 ^ 49 := by
        have := Nat.pow_le_pow_right (n := 2) (by decide) hm
        exact_mod_cast this
      have hb49 : (2 : Int) ^ 49 = 562949953421312 := by decide
      by_cases hy0 : y = 0
      · subst hy0
        rw [ff_gcd_0 hx] at hq
        exact fin x k hx hk0 (by omega) hq
      · have hr0 := Int.emod_nonneg x hy0
        have hr1 := Int.emod_lt_of_pos x (by omega : 0 < y)
        rw [← ff_gcd_s hx hy] at hq
        refine one x y k hx (by omega) (by omega) hk0 (by omega) ?_
        by_cases hr : x % y = 0
        · rw [hr] at hq ⊢
          rw [ff_gcd_0 hy] at hq
          exact fin y (k + 1) hy (by omega) (by omega) hq
        · obtain ⟨c1, c2, c3⟩ := ff_half (by omega : 0 < x % y) hr1
          rw [← ff_gcd_s hy hr0] at hq
          refine one y (x % y) (k + 1) hy (by omega) (by omega) (by omega) (by omega) ?_
          exact ih (x % y) (y % (x % y)) (k + 1 + 1) hr0 c2 (by omega) (by omega) (by omega) (by omega) hq
  refine hkut [(9, [4, 6, 8])] 60 0 _ _ _ ?_
  have hb49 : (2 : Int) ^ 49 = 562949953421312 := by decide
  exact loop 49 a b 0 hv.1 hv.2.1 (by rw [hb49]; exact hv.2.2) (by omega) (by omega) (by omega) hsp
theorem so_X5_greatestDivisor : ez_Sound LX yX5_greatestDivisor cX5_greatestDivisor 11 (some .long) 0 sp_X5_greatestDivisor := ez_sound (E := e_X5_greatestDivisor) (prog := p_X5_greatestDivisor) LX_ok (by decide +kernel) rfl (fun _ h => h) fo_X5 co_X5_ok (fun _ h => absurd h List.not_mem_nil) dp_X5_greatestDivisor b_X5_greatestDivisor
theorem k_X5_287 {d : Nat} (h : 0 < d) : ez_CallOK LX RX5 d (287, 0, 2, sp_X5_greatestDivisor) := ez_callS (y := yX5_greatestDivisor) (bytes := cX5_greatestDivisor) so_X5_greatestDivisor h (by decide) q_440 q_72 ⟨by decide +kernel, by decide +kernel, by decide +kernel⟩ (Or.inl q_438) q_439
def sp_X5_inLeastTerms : ez_Sp := fun as M Q => match as with | [.inr (.inl a), .inr (.inl b), .inl up] => (0 ≤ a ∧ 0 < b ∧ b < 562949953421312 ∧ (up = 0 ∨ up = 1)) ∧ Q (some (.inr (.inl (ff_lt a b up)))) M | _ => False
def e_X5_inLeastTerms : ez_E := (fl_X5, co_X5, [(287, 0, 2, sp_X5_greatestDivisor)], 2, 7)
set_option maxHeartbeats 4000000 in
set_option maxRecDepth 100000 in
theorem b_X5_inLeastTerms : ez_Body LX e_X5_inLeastTerms p_X5_inLeastTerms sp_X5_inLeastTerms := by
  intro as M Q has hM hsp
  unfold sp_X5_inLeastTerms at hsp
  split at hsp
  rotate_left
  · exact hsp.elim
  rename_i a b up
  have g_a : -9223372036854775808 ≤ a ∧ a ≤ 9223372036854775807 := ez_hd (has)
  have g_b : -9223372036854775808 ≤ b ∧ b ≤ 9223372036854775807 := ez_hd (ez_tl (has))
  have g_up : -2147483648 ≤ up ∧ up ≤ 2147483647 := ez_hd (ez_tl (ez_tl (has)))
  obtain ⟨hv, hsp⟩ := hsp
  have hg := ff_gcd_pos (a := a) hv.2.1
  unfold ff_lt at hsp
  refine ⟨Nat.le_of_ble_eq_true rfl, fun cut hcut hkut => hcut [] 60 0 _ _ _ ?_⟩
  rcases hv.2.2.2 with rfl | rfl
  · rw [if_pos rfl] at hsp
    repeat' (first | (intro hh; exfalso; omega) | (refine And.intro (by first | assumption | omega) ?_) | (refine And.intro rfl ?_) | (refine And.intro ?_ ?_) | (intro qq hq1 hq2 hq3; have hq4 := hq2 (by omega) (by omega); subst hq4) | (intro hh) | omega | exact trivial)
    all_goals exact hsp
  · rw [if_neg (by decide)] at hsp
    repeat' (first | (intro hh; exfalso; omega) | (refine And.intro (by first | assumption | omega) ?_) | (refine And.intro rfl ?_) | (refine And.intro ?_ ?_) | (intro qq hq1 hq2 hq3; have hq4 := hq2 (by omega) (by omega); subst hq4) | (intro hh) | omega | exact trivial)
    all_goals exact hsp
theorem so_X5_inLeastTerms : ez_Sound LX yX5_inLeastTerms cX5_inLeastTerms 7 (some .long) 1 sp_X5_inLeastTerms := ez_sound (E := e_X5_inLeastTerms) (prog := p_X5_inLeastTerms) LX_ok (by decide +kernel) rfl (fun _ h => h) fo_X5 co_X5_ok (List.forall_mem_cons.mpr ⟨k_X5_287 (by decide), fun _ h => absurd h List.not_mem_nil⟩) dp_X5_inLeastTerms b_X5_inLeastTerms
def ff_den (S : ff_S) (c : Int) : Int := (S 5 (11 * c + 4).toNat - S 5 (11 * c + 3).toNat + 1) * (2 * S 5 (11 * c + 2).toNat + 1)
theorem ff_den_r {S : ff_S} (hI : ff_Inv S) {c : Int} (h0 : 0 ≤ c) (h1 : c < S 1 4) : 1 ≤ ff_den S c ∧ ff_den S c ≤ 1159 := by
  have hc := hI.2.2.2.2.1 c h0 h1
  unfold ff_ch at hc
  unfold ff_den
  have hm := ez_mulb (a := S 5 (11 * c + 4).toNat - S 5 (11 * c + 3).toNat + 1) (b := 2 * S 5 (11 * c + 2).toNat + 1) (A := 61) (B := 19) (by omega) (by omega) (by omega) (by omega)
  have hp := Int.mul_pos (a := S 5 (11 * c + 4).toNat - S 5 (11 * c + 3).toNat + 1) (b := 2 * S 5 (11 * c + 2).toNat + 1) (by omega) (by omega)
  omega
def op_chance (S : ff_S) (r c up : Int) : Int := if (0 ≤ r ∧ r ≤ 5) ∧ (0 ≤ c ∧ c < S 1 4) then ff_lt (ff_hits S r c) (ff_den S c) up else -1
/-- the weighed hits of n rules from k on -/
def ff_ws (S : ff_S) (c : Int) : Nat → Int → Int
  | 0, _ => 0
  | n + 1, k => ff_wh S k c + ff_ws S c n (k + 1)
theorem ff_ws_r {S : ff_S} (hI : ff_Inv S) {c : Int} (h0 : 0 ≤ c) (h1 : c < S 1 4) : ∀ (n : Nat) (k : Int), 0 ≤ ff_ws S c n k ∧ ff_ws S c n k ≤ 549 * n
  | 0, k => by simp [ff_ws]
  | n + 1, k => by
    have ih := ff_ws_r hI h0 h1 n (k + 1)
    have hw := ff_wh_r hI (r := k) h0 h1
    simp only [ff_ws]
    omega
def op_odds (S : ff_S) (r c up : Int) : Int := if (0 ≤ r ∧ r ≤ 5) ∧ (0 ≤ c ∧ c < S 1 4) then (if ff_ws S c 6 0 = 0 then -3 else ff_lt (ff_wh S r c) (ff_ws S c 6 0) up) else -1
def ff_bst (S : ff_S) (c : Int) : Nat → Int → Int → Int → Int
  | 0, _, best, _ => best
  | n + 1, k, best, most => if most < ff_wh S k c then ff_bst S c n (k + 1) k (ff_wh S k c) else ff_bst S c n (k + 1) best most
def op_best (S : ff_S) (c : Int) : Int := if 0 ≤ c ∧ c < S 1 4 then ff_bst S c 6 0 (-3) 0 else -1
theorem k_X5_159 {d : Nat} (h : 1 < d) : ez_CallOK LX RX5 d (159, 0, 3, sp_X5_inLeastTerms) := ez_callS (y := yX5_inLeastTerms) (bytes := cX5_inLeastTerms) so_X5_inLeastTerms h (by decide) q_437 q_72 ⟨by decide +kernel, by decide +kernel, by decide +kernel⟩ (Or.inl q_435) q_436
def sp_X5_chance : ez_Sp := fun as M Q => match as with | [.inr (.inr q), .inl r, .inl c, .inl up] => q = 0 ∧ ff_Inv (ff_X M) ∧ (up = 0 ∨ up = 1) ∧ (∀ M' : ez_M, ff_X M' = ff_X M → Q (some (.inr (.inl (op_chance (ff_X M) r c up)))) M') | _ => False
def e_X5_chance : ez_E := (fl_X5, co_X5, [(142, 0, 1, sp_X5_isRule), (133, 1+1, 1, sp_X1_has), (139, 1+1, 2, sp_X1_get), (148, 5+1, 2, sp_X5_countHits), (159, 0, 3, sp_X5_inLeastTerms)], 2, 6)
set_option maxHeartbeats 4000000 in
set_option maxRecDepth 100000 in
theorem b_X5_chance : ez_Body LX e_X5_chance p_X5_chance sp_X5_chance := by
  intro as M Q has hM hsp
  unfold sp_X5_chance at hsp
  split at hsp
  rotate_left
  · exact hsp.elim
  rename_i q r c up
  have g_r : -2147483648 ≤ r ∧ r ≤ 2147483647 := ez_hd (ez_tl (has))
  have g_c : -2147483648 ≤ c ∧ c ≤ 2147483647 := ez_hd (ez_tl (ez_tl (has)))
  have g_up : -2147483648 ≤ up ∧ up ≤ 2147483647 := ez_hd (ez_tl (ez_tl (ez_tl (has))))
  obtain ⟨rfl, hI, hup, hsp⟩ := hsp
  have hn := ff_n_X hI
  have hsp := hsp M rfl
  unfold op_chance at hsp
  refine ⟨Nat.le_of_ble_eq_true rfl, fun cut hcut hkut => hcut [] 80 0 _ _ _ ?_⟩
  by_cases h1 : (0 ≤ r ∧ r ≤ 5) ∧ (0 ≤ c ∧ c < ff_X M 1 4)
  · have h1m : (0 ≤ r ∧ r ≤ 5) ∧ (0 ≤ c ∧ c < M 7 1) := h1
    rw [if_pos h1] at hsp
    have hc := ff_ch_X hI (c := c) h1.2.1 h1.2.2
    unfold ff_ch at hc
    have hh := ff_hits_r hI (r := r) h1.2.1 h1.2.2
    have hd := ff_den_r hI h1.2.1 h1.2.2
    have hd2 : 1 ≤ (M 8 (11 * c + 4).toNat - M 8 (11 * c + 3).toNat + 1) * (2 * M 8 (11 * c + 2).toNat + 1) ∧ (M 8 (11 * c + 4).toNat - M 8 (11 * c + 3).toNat + 1) * (2 * M 8 (11 * c + 2).toNat + 1) ≤ 1159 := hd
    repeat' (first | (intro hh; exfalso; omega) | (refine And.intro (by first | assumption | omega) ?_) | (refine And.intro rfl ?_) | (refine And.intro ?_ ?_) | (intro qq hq1 hq2 hq3; have hq4 := hq2 (by omega) (by omega); subst hq4) | (intro hh) | omega | exact trivial)
    all_goals exact hsp
  · have h1m : ¬ ((0 ≤ r ∧ r ≤ 5) ∧ (0 ≤ c ∧ c < M 7 1)) := h1
    rw [if_neg h1] at hsp
    repeat' (first | (intro hh; exfalso; omega) | (refine And.intro (by first | assumption | omega) ?_) | (refine And.intro rfl ?_) | (refine And.intro ?_ ?_) | (intro qq hq1 hq2 hq3; have hq4 := hq2 (by omega) (by omega); subst hq4) | (intro hh) | omega | exact trivial)
    all_goals exact hsp
theorem so_X5_chance : ez_Sound LX yX5_chance cX5_chance 6 (some .long) 6 sp_X5_chance := ez_sound (E := e_X5_chance) (prog := p_X5_chance) LX_ok (by decide +kernel) rfl (fun _ h => h) fo_X5 co_X5_ok (List.forall_mem_cons.mpr ⟨k_X5_142 (by decide), List.forall_mem_cons.mpr ⟨k_X5_133 (by decide), List.forall_mem_cons.mpr ⟨k_X5_139 (by decide), List.forall_mem_cons.mpr ⟨k_X5_148 (by decide), List.forall_mem_cons.mpr ⟨k_X5_159 (by decide), fun _ h => absurd h List.not_mem_nil⟩⟩⟩⟩⟩) dp_X5_chance b_X5_chance
theorem k_X5_167 {d : Nat} (h : 6 < d) : ez_CallOK LX RX5 d (167, 5+1, 2, sp_X5_weighedHits) := ez_callV (y := yX5_weighedHits) (bytes := cX5_weighedHits) so_X5_weighedHits h (by decide) q_453 q_72 ⟨by decide +kernel, by decide +kernel, by decide +kernel⟩ (Or.inl q_450) q_452 q_21 (T := TX5) (N := 10) rfl
def sp_X5_odds : ez_Sp := fun as M Q => match as with | [.inr (.inr q), .inl r, .inl c, .inl up] => q = 0 ∧ ff_Inv (ff_X M) ∧ (up = 0 ∨ up = 1) ∧ (∀ M' : ez_M, ff_X M' = ff_X M → Q (some (.inr (.inl (op_odds (ff_X M) r c up)))) M') | _ => False
def e_X5_odds : ez_E := (fl_X5, co_X5, [(142, 0, 1, sp_X5_isRule), (133, 1+1, 1, sp_X1_has), (167, 5+1, 2, sp_X5_weighedHits), (159, 0, 3, sp_X5_inLeastTerms)], 2, 6)
set_option maxHeartbeats 4000000 in
set_option maxRecDepth 100000 in
theorem b_X5_odds : ez_Body LX e_X5_odds p_X5_odds sp_X5_odds := by
  intro as M Q has hM hsp
  unfold sp_X5_odds at hsp
  split at hsp
  rotate_left
  · exact hsp.elim
  rename_i q r c up
  have g_r : -2147483648 ≤ r ∧ r ≤ 2147483647 := ez_hd (ez_tl (has))
  have g_c : -2147483648 ≤ c ∧ c ≤ 2147483647 := ez_hd (ez_tl (ez_tl (has)))
  have g_up : -2147483648 ≤ up ∧ up ≤ 2147483647 := ez_hd (ez_tl (ez_tl (ez_tl (has))))
  obtain ⟨rfl, hI, hup, hsp⟩ := hsp
  have hn := ff_n_X hI
  have hsp := hsp M rfl
  unfold op_odds at hsp
  by_cases h1 : (0 ≤ r ∧ r ≤ 5) ∧ (0 ≤ c ∧ c < ff_X M 1 4)
  · have h1m : (0 ≤ r ∧ r ≤ 5) ∧ (0 ≤ c ∧ c < M 7 1) := h1
    rw [if_pos h1] at hsp
    refine ⟨Nat.le_of_ble_eq_true rfl, fun cut hcut hkut => ?_⟩
    have hw := ff_wh_r hI (r := r) h1.2.1 h1.2.2
    generalize hA : ff_ws (ff_X M) c 6 0 = A at hsp
    have loop : ∀ (n : Nat) (k a : Int), k + n = 6 → 0 ≤ k → 0 ≤ a → a ≤ 549 * k → a + ff_ws (ff_X M) c n k = A → cut 28 [(0, .inr (.inr 0)), (1, .inl r), (2, .inl c), (3, .inl up), (4, .inl a), (5, .inl k)] [] M := by
      intro n
      induction n with
      | zero =>
        intro k a hk hk0 ha0 ha1 he
        simp only [ff_ws, Int.add_zero] at he
        rw [← he] at hsp
        refine hkut [(28, [0, 1, 2, 3, 4, 5])] 60 28 _ _ _ ?_
        split at hsp <;> (repeat' (first | (intro hh; exfalso; omega) | (refine And.intro (by first | assumption | omega) ?_) | (refine And.intro rfl ?_) | (refine And.intro ?_ ?_) | (intro qq hq1 hq2 hq3; have hq4 := hq2 (by omega) (by omega); subst hq4) | (intro hh) | omega | exact trivial))
        all_goals exact hsp
      | succ n ih =>
        intro k a hk hk0 ha0 ha1 he
        have hwk := ff_wh_r hI (r := k) h1.2.1 h1.2.2
        simp only [ff_ws] at he
        refine hkut [(28, [0, 1, 2, 3, 4, 5])] 60 28 _ _ _ ?_
        repeat' (first | (intro hh; exfalso; omega) | (refine And.intro (by first | assumption | omega) ?_) | (refine And.intro rfl ?_) | (refine And.intro ?_ ?_) | (intro qq hq1 hq2 hq3; have hq4 := hq2 (by omega) (by omega); subst hq4) | (intro hh) | omega | exact trivial)
        all_goals exact ih (k + 1) (a + ff_wh (ff_X M) k c) (by omega) (by omega) (by omega) (by omega) (by omega)
    refine hkut [(28, [0, 1, 2, 3, 4, 5])] 60 0 _ _ _ ?_
    repeat' (first | (intro hh; exfalso; omega) | (refine And.intro (by first | assumption | omega) ?_) | (refine And.intro rfl ?_) | (refine And.intro ?_ ?_) | (intro qq hq1 hq2 hq3; have hq4 := hq2 (by omega) (by omega); subst hq4) | (intro hh) | omega | exact trivial)
    all_goals exact loop 6 0 0 (by omega) (by omega) (by omega) (by omega) (by rw [hA]; omega)
  · have h1m : ¬ ((0 ≤ r ∧ r ≤ 5) ∧ (0 ≤ c ∧ c < M 7 1)) := h1
    rw [if_neg h1] at hsp
    refine ⟨Nat.le_of_ble_eq_true rfl, fun cut hcut hkut => hcut [] 60 0 _ _ _ ?_⟩
    repeat' (first | (intro hh; exfalso; omega) | (refine And.intro (by first | assumption | omega) ?_) | (refine And.intro rfl ?_) | (refine And.intro ?_ ?_) | (intro qq hq1 hq2 hq3; have hq4 := hq2 (by omega) (by omega); subst hq4) | (intro hh) | omega | exact trivial)
    all_goals exact hsp
theorem so_X5_odds : ez_Sound LX yX5_odds cX5_odds 6 (some .long) 7 sp_X5_odds := ez_sound (E := e_X5_odds) (prog := p_X5_odds) LX_ok (by decide +kernel) rfl (fun _ h => h) fo_X5 co_X5_ok (List.forall_mem_cons.mpr ⟨k_X5_142 (by decide), List.forall_mem_cons.mpr ⟨k_X5_133 (by decide), List.forall_mem_cons.mpr ⟨k_X5_167 (by decide), List.forall_mem_cons.mpr ⟨k_X5_159 (by decide), fun _ h => absurd h List.not_mem_nil⟩⟩⟩⟩) dp_X5_odds b_X5_odds
def sp_X5_best : ez_Sp := fun as M Q => match as with | [.inr (.inr q), .inl c] => q = 0 ∧ ff_Inv (ff_X M) ∧ (∀ M' : ez_M, ff_X M' = ff_X M → Q (some (.inl (op_best (ff_X M) c))) M') | _ => False
def e_X5_best : ez_E := (fl_X5, co_X5, [(133, 1+1, 1, sp_X1_has), (167, 5+1, 2, sp_X5_weighedHits)], 0, 6)
set_option maxHeartbeats 4000000 in
set_option maxRecDepth 100000 in
theorem b_X5_best : ez_Body LX e_X5_best p_X5_best sp_X5_best := by
  intro as M Q has hM hsp
  unfold sp_X5_best at hsp
  split at hsp
  rotate_left
  · exact hsp.elim
  rename_i q c
  have g_c : -2147483648 ≤ c ∧ c ≤ 2147483647 := ez_hd (ez_tl (has))
  obtain ⟨rfl, hI, hsp⟩ := hsp
  have hn := ff_n_X hI
  have hsp := hsp M rfl
  unfold op_best at hsp
  by_cases h1 : 0 ≤ c ∧ c < ff_X M 1 4
  · have h1m : 0 ≤ c ∧ c < M 7 1 := h1
    rw [if_pos h1] at hsp
    refine ⟨Nat.le_of_ble_eq_true rfl, fun cut hcut hkut => ?_⟩
    have loop : ∀ (n : Nat) (k b z : Int), k + n = 6 → 0 ≤ k → Q (some (.inl (ff_bst (ff_X M) c n k b z))) M → cut 21 [(0, .inr (.inr 0)), (1, .inl c), (2, .inl b), (3, .inl z), (4, .inl k)] [] M := by
      intro n
      induction n with
      | zero =>
        intro k b z hk hk0 hq
        refine hkut [(21, [0, 1, 2, 3, 4])] 60 21 _ _ _ ?_
        repeat' (first | (intro hh; exfalso; omega) | (refine And.intro (by first | assumption | omega) ?_) | (refine And.intro rfl ?_) | (refine And.intro ?_ ?_) | (intro qq hq1 hq2 hq3; have hq4 := hq2 (by omega) (by omega); subst hq4) | (intro hh) | omega | exact trivial)
        all_goals exact hq
      | succ n ih =>
        intro k b z hk hk0 hq
        simp only [ff_bst] at hq
        refine hkut [(21, [0, 1, 2, 3, 4])] 60 21 _ _ _ ?_
        split at hq
        · (repeat' (first | (intro hh; exfalso; omega) | (refine And.intro (by first | assumption | omega) ?_) | (refine And.intro rfl ?_) | (refine And.intro ?_ ?_) | (intro qq hq1 hq2 hq3; have hq4 := hq2 (by omega) (by omega); subst hq4) | (intro hh) | omega | exact trivial))
          all_goals exact ih _ _ _ (by omega) (by omega) hq
        · (repeat' (first | (intro hh; exfalso; omega) | (refine And.intro (by first | assumption | omega) ?_) | (refine And.intro rfl ?_) | (refine And.intro ?_ ?_) | (intro qq hq1 hq2 hq3; have hq4 := hq2 (by omega) (by omega); subst hq4) | (intro hh) | omega | exact trivial))
          all_goals exact ih _ _ _ (by omega) (by omega) hq
    refine hkut [(21, [0, 1, 2, 3, 4])] 60 0 _ _ _ ?_
    repeat' (first | (intro hh; exfalso; omega) | (refine And.intro (by first | assumption | omega) ?_) | (refine And.intro rfl ?_) | (refine And.intro ?_ ?_) | (intro qq hq1 hq2 hq3; have hq4 := hq2 (by omega) (by omega); subst hq4) | (intro hh) | omega | exact trivial)
    all_goals exact loop 6 0 (-3) 0 (by omega) (by omega) hsp
  · have h1m : ¬ (0 ≤ c ∧ c < M 7 1) := h1
    rw [if_neg h1] at hsp
    refine ⟨Nat.le_of_ble_eq_true rfl, fun cut hcut hkut => hcut [] 60 0 _ _ _ ?_⟩
    repeat' (first | (intro hh; exfalso; omega) | (refine And.intro (by first | assumption | omega) ?_) | (refine And.intro rfl ?_) | (refine And.intro ?_ ?_) | (intro qq hq1 hq2 hq3; have hq4 := hq2 (by omega) (by omega); subst hq4) | (intro hh) | omega | exact trivial)
    all_goals exact hsp
theorem so_X5_best : ez_Sound LX yX5_best cX5_best 6 (some .int) 7 sp_X5_best := ez_sound (E := e_X5_best) (prog := p_X5_best) LX_ok (by decide +kernel) rfl (fun _ h => h) fo_X5 co_X5_ok (List.forall_mem_cons.mpr ⟨k_X5_133 (by decide), List.forall_mem_cons.mpr ⟨k_X5_167 (by decide), fun _ h => absurd h List.not_mem_nil⟩⟩) dp_X5_best b_X5_best
