def ff_al (p : Int → Bool) : Nat → Int → Bool
  | 0, _ => true
  | n + 1, y => p y && ff_al p n (y + 1)
def ff_sufp (B : Nat → Int) (set c : Int) : Bool := decide (B c.toNat = 0 ∨ ¬ ez_and (B c.toNat) set = 0)
def ff_suf (B : Nat → Int) (n set : Int) : Bool := ff_al (ff_sufp B set) n.toNat 0
def ff_wh (S : ff_S) (r c : Int) : Int := S 6 r.toNat * ff_hits S r c
def ff_dol (S : ff_S) (c d : Int) : Bool := ff_nr (ff_rise (S 0) (S 5 (11 * c + 0).toNat) d) (S 5 (11 * c + 1).toNat) (S 5 (11 * c + 2).toNat)
def ff_own (S : ff_S) : Int := ff_cn (fun c => ff_exl S 1 c 1 3 4) (S 1 4).toNat 0
theorem ff_hits_r {S : ff_S} (hI : ff_Inv S) {r c : Int} (h0 : 0 ≤ c) (h1 : c < S 1 4) : 0 ≤ ff_hits S r c ∧ ff_hits S r c ≤ 61 := by
  have hc := hI.2.2.2.2.1 c h0 h1
  unfold ff_ch at hc
  have h := ff_cn_r (ff_hit S r c) (ff_yrs S c) (S 5 (11 * c + 3).toNat)
  have e : ff_yrs S c = (S 5 (11 * c + 4).toNat - S 5 (11 * c + 3).toNat + 1).toNat := rfl
  unfold ff_hits
  omega
theorem ff_wh_r {S : ff_S} (hI : ff_Inv S) {r c : Int} (h0 : 0 ≤ c) (h1 : c < S 1 4) : 0 ≤ ff_wh S r c ∧ ff_wh S r c ≤ 549 := by
  have h := ff_hits_r hI (r := r) h0 h1
  have hw := hI.2.2.2.2.2.1 r.toNat
  have hm := ez_mulb (a := S 6 r.toNat) (b := ff_hits S r c) (A := 9) (B := 61) (by omega) (by omega) (by omega) (by omega)
  have hp := Int.mul_nonneg hw.1 h.1
  unfold ff_wh
  omega
def sp_X5_explains : ez_Sp := fun as M Q => match as with | [.inr (.inr q), .inl r, .inl c, .inl la, .inl fa, .inl ta] => q = 0 ∧ (0 ≤ r ∧ r ≤ 5 ∧ 0 ≤ c ∧ c < M 7 1 ∧ ((la = 1 ∧ fa = 3 ∧ ta = 4) ∨ (la = 8 ∧ fa = 9 ∧ ta = 10 ∧ ¬ M 8 (11 * c + 8).toNat = -9))) ∧ ff_Inv (ff_X M) ∧ (ff_exl (ff_X M) r c la fa ta = true → Q (some (.inl 1)) M) ∧ (ff_exl (ff_X M) r c la fa ta = false → Q (some (.inl 0)) M) | _ => False
def e_X5_explains : ez_E := (fl_X5, co_X5, [(139, 1+1, 2, sp_X1_get), (145, 5+1, 3, sp_X5_lineBy), (248, 0, 3, sp_X5_isNear)], 1, 10)
set_option maxHeartbeats 4000000 in
set_option maxRecDepth 100000 in
theorem b_X5_explains : ez_Body LX e_X5_explains p_X5_explains sp_X5_explains := by
  intro as M Q has hM hsp
  unfold sp_X5_explains at hsp
  split at hsp
  rotate_left
  · exact hsp.elim
  rename_i q r c la fa ta
  have g_r : -2147483648 ≤ r ∧ r ≤ 2147483647 := ez_hd (ez_tl (has))
  have g_c : -2147483648 ≤ c ∧ c ≤ 2147483647 := ez_hd (ez_tl (ez_tl (has)))
  have g_la : -2147483648 ≤ la ∧ la ≤ 2147483647 := ez_hd (ez_tl (ez_tl (ez_tl (has))))
  have g_fa : -2147483648 ≤ fa ∧ fa ≤ 2147483647 := ez_hd (ez_tl (ez_tl (ez_tl (ez_tl (has)))))
  have g_ta : -2147483648 ≤ ta ∧ ta ≤ 2147483647 := ez_hd (ez_tl (ez_tl (ez_tl (ez_tl (ez_tl (has))))))
  obtain ⟨rfl, hv, hI, hs1, hs2⟩ := hsp
  have hn := ff_n_X hI
  have hc := ff_ch_X hI (c := c) (by omega) (by omega)
  unfold ff_ch at hc
  refine ⟨Nat.le_of_ble_eq_true rfl, fun cut hcut hkut => ?_⟩
  have loop : ∀ (A F t : Int), (-9 ≤ A ∧ A ≤ 359) → (0 ≤ t ∧ t ≤ 599) → ∀ (n : Nat) (y : Int), y + n = t + 1 → 0 ≤ y → (ff_ex (fun y => ff_nr (ff_line (ff_X M) r c y) A (M 8 (11 * c + 2).toNat)) n y = true → Q (some (.inl 1)) M) → (ff_ex (fun y => ff_nr (ff_line (ff_X M) r c y) A (M 8 (11 * c + 2).toNat)) n y = false → Q (some (.inl 0)) M) → cut 46 [(0, .inr (.inr 0)), (1, .inl r), (2, .inl c), (6, .inl A), (7, .inl (M 8 (11 * c + 2).toNat)), (8, .inl t), (9, .inl y)] [] M := by
    intro A F t hA ht n
    induction n with
    | zero =>
      intro y hy h0 hq1 hq2
      refine hkut [(46, [0, 1, 2, 6, 7, 8, 9])] 60 46 _ _ _ ?_
      repeat' (first | (intro hh; exfalso; omega) | (refine And.intro (by first | assumption | omega) ?_) | (refine And.intro rfl ?_) | (refine And.intro ?_ ?_) | (intro qq hq1 hq2 hq3; have hq4 := hq2 (by omega) (by omega); subst hq4) | (intro hh) | omega | exact trivial)
      all_goals exact hq2 rfl
    | succ n ih =>
      intro y hy h0 hq1 hq2
      have hl := ff_line_r hI (r := r) (c := c) (y := y) (by omega) hv.2.2.2.1 (by omega) (by omega)
      refine hkut [(46, [0, 1, 2, 6, 7, 8, 9])] 60 46 _ _ _ ?_
      simp only [ff_ex] at hq1 hq2
      by_cases hp : ff_nr (ff_line (ff_X M) r c y) A (M 8 (11 * c + 2).toNat) = true
      · simp only [hp, Bool.true_or] at hq1
        have hp2 := of_decide_eq_true hp
        repeat' (first | (intro hh; exfalso; omega) | (refine And.intro (by first | assumption | omega) ?_) | (refine And.intro rfl ?_) | (refine And.intro ?_ ?_) | (intro qq hq1 hq2 hq3; have hq4 := hq2 (by omega) (by omega); subst hq4) | (intro hh) | omega | exact trivial)
        all_goals exact hq1 trivial
      · have hp3 : ff_nr (ff_line (ff_X M) r c y) A (M 8 (11 * c + 2).toNat) = false := by simpa using hp
        simp only [hp3, Bool.false_or] at hq1 hq2
        have hp2 := of_decide_eq_false hp3
        repeat' (first | (intro hh; exfalso; omega) | (refine And.intro (by first | assumption | omega) ?_) | (refine And.intro rfl ?_) | (refine And.intro ?_ ?_) | (intro qq hq1 hq2 hq3; have hq4 := hq2 (by omega) (by omega); subst hq4) | (intro hh) | omega | exact trivial)
        all_goals exact ih (y + 1) (by omega) (by omega) hq1 hq2
  refine hkut [(46, [0, 1, 2, 6, 7, 8, 9])] 60 0 _ _ _ ?_
  rcases hv.2.2.2.2 with ⟨rfl, rfl, rfl⟩ | ⟨rfl, rfl, rfl, h9⟩
  · (repeat' (first | (intro hh; exfalso; omega) | (refine And.intro (by first | assumption | omega) ?_) | (refine And.intro rfl ?_) | (refine And.intro ?_ ?_) | (intro qq hq1 hq2 hq3; have hq4 := hq2 (by omega) (by omega); subst hq4) | (intro hh) | omega | exact trivial))
    all_goals exact loop _ 0 _ (by omega) (by omega) (M 8 (11 * c + 4).toNat - M 8 (11 * c + 3).toNat + 1).toNat _ (by omega) (by omega) hs1 hs2
  · (repeat' (first | (intro hh; exfalso; omega) | (refine And.intro (by first | assumption | omega) ?_) | (refine And.intro rfl ?_) | (refine And.intro ?_ ?_) | (intro qq hq1 hq2 hq3; have hq4 := hq2 (by omega) (by omega); subst hq4) | (intro hh) | omega | exact trivial))
    all_goals exact loop _ 0 _ (by omega) (by omega) (M 8 (11 * c + 10).toNat - M 8 (11 * c + 9).toNat + 1).toNat _ (by omega) (by omega) hs1 hs2
theorem so_X5_explains : ez_Sound LX yX5_explains cX5_explains 10 (some .boolean) 4 sp_X5_explains := ez_sound (E := e_X5_explains) (prog := p_X5_explains) LX_ok (by decide +kernel) rfl (fun _ h => h) fo_X5 co_X5_ok (List.forall_mem_cons.mpr ⟨k_X5_139 (by decide), List.forall_mem_cons.mpr ⟨k_X5_145 (by decide), List.forall_mem_cons.mpr ⟨k_X5_248 (by decide), fun _ h => absurd h List.not_mem_nil⟩⟩⟩) dp_X5_explains b_X5_explains
theorem k_X5_214 {d : Nat} (h : 4 < d) : ez_CallOK LX RX5 d (214, 5+1, 5, sp_X5_explains) := ez_callV (y := yX5_explains) (bytes := cX5_explains) so_X5_explains h (by decide) q_429 q_72 ⟨by decide +kernel, by decide +kernel, by decide +kernel⟩ (Or.inl q_426) q_428 q_20 (T := TX5) (N := 10) rfl
def sp_X5_rulesThatExplain : ez_Sp := fun as M Q => match as with | [.inr (.inr q), .inl c] => q = 0 ∧ (0 ≤ c ∧ c < M 7 1) ∧ ff_Inv (ff_X M) ∧ Q (some (.inl (ff_rules (ff_X M) c))) M | _ => False
def e_X5_rulesThatExplain : ez_E := (fl_X5, co_X5, [(214, 5+1, 5, sp_X5_explains)], 0, 4)
set_option maxHeartbeats 4000000 in
set_option maxRecDepth 100000 in
theorem b_X5_rulesThatExplain : ez_Body LX e_X5_rulesThatExplain p_X5_rulesThatExplain sp_X5_rulesThatExplain := by
  intro as M Q has hM hsp
  unfold sp_X5_rulesThatExplain at hsp
  split at hsp
  rotate_left
  · exact hsp.elim
  rename_i q c
  have g_c : -2147483648 ≤ c ∧ c ≤ 2147483647 := ez_hd (ez_tl (has))
  obtain ⟨rfl, hv, hI, hsp⟩ := hsp
  have hn := ff_n_X hI
  refine ⟨Nat.le_of_ble_eq_true rfl, fun cut hcut hkut => ?_⟩
  have loop : ∀ (n : Nat) (k a : Int), k + n = 6 → 0 ≤ k → Q (some (.inl (ff_bits (fun r => ff_exl (ff_X M) r c 1 3 4) n k a))) M → cut 4 [(0, .inr (.inr 0)), (1, .inl c), (2, .inl a), (3, .inl k)] [] M := by
    intro n
    induction n with
    | zero =>
      intro k a hk h0 hq
      refine hkut [(4, [0, 1, 2, 3])] 60 4 _ _ _ ?_
      repeat' (first | (intro hh; exfalso; omega) | (refine And.intro (by first | assumption | omega) ?_) | (refine And.intro rfl ?_) | (refine And.intro ?_ ?_) | (intro qq hq1 hq2 hq3; have hq4 := hq2 (by omega) (by omega); subst hq4) | (intro hh) | omega | exact trivial)
      all_goals exact hq
    | succ n ih =>
      intro k a hk h0 hq
      refine hkut [(4, [0, 1, 2, 3])] 60 4 _ _ _ ?_
      simp only [ff_bits] at hq
      split at hq
      · rename_i hp
        repeat' (first | (intro hh; exfalso; omega) | (refine And.intro (by first | assumption | omega) ?_) | (refine And.intro rfl ?_) | (refine And.intro ?_ ?_) | (intro qq hq1 hq2 hq3; have hq4 := hq2 (by omega) (by omega); subst hq4) | (intro hh) | omega | exact trivial)
        all_goals first | exact ih (k + 1) _ (by omega) (by omega) hq | (rename_i hz; rw [hp] at hz; cases hz; done)
      · rename_i hp
        repeat' (first | (intro hh; exfalso; omega) | (refine And.intro (by first | assumption | omega) ?_) | (refine And.intro rfl ?_) | (refine And.intro ?_ ?_) | (intro qq hq1 hq2 hq3; have hq4 := hq2 (by omega) (by omega); subst hq4) | (intro hh) | omega | exact trivial)
        all_goals first | exact absurd (by assumption) hp | exact ih (k + 1) _ (by omega) (by omega) hq
  refine hkut [(4, [0, 1, 2, 3])] 60 0 _ _ _ ?_
  exact loop 6 0 0 (by omega) (by omega) hsp
theorem so_X5_rulesThatExplain : ez_Sound LX yX5_rulesThatExplain cX5_rulesThatExplain 4 (some .int) 5 sp_X5_rulesThatExplain := ez_sound (E := e_X5_rulesThatExplain) (prog := p_X5_rulesThatExplain) LX_ok (by decide +kernel) rfl (fun _ h => h) fo_X5 co_X5_ok (List.forall_mem_cons.mpr ⟨k_X5_214 (by decide), fun _ h => absurd h List.not_mem_nil⟩) dp_X5_rulesThatExplain b_X5_rulesThatExplain
theorem k_X5_163 {d : Nat} (h : 0 < d) : ez_CallOK LX RX5 d (163, 0, 2, sp_X5_at) := ez_callS (y := yX5_at) (bytes := cX5_at) so_X5_at h (by decide) q_259 q_72 ⟨by decide +kernel, by decide +kernel, by decide +kernel⟩ (Or.inl q_445) q_258
theorem k_X5_148 {d : Nat} (h : 5 < d) : ez_CallOK LX RX5 d (148, 5+1, 2, sp_X5_countHits) := ez_callV (y := yX5_countHits) (bytes := cX5_countHits) so_X5_countHits h (by decide) q_406 q_72 ⟨by decide +kernel, by decide +kernel, by decide +kernel⟩ (Or.inl q_403) q_405 q_17 (T := TX5) (N := 10) rfl
def sp_X5_weighedHits : ez_Sp := fun as M Q => match as with | [.inr (.inr q), .inl r, .inl c] => q = 0 ∧ (0 ≤ r ∧ r ≤ 5 ∧ 0 ≤ c ∧ c < M 7 1) ∧ ff_Inv (ff_X M) ∧ Q (some (.inl (ff_wh (ff_X M) r c))) M | _ => False
def e_X5_weighedHits : ez_E := (fl_X5, co_X5, [(163, 0, 2, sp_X5_at), (148, 5+1, 2, sp_X5_countHits)], 0, 3)
set_option maxHeartbeats 4000000 in
set_option maxRecDepth 100000 in
theorem b_X5_weighedHits : ez_Body LX e_X5_weighedHits p_X5_weighedHits sp_X5_weighedHits := by
  intro as M Q has hM hsp
  unfold sp_X5_weighedHits at hsp
  split at hsp
  rotate_left
  · exact hsp.elim
  rename_i q r c
  have g_r : -2147483648 ≤ r ∧ r ≤ 2147483647 := ez_hd (ez_tl (has))
  have g_c : -2147483648 ≤ c ∧ c ≤ 2147483647 := ez_hd (ez_tl (ez_tl (has)))
  obtain ⟨rfl, hv, hI, hsp⟩ := hsp
  have hn := ff_n_X hI
  have hw : 0 ≤ M 20 r.toNat * ff_hits (ff_X M) r c ∧ M 20 r.toNat * ff_hits (ff_X M) r c ≤ 549 := ff_wh_r hI (r := r) (c := c) (by omega) hv.2.2.2
  refine ⟨Nat.le_of_ble_eq_true rfl, fun cut hcut hkut => hcut [] 60 0 _ _ _ ?_⟩
  repeat' (first | (intro hh; exfalso; omega) | (refine And.intro (by first | assumption | omega) ?_) | (refine And.intro rfl ?_) | (refine And.intro ?_ ?_) | (intro qq hq1 hq2 hq3; have hq4 := hq2 (by omega) (by omega); subst hq4) | (intro hh) | omega | exact trivial)
  all_goals exact hsp
theorem so_X5_weighedHits : ez_Sound LX yX5_weighedHits cX5_weighedHits 3 (some .int) 6 sp_X5_weighedHits := ez_sound (E := e_X5_weighedHits) (prog := p_X5_weighedHits) LX_ok (by decide +kernel) rfl (fun _ h => h) fo_X5 co_X5_ok (List.forall_mem_cons.mpr ⟨k_X5_163 (by decide), List.forall_mem_cons.mpr ⟨k_X5_148 (by decide), fun _ h => absurd h List.not_mem_nil⟩⟩) dp_X5_weighedHits b_X5_weighedHits
def sp_X5_suffices : ez_Sp := fun as M Q => match as with | [.inr (.inr q), .inl s] => q = 0 ∧ (0 ≤ M 7 1 ∧ M 7 1 ≤ 10) ∧ (ff_suf (M 21) (M 7 1) s = true → Q (some (.inl 1)) M) ∧ (ff_suf (M 21) (M 7 1) s = false → Q (some (.inl 0)) M) | _ => False
def e_X5_suffices : ez_E := (fl_X5, co_X5, [(163, 0, 2, sp_X5_at)], 1, 4)
set_option maxHeartbeats 4000000 in
set_option maxRecDepth 100000 in
theorem b_X5_suffices : ez_Body LX e_X5_suffices p_X5_suffices sp_X5_suffices := by
  intro as M Q has hM hsp
  unfold sp_X5_suffices at hsp
  split at hsp
  rotate_left
  · exact hsp.elim
  rename_i q s
  have g_s : -2147483648 ≤ s ∧ s ≤ 2147483647 := ez_hd (ez_tl (has))
  obtain ⟨rfl, hv, hs1, hs2⟩ := hsp
  refine ⟨Nat.le_of_ble_eq_true rfl, fun cut hcut hkut => ?_⟩
  have loop : ∀ (n : Nat) (k : Int), k + n = M 7 1 → 0 ≤ k → (ff_al (ff_sufp (M 21) s) n k = true → Q (some (.inl 1)) M) → (ff_al (ff_sufp (M 21) s) n k = false → Q (some (.inl 0)) M) → cut 2 [(0, .inr (.inr 0)), (1, .inl s), (2, .inl k)] [] M := by
    intro n
    induction n with
    | zero =>
      intro k hk h0 hq1 hq2
      refine hkut [(2, [0, 1, 2])] 60 2 _ _ _ ?_
      repeat' (first | (intro hh; exfalso; omega) | (refine And.intro (by first | assumption | omega) ?_) | (refine And.intro rfl ?_) | (refine And.intro ?_ ?_) | (intro qq hq1 hq2 hq3; have hq4 := hq2 (by omega) (by omega); subst hq4) | (intro hh) | omega | exact trivial)
      all_goals exact hq1 rfl
    | succ n ih =>
      intro k hk h0 hq1 hq2
      refine hkut [(2, [0, 1, 2])] 60 2 _ _ _ ?_
      simp only [ff_al] at hq1 hq2
      by_cases hp : ff_sufp (M 21) s k = true
      · simp only [hp, Bool.true_and] at hq1 hq2
        have hp2 := of_decide_eq_true hp
        repeat' (first | (intro hh; exfalso; omega) | (refine And.intro (by first | assumption | omega) ?_) | (refine And.intro rfl ?_) | (refine And.intro ?_ ?_) | (intro qq hq1 hq2 hq3; have hq4 := hq2 (by omega) (by omega); subst hq4) | (intro hh) | omega | exact trivial)
        all_goals exact ih (k + 1) (by omega) (by omega) hq1 hq2
      · have hp3 : ff_sufp (M 21) s k = false := by simpa using hp
        simp only [hp3, Bool.false_and] at hq2
        have hp2 := of_decide_eq_false hp3
        repeat' (first | (intro hh; exfalso; omega) | (refine And.intro (by first | assumption | omega) ?_) | (refine And.intro rfl ?_) | (refine And.intro ?_ ?_) | (intro qq hq1 hq2 hq3; have hq4 := hq2 (by omega) (by omega); subst hq4) | (intro hh) | omega | exact trivial)
        all_goals exact hq2 trivial
  refine hkut [(2, [0, 1, 2])] 60 0 _ _ _ ?_
  exact loop (M 7 1).toNat 0 (by omega) (by omega) hs1 hs2
theorem so_X5_suffices : ez_Sound LX yX5_suffices cX5_suffices 4 (some .boolean) 1 sp_X5_suffices := ez_sound (E := e_X5_suffices) (prog := p_X5_suffices) LX_ok (by decide +kernel) rfl (fun _ h => h) fo_X5 co_X5_ok (List.forall_mem_cons.mpr ⟨k_X5_163 (by decide), fun _ h => absurd h List.not_mem_nil⟩) dp_X5_suffices b_X5_suffices
def sp_X5_isDayOfLine : ez_Sp := fun as M Q => match as with | [.inr (.inr q), .inl c, .inl d] => q = 0 ∧ (0 ≤ c ∧ c < M 7 1 ∧ 0 ≤ d ∧ d ≤ 363) ∧ ff_Inv (ff_X M) ∧ (ff_dol (ff_X M) c d = true → Q (some (.inl 1)) M) ∧ (ff_dol (ff_X M) c d = false → Q (some (.inl 0)) M) | _ => False
def e_X5_isDayOfLine : ez_E := (fl_X5, co_X5, [(139, 1+1, 2, sp_X1_get), (91, 4+1, 2, sp_X4_riseAt), (248, 0, 3, sp_X5_isNear)], 1, 4)
set_option maxHeartbeats 4000000 in
set_option maxRecDepth 100000 in
theorem b_X5_isDayOfLine : ez_Body LX e_X5_isDayOfLine p_X5_isDayOfLine sp_X5_isDayOfLine := by
  intro as M Q has hM hsp
  unfold sp_X5_isDayOfLine at hsp
  split at hsp
  rotate_left
  · exact hsp.elim
  rename_i q c d
  have g_c : -2147483648 ≤ c ∧ c ≤ 2147483647 := ez_hd (ez_tl (has))
  have g_d : -2147483648 ≤ d ∧ d ≤ 2147483647 := ez_hd (ez_tl (ez_tl (has)))
  obtain ⟨rfl, hv, hI, hs1, hs2⟩ := hsp
  have hn := ff_n_X hI
  have hc := ff_ch_X hI (c := c) (by omega) (by omega)
  unfold ff_ch at hc
  have hr := ff_rise_r (h := M 2) (l := M 8 (11 * c + 0).toNat) hv.2.2.1 hv.2.2.2
  have hs1 : (¬ ff_rise (M 2) (M 8 (11 * c + 0).toNat) d = -9 ∧ ff_off (ff_rise (M 2) (M 8 (11 * c + 0).toNat) d) (M 8 (11 * c + 1).toNat) ≤ M 8 (11 * c + 2).toNat) → Q (some (.inl 1)) M := fun h => hs1 (decide_eq_true h)
  have hs2 : ¬ (¬ ff_rise (M 2) (M 8 (11 * c + 0).toNat) d = -9 ∧ ff_off (ff_rise (M 2) (M 8 (11 * c + 0).toNat) d) (M 8 (11 * c + 1).toNat) ≤ M 8 (11 * c + 2).toNat) → Q (some (.inl 0)) M := fun h => hs2 (decide_eq_false h)
  refine ⟨Nat.le_of_ble_eq_true rfl, fun cut hcut hkut => hcut [] 60 0 _ _ _ ?_⟩
  repeat' (first | (intro hh; exfalso; omega) | (refine And.intro (by first | assumption | omega) ?_) | (refine And.intro rfl ?_) | (refine And.intro ?_ ?_) | (intro qq hq1 hq2 hq3; have hq4 := hq2 (by omega) (by omega); subst hq4) | (intro hh) | omega | exact trivial)
  all_goals first | exact hs1 (by assumption) | exact hs2 (by assumption)
theorem so_X5_isDayOfLine : ez_Sound LX yX5_isDayOfLine cX5_isDayOfLine 4 (some .boolean) 3 sp_X5_isDayOfLine := ez_sound (E := e_X5_isDayOfLine) (prog := p_X5_isDayOfLine) LX_ok (by decide +kernel) rfl (fun _ h => h) fo_X5 co_X5_ok (List.forall_mem_cons.mpr ⟨k_X5_139 (by decide), List.forall_mem_cons.mpr ⟨k_X5_91 (by decide), List.forall_mem_cons.mpr ⟨k_X5_248 (by decide), fun _ h => absurd h List.not_mem_nil⟩⟩⟩) dp_X5_isDayOfLine b_X5_isDayOfLine
def sp_X5_ownHits : ez_Sp := fun as M Q => match as with | [.inr (.inr q)] => q = 0 ∧ ff_Inv (ff_X M) ∧ Q (some (.inl (ff_own (ff_X M)))) M | _ => False
def e_X5_ownHits : ez_E := (fl_X5, co_X5, [(214, 5+1, 5, sp_X5_explains)], 0, 3)
set_option maxHeartbeats 4000000 in
set_option maxRecDepth 100000 in
theorem b_X5_ownHits : ez_Body LX e_X5_ownHits p_X5_ownHits sp_X5_ownHits := by
  intro as M Q has hM hsp
  unfold sp_X5_ownHits at hsp
  split at hsp
  rotate_left
  · exact hsp.elim
  rename_i q
  obtain ⟨rfl, hI, hsp⟩ := hsp
  have hn := ff_n_X hI
  refine ⟨Nat.le_of_ble_eq_true rfl, fun cut hcut hkut => ?_⟩
  have loop : ∀ (n : Nat) (y z : Int), y + n = M 7 1 → 0 ≤ y → 0 ≤ z → z ≤ y → Q (some (.inl (z + ff_cn (fun c => ff_exl (ff_X M) 1 c 1 3 4) n y))) M → cut 4 [(0, .inr (.inr 0)), (1, .inl z), (2, .inl y)] [] M := by
    intro n
    induction n with
    | zero =>
      intro y z hy h0 hz0 hz1 hq
      refine hkut [(4, [0, 1, 2])] 60 4 _ _ _ ?_
      simp only [ff_cn, Int.add_zero] at hq
      repeat' (first | (intro hh; exfalso; omega) | (refine And.intro (by first | assumption | omega) ?_) | (refine And.intro rfl ?_) | (refine And.intro ?_ ?_) | (intro qq hq1 hq2 hq3; have hq4 := hq2 (by omega) (by omega); subst hq4) | (intro hh) | omega | exact trivial)
      all_goals exact hq
    | succ n ih =>
      intro y z hy h0 hz0 hz1 hq
      refine hkut [(4, [0, 1, 2])] 60 4 _ _ _ ?_
      simp only [ff_cn] at hq
      split at hq
      · rename_i hp
        repeat' (first | (intro hh; exfalso; omega) | (refine And.intro (by first | assumption | omega) ?_) | (refine And.intro rfl ?_) | (refine And.intro ?_ ?_) | (intro qq hq1 hq2 hq3; have hq4 := hq2 (by omega) (by omega); subst hq4) | (intro hh) | omega | exact trivial)
        all_goals first | exact ih (y + 1) (z + 1) (by omega) (by omega) (by omega) (by omega) (ez_ret hq (by omega)) | (rename_i hz; rw [hp] at hz; cases hz; done)
      · rename_i hp
        repeat' (first | (intro hh; exfalso; omega) | (refine And.intro (by first | assumption | omega) ?_) | (refine And.intro rfl ?_) | (refine And.intro ?_ ?_) | (intro qq hq1 hq2 hq3; have hq4 := hq2 (by omega) (by omega); subst hq4) | (intro hh) | omega | exact trivial)
        all_goals first | exact absurd (by assumption) hp | exact ih (y + 1) z (by omega) (by omega) (by omega) (by omega) (ez_ret hq (by omega))
  refine hkut [(4, [0, 1, 2])] 60 0 _ _ _ ?_
  exact loop (M 7 1).toNat 0 0 (by omega) (by omega) (by omega) (by omega) (ez_ret hsp (by rw [Int.zero_add]; rfl))
theorem so_X5_ownHits : ez_Sound LX yX5_ownHits cX5_ownHits 3 (some .int) 5 sp_X5_ownHits := ez_sound (E := e_X5_ownHits) (prog := p_X5_ownHits) LX_ok (by decide +kernel) rfl (fun _ h => h) fo_X5 co_X5_ok (List.forall_mem_cons.mpr ⟨k_X5_214 (by decide), fun _ h => absurd h List.not_mem_nil⟩) dp_X5_ownHits b_X5_ownHits
theorem k_X5_218 {d : Nat} (h : 3 < d) : ez_CallOK LX RX5 d (218, 5+1, 3, sp_X5_dateHits) := ez_callV (y := yX5_dateHits) (bytes := cX5_dateHits) so_X5_dateHits h (by decide) q_525 q_72 ⟨by decide +kernel, by decide +kernel, by decide +kernel⟩ (Or.inl q_522) q_524 q_30 (T := TX5) (N := 10) rfl
def sp_X5_dateExplains : ez_Sp := fun as M Q => match as with | [.inr (.inr q), .inl c, .inl d] => q = 0 ∧ (0 ≤ c ∧ c < M 7 1 ∧ (d = -9 ∨ (0 ≤ d ∧ d ≤ 363))) ∧ ff_Inv (ff_X M) ∧ (ff_by (ff_X M) c d = true → Q (some (.inl 1)) M) ∧ (ff_by (ff_X M) c d = false → Q (some (.inl 0)) M) | _ => False
def e_X5_dateExplains : ez_E := (fl_X5, co_X5, [(139, 1+1, 2, sp_X1_get), (218, 5+1, 3, sp_X5_dateHits)], 1, 5)
set_option maxHeartbeats 4000000 in
set_option maxRecDepth 100000 in
theorem b_X5_dateExplains : ez_Body LX e_X5_dateExplains p_X5_dateExplains sp_X5_dateExplains := by
  intro as M Q has hM hsp
  unfold sp_X5_dateExplains at hsp
  split at hsp
  rotate_left
  · exact hsp.elim
  rename_i q c d
  have g_c : -2147483648 ≤ c ∧ c ≤ 2147483647 := ez_hd (ez_tl (has))
  have g_d : -2147483648 ≤ d ∧ d ≤ 2147483647 := ez_hd (ez_tl (ez_tl (has)))
  obtain ⟨rfl, hv, hI, hs1, hs2⟩ := hsp
  have hn := ff_n_X hI
  have hc := ff_ch_X hI (c := c) (by omega) (by omega)
  unfold ff_ch at hc
  refine ⟨Nat.le_of_ble_eq_true rfl, fun cut hcut hkut => ?_⟩
  have loop : ∀ (n : Nat) (y : Int), y + n = M 8 (11 * c + 4).toNat + 1 → 0 ≤ y → (ff_ex (ff_dhit (ff_X M) c d) n y = true → Q (some (.inl 1)) M) → (ff_ex (ff_dhit (ff_X M) c d) n y = false → Q (some (.inl 0)) M) → cut 21 [(0, .inr (.inr 0)), (1, .inl c), (2, .inl d), (3, .inl (M 8 (11 * c + 4).toNat)), (4, .inl y)] [] M := by
    intro n
    induction n with
    | zero =>
      intro y hy h0 hq1 hq2
      refine hkut [(21, [0, 1, 2, 3, 4])] 60 21 _ _ _ ?_
      repeat' (first | (intro hh; exfalso; omega) | (refine And.intro (by first | assumption | omega) ?_) | (refine And.intro rfl ?_) | (refine And.intro ?_ ?_) | (intro qq hq1 hq2 hq3; have hq4 := hq2 (by omega) (by omega); subst hq4) | (intro hh) | omega | exact trivial)
      all_goals exact hq2 rfl
    | succ n ih =>
      intro y hy h0 hq1 hq2
      refine hkut [(21, [0, 1, 2, 3, 4])] 60 21 _ _ _ ?_
      simp only [ff_ex] at hq1 hq2
      cases hp : ff_dhit (ff_X M) c d y
      · simp only [hp, Bool.false_or] at hq1 hq2
        repeat' (first | (intro hh; exfalso; omega) | (refine And.intro (by first | assumption | omega) ?_) | (refine And.intro rfl ?_) | (refine And.intro ?_ ?_) | (intro qq hq1 hq2 hq3; have hq4 := hq2 (by omega) (by omega); subst hq4) | (intro hh) | omega | exact trivial)
        all_goals first | exact ih (y + 1) (by omega) (by omega) hq1 hq2 | (rename_i hz; rw [hp] at hz; cases hz; done)
      · simp only [hp, Bool.true_or] at hq1
        repeat' (first | (intro hh; exfalso; omega) | (refine And.intro (by first | assumption | omega) ?_) | (refine And.intro rfl ?_) | (refine And.intro ?_ ?_) | (intro qq hq1 hq2 hq3; have hq4 := hq2 (by omega) (by omega); subst hq4) | (intro hh) | omega | exact trivial)
        all_goals first | exact hq1 trivial | (rename_i hz; rw [hp] at hz; cases hz; done)
  refine hkut [(21, [0, 1, 2, 3, 4])] 60 0 _ _ _ ?_
  repeat' (first | (intro hh; exfalso; omega) | (refine And.intro (by first | assumption | omega) ?_) | (refine And.intro rfl ?_) | (refine And.intro ?_ ?_) | (intro qq hq1 hq2 hq3; have hq4 := hq2 (by omega) (by omega); subst hq4) | (intro hh) | omega | exact trivial)
  all_goals exact loop (M 8 (11 * c + 4).toNat - M 8 (11 * c + 3).toNat + 1).toNat _ (by omega) (by omega) hs1 hs2
theorem so_X5_dateExplains : ez_Sound LX yX5_dateExplains cX5_dateExplains 5 (some .boolean) 4 sp_X5_dateExplains := ez_sound (E := e_X5_dateExplains) (prog := p_X5_dateExplains) LX_ok (by decide +kernel) rfl (fun _ h => h) fo_X5 co_X5_ok (List.forall_mem_cons.mpr ⟨k_X5_139 (by decide), List.forall_mem_cons.mpr ⟨k_X5_218 (by decide), fun _ h => absurd h List.not_mem_nil⟩⟩) dp_X5_dateExplains b_X5_dateExplains
