def ff_abv (T : Nat → Int) (e : Int) : Int := if e = 0 then -1 else ff_fig T (e - 7) 3
/-- whether k figures from e on can begin a year above that ahead -/
def ff_cby (T : Nat → Int) (e k : Int) : Bool :=
  if k = 1 then decide (ff_fig T e k * 100 < 600 ∧ ff_abv T e < ff_fig T e k * 100 + 99)
  else if k = 2 then decide (ff_fig T e k * 10 < 600 ∧ ff_abv T e < ff_fig T e k * 10 + 9)
  else decide (ff_fig T e k < 600 ∧ ff_abv T e < ff_fig T e k)
/-- whether the sign at p can stand there, if all ahead of it can -/
def ff_can (T : Nat → Int) (p : Int) : Bool :=
  if p % 7 = 3 then decide (T p.toNat = 43 ∨ T p.toNat = 45)
  else if p % 7 = 4 then decide ((48 ≤ T p.toNat ∧ T p.toNat ≤ 57) ∧ ff_fig T (p - p % 7 + 4) 1 ≤ 4)
  else if p % 7 = 5 then decide ((48 ≤ T p.toNat ∧ T p.toNat ≤ 57) ∧ ff_fig T (p - p % 7 + 4) 2 ≤ 40)
  else if p % 7 = 6 then decide (T p.toNat = 59 ∧ ff_fig T (p - p % 7) 3 < 599)
  else (decide (48 ≤ T p.toNat ∧ T p.toNat ≤ 57) && ff_cby T (p - p % 7) (p % 7 + 1))
def ff_ff (T : Nat → Int) : Nat → Int → Int
  | 0, p => if p % 7 = 6 then -9 else p
  | n + 1, p => if ff_can T p = true then ff_ff T n (p + 1) else p
/-- the first fault of a text of n signs -/
def ff_fault (T : Nat → Int) (n : Int) : Int := ff_ff T n.toNat 0
theorem k_X0_43 {d : Nat} (h : 1 < d) : ez_CallOK LX RX0 d (43, 0+1, 2, sp_X0_figures) := ez_callV (y := yX0_figures) (bytes := cX0_figures) so_X0_figures h (by decide) q_335 q_74 ⟨by decide +kernel, by decide +kernel, by decide +kernel⟩ (Or.inl q_332) q_334 q_8 (T := TX0) (N := 5) rfl
def sp_X0_canBeYear : ez_Sp := fun as M Q => match as with | [.inr (.inr q), .inl e, .inl k] => q = 3 ∧ (0 ≤ e ∧ 1 ≤ k ∧ k ≤ 3 ∧ e + k ≤ 48 ∧ (e = 0 ∨ 7 ≤ e)) ∧ (∀ j, 0 ≤ M 4 j ∧ M 4 j ≤ 255) ∧ (ff_cby (M 4) e k = true → Q (some (.inl 1)) M) ∧ (ff_cby (M 4) e k = false → Q (some (.inl 0)) M) | _ => False
def e_X0_canBeYear : ez_E := (fl_X0, co_X0, [(43, 0+1, 2, sp_X0_figures)], 1, 6)
set_option maxHeartbeats 4000000 in
set_option maxRecDepth 100000 in
theorem b_X0_canBeYear : ez_Body LX e_X0_canBeYear p_X0_canBeYear sp_X0_canBeYear := by
  intro as M Q has hM hsp
  unfold sp_X0_canBeYear at hsp
  split at hsp
  rotate_left
  · exact hsp.elim
  rename_i q e k
  have g_e : -2147483648 ≤ e ∧ e ≤ 2147483647 := ez_hd (ez_tl (has))
  have g_k : -2147483648 ≤ k ∧ k ≤ 2147483647 := ez_hd (ez_tl (ez_tl (has)))
  obtain ⟨rfl, hv, hT, hs1, hs2⟩ := hsp
  have h1 := ff_fig_r hT e k (by omega) (by omega)
  have h2 := ff_fig_r hT (e - 7) 3 (by omega) (by omega)
  refine ⟨Nat.le_of_ble_eq_true rfl, fun cut hcut hkut => hcut [] 80 0 _ _ _ ?_⟩
  unfold ff_cby ff_abv at hs1 hs2
  have hk : k = 1 ∨ k = 2 ∨ k = 3 := by omega
  rcases hk with rfl | rfl | rfl
  all_goals
    simp only [if_true, if_false, decide_eq_true_eq, decide_eq_false_iff_not, show ¬ (2 : Int) = 1 by decide, show ¬ (3 : Int) = 1 by decide, show ¬ (3 : Int) = 2 by decide] at hs1 hs2
    by_cases he : e = 0
  all_goals
    simp only [he, if_true, if_false] at hs1 hs2
    repeat' (first | (intro hh; exfalso; omega) | (refine And.intro (by first | assumption | omega) ?_) | (refine And.intro rfl ?_) | (refine And.intro ?_ ?_) | (intro qq hq1 hq2 hq3; have hq4 := hq2 (by omega) (by omega); subst hq4) | (intro hh) | exact trivial)
  all_goals first | exact hT | exact hs1 (by omega) | exact hs2 (by omega) | (subst he; first | exact hs1 (by omega) | exact hs2 (by omega))
theorem so_X0_canBeYear : ez_Sound LX yX0_canBeYear cX0_canBeYear 6 (some .boolean) 2 sp_X0_canBeYear := ez_sound (E := e_X0_canBeYear) (prog := p_X0_canBeYear) LX_ok (by decide +kernel) rfl (fun _ h => h) fo_X0 co_X0_ok (List.forall_mem_cons.mpr ⟨k_X0_43 (by decide), fun _ h => absurd h List.not_mem_nil⟩) dp_X0_canBeYear b_X0_canBeYear
theorem k_X0_40 {d : Nat} (h : 0 < d) : ez_CallOK LX RX0 d (40, 0, 1, sp_X0_isFigure) := ez_callS (y := yX0_isFigure) (bytes := cX0_isFigure) so_X0_isFigure h (by decide) q_331 q_74 ⟨by decide +kernel, by decide +kernel, by decide +kernel⟩ (Or.inl q_329) q_330
theorem k_X0_47 {d : Nat} (h : 2 < d) : ez_CallOK LX RX0 d (47, 0+1, 2, sp_X0_canBeYear) := ez_callV (y := yX0_canBeYear) (bytes := cX0_canBeYear) so_X0_canBeYear h (by decide) q_339 q_74 ⟨by decide +kernel, by decide +kernel, by decide +kernel⟩ (Or.inl q_336) q_338 q_9 (T := TX0) (N := 5) rfl
def sp_X0_canStand : ez_Sp := fun as M Q => match as with | [.inr (.inr q), .inl p] => q = 3 ∧ (0 ≤ p ∧ p ≤ 47) ∧ (∀ j, 0 ≤ M 4 j ∧ M 4 j ≤ 255) ∧ (ff_can (M 4) p = true → Q (some (.inl 1)) M) ∧ (ff_can (M 4) p = false → Q (some (.inl 0)) M) | _ => False
def e_X0_canStand : ez_E := (fl_X0, co_X0, [(36, 0, 2, sp_X5_at), (40, 0, 1, sp_X0_isFigure), (43, 0+1, 2, sp_X0_figures), (47, 0+1, 2, sp_X0_canBeYear)], 1, 5)
set_option maxHeartbeats 4000000 in
set_option maxRecDepth 100000 in
theorem b_X0_canStand : ez_Body LX e_X0_canStand p_X0_canStand sp_X0_canStand := by
  intro as M Q has hM hsp
  unfold sp_X0_canStand at hsp
  split at hsp
  rotate_left
  · exact hsp.elim
  rename_i q p
  have g_p : -2147483648 ≤ p ∧ p ≤ 2147483647 := ez_hd (ez_tl (has))
  obtain ⟨rfl, hv, hT, hs1, hs2⟩ := hsp
  have h1 := ff_fig_r hT (p - p % 7 + 4) 1 (by omega) (by omega)
  have h2 := ff_fig_r hT (p - p % 7 + 4) 2 (by omega) (by omega)
  have h3 := ff_fig_r hT (p - p % 7) 3 (by omega) (by omega)
  refine ⟨Nat.le_of_ble_eq_true rfl, fun cut hcut hkut => hcut [] 80 0 _ _ _ ?_⟩
  unfold ff_can at hs1 hs2
  have hk : (p % 7 = 0 ∨ p % 7 = 1 ∨ p % 7 = 2) ∨ p % 7 = 3 ∨ p % 7 = 4 ∨ p % 7 = 5 ∨ p % 7 = 6 := by omega
  rcases hk with hk | hk | hk | hk | hk
  · simp only [if_false, show ¬ p % 7 = 3 by omega, show ¬ p % 7 = 4 by omega, show ¬ p % 7 = 5 by omega, show ¬ p % 7 = 6 by omega, Bool.and_eq_true, decide_eq_true_eq] at hs1 hs2
    by_cases hf : 48 ≤ M 4 p.toNat ∧ M 4 p.toNat ≤ 57
    · cases hc : ff_cby (M 4) (p - p % 7) (p % 7 + 1)
      · (repeat' (first | (intro hh; exfalso; omega) | (refine And.intro (by first | assumption | omega) ?_) | (refine And.intro rfl ?_) | (refine And.intro ?_ ?_) | (intro qq hq1 hq2 hq3; have hq4 := hq2 (by omega) (by omega); subst hq4) | (intro hh) | exact trivial))
        all_goals first | exact hT | exact hs2 (by rw [hc]; simp) | (exfalso; simp_all; done)
      · (repeat' (first | (intro hh; exfalso; omega) | (refine And.intro (by first | assumption | omega) ?_) | (refine And.intro rfl ?_) | (refine And.intro ?_ ?_) | (intro qq hq1 hq2 hq3; have hq4 := hq2 (by omega) (by omega); subst hq4) | (intro hh) | exact trivial))
        all_goals first | exact hT | exact hs1 ⟨hf, hc⟩ | (exfalso; simp_all; done)
    · (repeat' (first | (intro hh; exfalso; omega) | (refine And.intro (by first | assumption | omega) ?_) | (refine And.intro rfl ?_) | (refine And.intro ?_ ?_) | (intro qq hq1 hq2 hq3; have hq4 := hq2 (by omega) (by omega); subst hq4) | (intro hh) | exact trivial))
      all_goals first | exact hT | exact hs2 (by simp [hf])
  · simp only [hk, if_true, decide_eq_true_eq, decide_eq_false_iff_not] at hs1 hs2
    repeat' (first | (intro hh; exfalso; omega) | (refine And.intro (by first | assumption | omega) ?_) | (refine And.intro rfl ?_) | (refine And.intro ?_ ?_) | (intro qq hq1 hq2 hq3; have hq4 := hq2 (by omega) (by omega); subst hq4) | (intro hh) | exact trivial)
    all_goals first | exact hT | exact hs1 (by omega) | exact hs2 (by omega)
  · simp only [hk, if_true, if_false, show ¬ (4 : Int) = 3 by decide, decide_eq_true_eq, decide_eq_false_iff_not] at hs1 hs2
    rw [hk] at h1
    repeat' (first | (intro hh; exfalso; omega) | (refine And.intro (by first | assumption | omega) ?_) | (refine And.intro rfl ?_) | (refine And.intro ?_ ?_) | (intro qq hq1 hq2 hq3; have hq4 := hq2 (by omega) (by omega); subst hq4) | (intro hh) | exact trivial)
    all_goals first | exact hT | (rw [hk] at *; first | exact hs1 (by omega) | exact hs2 (by omega))
  · simp only [hk, if_true, if_false, show ¬ (5 : Int) = 3 by decide, show ¬ (5 : Int) = 4 by decide, decide_eq_true_eq, decide_eq_false_iff_not] at hs1 hs2
    rw [hk] at h2
    repeat' (first | (intro hh; exfalso; omega) | (refine And.intro (by first | assumption | omega) ?_) | (refine And.intro rfl ?_) | (refine And.intro ?_ ?_) | (intro qq hq1 hq2 hq3; have hq4 := hq2 (by omega) (by omega); subst hq4) | (intro hh) | exact trivial)
    all_goals first | exact hT | (rw [hk] at *; first | exact hs1 (by omega) | exact hs2 (by omega))
  · simp only [hk, if_true, if_false, show ¬ (6 : Int) = 3 by decide, show ¬ (6 : Int) = 4 by decide, show ¬ (6 : Int) = 5 by decide, decide_eq_true_eq, decide_eq_false_iff_not] at hs1 hs2
    rw [hk] at h3
    repeat' (first | (intro hh; exfalso; omega) | (refine And.intro (by first | assumption | omega) ?_) | (refine And.intro rfl ?_) | (refine And.intro ?_ ?_) | (intro qq hq1 hq2 hq3; have hq4 := hq2 (by omega) (by omega); subst hq4) | (intro hh) | exact trivial)
    all_goals first | exact hT | (rw [hk] at *; first | exact hs1 (by omega) | exact hs2 (by omega))
theorem so_X0_canStand : ez_Sound LX yX0_canStand cX0_canStand 5 (some .boolean) 3 sp_X0_canStand := ez_sound (E := e_X0_canStand) (prog := p_X0_canStand) LX_ok (by decide +kernel) rfl (fun _ h => h) fo_X0 co_X0_ok (List.forall_mem_cons.mpr ⟨k_X0_36 (by decide), List.forall_mem_cons.mpr ⟨k_X0_40 (by decide), List.forall_mem_cons.mpr ⟨k_X0_43 (by decide), List.forall_mem_cons.mpr ⟨k_X0_47 (by decide), fun _ h => absurd h List.not_mem_nil⟩⟩⟩⟩) dp_X0_canStand b_X0_canStand
theorem k_X0_32 {d : Nat} (h : 3 < d) : ez_CallOK LX RX0 d (32, 0+1, 1, sp_X0_canStand) := ez_callV (y := yX0_canStand) (bytes := cX0_canStand) so_X0_canStand h (by decide) q_327 q_74 ⟨by decide +kernel, by decide +kernel, by decide +kernel⟩ (Or.inl q_324) q_326 q_7 (T := TX0) (N := 5) rfl
def sp_X0_firstFault : ez_Sp := fun as M Q => match as with | [.inr (.inr q)] => q = 3 ∧ (0 ≤ M 3 3 ∧ M 3 3 ≤ 48) ∧ (∀ j, 0 ≤ M 4 j ∧ M 4 j ≤ 255) ∧ Q (some (.inl (ff_fault (M 4) (M 3 3)))) M | _ => False
def e_X0_firstFault : ez_E := (fl_X0, co_X0, [(32, 0+1, 1, sp_X0_canStand)], 0, 2)
set_option maxHeartbeats 4000000 in
set_option maxRecDepth 100000 in
theorem b_X0_firstFault : ez_Body LX e_X0_firstFault p_X0_firstFault sp_X0_firstFault := by
  intro as M Q has hM hsp
  unfold sp_X0_firstFault at hsp
  split at hsp
  rotate_left
  · exact hsp.elim
  rename_i q
  obtain ⟨rfl, hv, hT, hsp⟩ := hsp
  refine ⟨Nat.le_of_ble_eq_true rfl, fun cut hcut hkut => ?_⟩
  have loop : ∀ (n : Nat) (p : Int), p + n = M 3 3 → 0 ≤ p → Q (some (.inl (ff_ff (M 4) n p))) M → cut 2 [(1, .inl p), (0, .inr (.inr 3))] [] M := by
    intro n
    induction n with
    | zero =>
      intro p hp h0 hq
      refine hcut [2] 60 2 _ _ _ ?_
      simp only [ff_ff] at hq
      split at hq
      · (repeat' (first | (intro hh; exfalso; omega) | (refine And.intro (by first | assumption | omega) ?_) | (refine And.intro rfl ?_) | (refine And.intro ?_ ?_) | (intro qq hq1 hq2 hq3; have hq4 := hq2 (by omega) (by omega); subst hq4) | (intro hh) | exact trivial))
        all_goals exact hq
      · (repeat' (first | (intro hh; exfalso; omega) | (refine And.intro (by first | assumption | omega) ?_) | (refine And.intro rfl ?_) | (refine And.intro ?_ ?_) | (intro qq hq1 hq2 hq3; have hq4 := hq2 (by omega) (by omega); subst hq4) | (intro hh) | exact trivial))
        all_goals exact ez_ret hq (by omega)
    | succ n ih =>
      intro p hp h0 hq
      refine hcut [2] 60 2 _ _ _ ?_
      simp only [ff_ff] at hq
      split at hq
      · rename_i hc
        repeat' (first | (intro hh; exfalso; omega) | (refine And.intro (by first | assumption | omega) ?_) | (refine And.intro rfl ?_) | (refine And.intro ?_ ?_) | (intro qq hq1 hq2 hq3; have hq4 := hq2 (by omega) (by omega); subst hq4) | (intro hh) | exact trivial)
        all_goals first | exact hT | (rename_i hd; rw [hc] at hd; cases hd; done) | exact ih _ (by omega) (by omega) hq
      · rename_i hc
        repeat' (first | (intro hh; exfalso; omega) | (refine And.intro (by first | assumption | omega) ?_) | (refine And.intro rfl ?_) | (refine And.intro ?_ ?_) | (intro qq hq1 hq2 hq3; have hq4 := hq2 (by omega) (by omega); subst hq4) | (intro hh) | exact trivial)
        all_goals first | exact hT | (rename_i hd; exact absurd hd hc) | exact hq
  refine hcut [2] 60 0 _ _ _ ?_
  exact loop (M 3 3).toNat 0 (by omega) (by omega) hsp
theorem so_X0_firstFault : ez_Sound LX yX0_firstFault cX0_firstFault 2 (some .int) 4 sp_X0_firstFault := ez_sound (E := e_X0_firstFault) (prog := p_X0_firstFault) LX_ok (by decide +kernel) rfl (fun _ h => h) fo_X0 co_X0_ok (List.forall_mem_cons.mpr ⟨k_X0_32 (by decide), fun _ h => absurd h List.not_mem_nil⟩) dp_X0_firstFault b_X0_firstFault
