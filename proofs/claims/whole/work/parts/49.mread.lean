/-! ===== the model reads the text ===== -/
theorem ez_up_self (M : ez_M) (i j : Nat) {v : Int} (h : v = M i j) : ez_up M i j v = M := by
  funext a b
  simp only [ez_up]
  split
  · rename_i hz
    rw [hz.1, hz.2, h]
  · rfl
theorem ez_up_up (M : ez_M) (i j : Nat) (a b : Int) : ez_up (ez_up M i j a) i j b = ez_up M i j b := by
  funext x y
  simp only [ez_up]
  split <;> rfl
theorem ff_ff_s {T : Nat → Int} {n p : Int} (h : p < n) (hc : ff_can T p = true) : ff_ff T (n - p).toNat p = ff_ff T (n - (p + 1)).toNat (p + 1) := by
  rw [show (n - p).toNat = (n - (p + 1)).toNat + 1 by omega]
  simp only [ff_ff]
  rw [if_pos hc]
theorem ff_ff_n {T : Nat → Int} {n p : Int} (h : p < n) (hc : ¬ ff_can T p = true) : ff_ff T (n - p).toNat p = p := by
  rw [show (n - p).toNat = (n - (p + 1)).toNat + 1 by omega]
  simp only [ff_ff]
  rw [if_neg hc]
theorem ff_ff_e {T : Nat → Int} {n p : Int} (h : p = n) : ff_ff T (n - p).toNat p = if p % 7 = 6 then -9 else p := by
  rw [show (n - p).toNat = 0 by omega]
  rfl
theorem ff_fig_1 (T : Nat → Int) (p : Int) : ff_fig T p 1 = T p.toNat - 48 := by
  show 0 * 10 + T p.toNat - 48 = _
  omega
theorem ff_fig_2 (T : Nat → Int) (p : Int) : ff_fig T p 2 = 10 * ff_fig T p 1 + (T (p + 1).toNat - 48) := by
  show (0 * 10 + T p.toNat - 48) * 10 + T (p + 1).toNat - 48 = 10 * (0 * 10 + T p.toNat - 48) + (T (p + 1).toNat - 48)
  omega
theorem ff_fig_3 (T : Nat → Int) (p : Int) : ff_fig T p 3 = 10 * ff_fig T p 2 + (T (p + 2).toNat - 48) := by
  show ((0 * 10 + T p.toNat - 48) * 10 + T (p + 1).toNat - 48) * 10 + T (p + 1 + 1).toNat - 48 = 10 * ((0 * 10 + T p.toNat - 48) * 10 + T (p + 1).toNat - 48) + (T (p + 2).toNat - 48)
  rw [show p + 1 + 1 = p + 2 by omega]
  omega
theorem ff_fig_0 (T : Nat → Int) (p : Int) : ff_fig T p 0 = 0 := rfl
theorem ff_can_0 {T : Nat → Int} {P pv l y : Int} (h0 : 0 ≤ P) (hP : P % 7 = 0) (hpv : pv = ff_abv T P) (hy : y = ff_fig T P 0) (hy0 : 0 ≤ y) (hy1 : y ≤ 0) (hl0 : 0 ≤ l) (hl1 : l = 0 ∨ y * 10 * 100 + (l - 1) * 100 + 99 ≤ pv) (hl2 : l = 10 ∨ pv < y * 10 * 100 + l * 100 + 99) : ff_can T (P + 0) = true ↔ (l ≤ T (P + 0).toNat - 48 ∧ T (P + 0).toNat - 48 ≤ 5) := by
  have hm : (P + 0) % 7 = 0 := by omega
  have hf := ff_fig_1 T P
  skip
  unfold ff_can
  rw [hm, if_neg (by decide), if_neg (by decide), if_neg (by decide), if_neg (by decide), show P + 0 - 0 = P by omega]
  unfold ff_cby
  rw [← hpv]
  simp only [show ((0 : Int) + 1 = 1) = True by simp, if_true]
  simp only [Bool.and_eq_true, decide_eq_true_eq]
  rw [Int.zero_add, Int.add_zero]
  rw [hf]
  skip
  generalize T _ = t
  omega
theorem ff_can_1 {T : Nat → Int} {P pv l y : Int} (h0 : 0 ≤ P) (hP : P % 7 = 0) (hpv : pv = ff_abv T P) (hy : y = ff_fig T P 1) (hy0 : 0 ≤ y) (hy1 : y ≤ 5) (hl0 : 0 ≤ l) (hl1 : l = 0 ∨ y * 10 * 10 + (l - 1) * 10 + 9 ≤ pv) (hl2 : l = 10 ∨ pv < y * 10 * 10 + l * 10 + 9) : ff_can T (P + 1) = true ↔ (l ≤ T (P + 1).toNat - 48 ∧ T (P + 1).toNat - 48 ≤ 9) := by
  have hm : (P + 1) % 7 = 1 := by omega
  have hf := ff_fig_2 T P
  skip
  unfold ff_can
  rw [hm, if_neg (by decide), if_neg (by decide), if_neg (by decide), if_neg (by decide), show P + 1 - 1 = P by omega]
  unfold ff_cby
  rw [← hpv]
  simp only [show ((1 : Int) + 1) = 2 by decide, show ¬ (2 : Int) = 1 by decide, if_true, if_false]
  simp only [Bool.and_eq_true, decide_eq_true_eq]
  skip
  rw [hf]
  rw [← hy]
  generalize T _ = t
  omega
theorem ff_can_2 {T : Nat → Int} {P pv l y : Int} (h0 : 0 ≤ P) (hP : P % 7 = 0) (hpv : pv = ff_abv T P) (hy : y = ff_fig T P 2) (hy0 : 0 ≤ y) (hy1 : y ≤ 59) (hl0 : 0 ≤ l) (hl1 : l = 0 ∨ y * 10 * 1 + (l - 1) * 1 + 0 ≤ pv) (hl2 : l = 10 ∨ pv < y * 10 * 1 + l * 1 + 0) : ff_can T (P + 2) = true ↔ (l ≤ T (P + 2).toNat - 48 ∧ T (P + 2).toNat - 48 ≤ 9) := by
  have hm : (P + 2) % 7 = 2 := by omega
  have hf := ff_fig_3 T P
  skip
  unfold ff_can
  rw [hm, if_neg (by decide), if_neg (by decide), if_neg (by decide), if_neg (by decide), show P + 2 - 2 = P by omega]
  unfold ff_cby
  rw [← hpv]
  simp only [show ((2 : Int) + 1) = 3 by decide, show ¬ (3 : Int) = 1 by decide, show ¬ (3 : Int) = 2 by decide, if_false]
  simp only [Bool.and_eq_true, decide_eq_true_eq]
  skip
  rw [hf]
  rw [← hy]
  generalize T _ = t
  omega
def sp_X6_sign : ez_Sp := fun as M Q => match as with | [.inr (.inr q), .inl c] => q = 0 ∧ (0 ≤ M 0 6 ∧ M 0 6 ≤ M 0 5 ∧ M 0 5 ≤ 48) ∧ ((M 0 6 < M 0 5 ∧ M 2 (M 0 6).toNat = c) → Q (some (.inl 1)) (ez_up M 0 6 (M 0 6 + 1))) ∧ (¬ (M 0 6 < M 0 5 ∧ M 2 (M 0 6).toNat = c) → Q (some (.inl 0)) M) | _ => False
def e_X6_sign : ez_E := (fl_X6, co_X6, [], 1, 3)
set_option maxHeartbeats 4000000 in
set_option maxRecDepth 100000 in
theorem b_X6_sign : ez_Body LM e_X6_sign p_X6_sign sp_X6_sign := by
  intro as M Q has hM hsp
  unfold sp_X6_sign at hsp
  split at hsp
  rotate_left
  · exact hsp.elim
  rename_i q c
  have g_c : -2147483648 ≤ c ∧ c ≤ 2147483647 := ez_hd (ez_tl (has))
  obtain ⟨rfl, hv, hs1, hs2⟩ := hsp
  have hs2 : ¬ (M 0 6 < M 0 5 ∧ M 2 (M 0 6).toNat = c) → Q (some (.inl 0)) (ez_up M 0 6 (M 0 6 + 0)) := fun h => ez_mem (hs2 h) (ez_up_self M 0 6 (by omega))
  refine ⟨Nat.le_of_ble_eq_true rfl, fun cut hcut hkut => hcut [] 60 0 _ _ _ ?_⟩
  repeat' (first | (intro hh; exfalso; omega) | (refine And.intro (by first | assumption | omega) ?_) | (refine And.intro rfl ?_) | (refine And.intro ?_ ?_) | (intro qq hq1 hq2 hq3; have hq4 := hq2 (by omega) (by omega); subst hq4) | (intro hh) | omega | exact trivial)
  all_goals first | exact hs1 (by omega) | exact hs2 (by omega)
theorem so_X6_sign : ez_Sound LM yX6_sign cX6_sign 3 (some .boolean) 0 sp_X6_sign := ez_sound (E := e_X6_sign) (prog := p_X6_sign) LM_ok (by decide +kernel) rfl (fun _ h => h) fo_X6 co_X6_ok (fun _ h => absurd h List.not_mem_nil) dp_X6_sign b_X6_sign
def sp_X6_figure : ez_Sp := fun as M Q => match as with | [.inr (.inr q), .inl lo, .inl hi] => q = 0 ∧ (0 ≤ M 0 6 ∧ M 0 6 ≤ M 0 5 ∧ M 0 5 ≤ 48) ∧ (∀ j, 0 ≤ M 2 j ∧ M 2 j ≤ 255) ∧ ((M 0 6 < M 0 5 ∧ lo ≤ M 2 (M 0 6).toNat - 48 ∧ M 2 (M 0 6).toNat - 48 ≤ hi) → Q (some (.inl (M 2 (M 0 6).toNat - 48))) (ez_up M 0 6 (M 0 6 + 1))) ∧ (¬ (M 0 6 < M 0 5 ∧ lo ≤ M 2 (M 0 6).toNat - 48 ∧ M 2 (M 0 6).toNat - 48 ≤ hi) → Q (some (.inl (-9))) M) | _ => False
def e_X6_figure : ez_E := (fl_X6, co_X6, [(69, 0, 3, sp_X6_in)], 0, 3)
set_option maxHeartbeats 4000000 in
set_option maxRecDepth 100000 in
theorem b_X6_figure : ez_Body LM e_X6_figure p_X6_figure sp_X6_figure := by
  intro as M Q has hM hsp
  unfold sp_X6_figure at hsp
  split at hsp
  rotate_left
  · exact hsp.elim
  rename_i q lo hi
  have g_lo : -2147483648 ≤ lo ∧ lo ≤ 2147483647 := ez_hd (ez_tl (has))
  have g_hi : -2147483648 ≤ hi ∧ hi ≤ 2147483647 := ez_hd (ez_tl (ez_tl (has)))
  obtain ⟨rfl, hv, hT, hs1, hs2⟩ := hsp
  have ht := hT (M 0 6).toNat
  have e6 : ez_up M 0 6 (M 0 6 + 1) 0 6 = M 0 6 + 1 := by simp [ez_up]
  have e2 : ∀ j, ez_up M 0 6 (M 0 6 + 1) 2 j = M 2 j := fun j => by simp [ez_up]
  have e3 : ez_up M 0 6 (M 0 6 + 1) 0 6 - 1 = M 0 6 := by omega
  have e4 : ez_up M 0 6 (M 0 6 + 1) 2 (ez_up M 0 6 (M 0 6 + 1) 0 6 - 1).toNat = M 2 (M 0 6).toNat := by rw [e3, e2]
  refine ⟨Nat.le_of_ble_eq_true rfl, fun cut hcut hkut => hcut [] 60 0 _ _ _ ?_⟩
  by_cases hc : M 0 6 < M 0 5 ∧ lo ≤ M 2 (M 0 6).toNat - 48 ∧ M 2 (M 0 6).toNat - 48 ≤ hi
  · have hs1 := hs1 hc
    rw [← e4] at hs1
    repeat' (first | (intro hh; exfalso; omega) | (refine And.intro (by first | assumption | omega) ?_) | (refine And.intro rfl ?_) | (refine And.intro ?_ ?_) | (intro qq hq1 hq2 hq3; have hq4 := hq2 (by omega) (by omega); subst hq4) | (intro hh) | omega | exact trivial)
    all_goals exact hs1
  · have hs2 := hs2 hc
    repeat' (first | (intro hh; exfalso; omega) | (refine And.intro (by first | assumption | omega) ?_) | (refine And.intro rfl ?_) | (refine And.intro ?_ ?_) | (intro qq hq1 hq2 hq3; have hq4 := hq2 (by omega) (by omega); subst hq4) | (intro hh) | omega | exact trivial)
    all_goals exact hs2
theorem so_X6_figure : ez_Sound LM yX6_figure cX6_figure 3 (some .int) 1 sp_X6_figure := ez_sound (E := e_X6_figure) (prog := p_X6_figure) LM_ok (by decide +kernel) rfl (fun _ h => h) fo_X6 co_X6_ok (List.forall_mem_cons.mpr ⟨k_X6_69 (by decide), fun _ h => absurd h List.not_mem_nil⟩) dp_X6_figure b_X6_figure
theorem k_X6_128 {d : Nat} (h : 1 < d) : ez_CallOK LM RX6 d (128, 6+1, 2, sp_X6_figure) := ez_callV (y := yX6_figure) (bytes := cX6_figure) so_X6_figure h (by decide) q_841 q_78 ⟨by decide +kernel, by decide +kernel, by decide +kernel⟩ (Or.inl q_838) q_840 q_51 (T := TX6) (N := 28) rfl
def sp_X6_readYear : ez_Sp := fun as M Q => match as with | [.inr (.inr q), .inl pv] => q = 0 ∧ ((0 ≤ M 0 6 ∧ M 0 6 ≤ M 0 5 ∧ M 0 5 ≤ 48) ∧ M 0 6 % 7 = 0) ∧ (∀ j, 0 ≤ M 2 j ∧ M 2 j ≤ 255) ∧ (pv = ff_abv (M 2) (M 0 6) ∧ -1 ≤ pv ∧ pv ≤ 599) ∧ (∀ x : Int, ff_ff (M 2) (M 0 5 - M 0 6).toNat (M 0 6) = x → 0 ≤ x → x ≤ M 0 5 → Q (some (.inl (-9))) (ez_up M 0 6 x)) ∧ ((M 0 6 + 3 ≤ M 0 5 ∧ ff_ff (M 2) (M 0 5 - M 0 6).toNat (M 0 6) = ff_ff (M 2) (M 0 5 - (M 0 6 + 3)).toNat (M 0 6 + 3) ∧ 0 ≤ ff_fig (M 2) (M 0 6) 3 ∧ ff_fig (M 2) (M 0 6) 3 ≤ 599) → Q (some (.inl (ff_fig (M 2) (M 0 6) 3))) (ez_up M 0 6 (M 0 6 + 3))) | _ => False
def e_X6_readYear : ez_E := (fl_X6, co_X6, [(128, 6+1, 2, sp_X6_figure)], 0, 8)
set_option maxHeartbeats 4000000 in
set_option maxRecDepth 100000 in
theorem b_X6_readYear : ez_Body LM e_X6_readYear p_X6_readYear sp_X6_readYear := by
  intro as M Q has hM hsp
  unfold sp_X6_readYear at hsp
  split at hsp
  rotate_left
  · exact hsp.elim
  rename_i q pv
  have g_pv : -2147483648 ≤ pv ∧ pv ≤ 2147483647 := ez_hd (ez_tl (has))
  obtain ⟨rfl, ⟨hv, hP7⟩, hT, hpv, hs1, hs2⟩ := hsp
  generalize hPe : M 0 6 = P at hv hP7 hpv hs1 hs2
  refine ⟨Nat.le_of_ble_eq_true rfl, fun cut hcut hkut => ?_⟩
  have st3 : ∀ y : Int, y = ff_fig (M 2) P 3 → 0 ≤ y → y ≤ 599 → P + 3 ≤ M 0 5 → ff_ff (M 2) (M 0 5 - P).toNat P = ff_ff (M 2) (M 0 5 - (P + 3)).toNat (P + 3) → cut 4 [(0, .inr (.inr 0)), (1, .inl pv), (2, .inl y), (3, .inl 3)] [] (ez_up M 0 6 (P + 3)) := by
    intro y hy hy0 hy1 hlen hF
    rw [hy] at hy0 hy1
    have hs2 := hs2 ⟨hlen, hF, hy0, hy1⟩
    rw [← hy] at hs2
    refine hkut [(40, [0, 1, 2, 3, 4, 5, 6]), (73, [0, 1, 2, 3, 6])] 60 4 _ _ _ ?_
    repeat' (first | (intro hh; exfalso; omega) | (refine And.intro (by first | assumption | omega) ?_) | (refine And.intro rfl ?_) | (refine And.intro ?_ ?_) | (intro qq hq1 hq2 hq3; have hq4 := hq2 (by omega) (by omega); subst hq4) | (intro hh) | omega | exact trivial)
    all_goals exact hs2
  have st2 : ∀ y : Int, y = ff_fig (M 2) P 2 → 0 ≤ y → y ≤ 59 → P + 2 ≤ M 0 5 → ff_ff (M 2) (M 0 5 - P).toNat P = ff_ff (M 2) (M 0 5 - (P + 2)).toNat (P + 2) → cut 4 [(0, .inr (.inr 0)), (1, .inl pv), (2, .inl y), (3, .inl 2)] [] (ez_up M 0 6 (P + 2)) := by
    intro y hy hy0 hy1 hlen hF
    have hcol : ∀ x, ez_up (ez_up M 0 6 (P + 2)) 0 6 x = ez_up M 0 6 x := fun x => ez_up_up M 0 6 _ x
    have k6 : ez_up M 0 6 (P + 2) 0 6 = P + 2 := by simp [ez_up]
    have k5 : ez_up M 0 6 (P + 2) 0 5 = M 0 5 := by simp [ez_up]
    have k2 : ez_up M 0 6 (P + 2) 2 = M 2 := ez_up_ne 2 (by decide)
    have st3 := st3
    rw [← k2] at st3 hT
    rw [← k5] at st3 hlen hv
    have hs1 : ∀ x : Int, ff_ff (M 2) (M 0 5 - P).toNat P = x → 0 ≤ x → x ≤ M 0 5 → Q (some (.inl (-9))) (ez_up (ez_up M 0 6 (P + 2)) 0 6 x) := fun x => by
      rw [hcol]
      exact hs1 x
    have st3 : ∀ y : Int, y = ff_fig (M 2) P 3 → 0 ≤ y → y ≤ 599 → P + 3 ≤ M 0 5 → ff_ff (M 2) (M 0 5 - P).toNat P = ff_ff (M 2) (M 0 5 - (P + 3)).toNat (P + 3) → cut 4 [(0, .inr (.inr 0)), (1, .inl pv), (2, .inl y), (3, .inl 3)] [] (ez_up (ez_up M 0 6 (P + 2)) 0 6 (P + 3)) := fun y h1 h2 h3 h4 h5 => by
      rw [hcol]
      exact st3 y h1 h2 h3 h4 h5
    rw [← k2, ← k5] at st3 hs1 hF
    rw [← k2] at hy
    have hpvA := hpv.1
    rw [← k2] at hpvA
    generalize ez_up M 0 6 (P + 2) = K at k6 k5 k2 hs1 st3 hT hlen hv hF hy hpvA ⊢
    have fin : ∀ l : Int, 0 ≤ l → l ≤ 10 → (l = 0 ∨ y * 10 * 1 + (l - 1) * 1 + 0 ≤ pv) → (l = 10 ∨ pv < y * 10 * 1 + l * 1 + 0) → cut 73 [(0, .inr (.inr 0)), (1, .inl pv), (2, .inl y), (3, .inl 2), (6, .inl l)] [] K := by
      intro l hl0 hl10 hl1 hl2
      have hcan := ff_can_2 (T := K 2) hv.1 hP7 hpvA hy hy0 hy1 hl0 hl1 hl2
      have ht := hT (P + 2).toNat
      have hfg := ff_fig_3 (K 2) P
      refine hkut [(4, [0, 1, 2, 3])] 60 73 _ _ _ ?_
      by_cases hc : P + 2 < K 0 5 ∧ l ≤ K 2 (P + 2).toNat - 48 ∧ K 2 (P + 2).toNat - 48 ≤ 9
      · have hF2 := ff_ff_s hc.1 (hcan.mpr hc.2)
        rw [show P + 2 + 1 = P + 3 by omega] at hF2
        have hyn : 10 * y + (K 2 (P + 2).toNat - 48) = ff_fig (K 2) P 3 := by
          rw [hfg, hy]
          skip
        have st3 := st3 (10 * y + (K 2 (P + 2).toNat - 48)) hyn (by omega) (by omega) (by omega) (by rw [hF, hF2])
        rw [← k6] at hc st3 ht
        rw [show P + 3 = K 0 6 + 1 by omega] at st3
        repeat' (first | (intro hh; exfalso; omega) | (refine And.intro (by first | assumption | omega) ?_) | (refine And.intro rfl ?_) | (refine And.intro ?_ ?_) | (intro qq hq1 hq2 hq3; have hq4 := hq2 (by omega) (by omega); subst hq4) | (intro hh) | omega | exact trivial)
        all_goals first | exact st3 | exact hT | (exfalso; omega)
      · have hFx : ff_ff (K 2) (K 0 5 - P).toNat P = P + 2 := by
          rw [hF]
          by_cases he : P + 2 = K 0 5
          · rw [ff_ff_e he, if_neg (by omega)]
          · exact ff_ff_n (by omega) (fun z => hc ⟨by omega, hcan.mp z⟩)
        have hs1 := hs1 (P + 2) hFx (by omega) (by omega)
        have hs1 := ez_mem hs1 (ez_up_self K 0 6 k6.symm).symm
        rw [← k6] at hc ht
        repeat' (first | (intro hh; exfalso; omega) | (refine And.intro (by first | assumption | omega) ?_) | (refine And.intro rfl ?_) | (refine And.intro ?_ ?_) | (intro qq hq1 hq2 hq3; have hq4 := hq2 (by omega) (by omega); subst hq4) | (intro hh) | omega | exact trivial)
        all_goals first | exact hs1 | exact hT | (exfalso; omega)
    have inner : ∀ (n : Nat) (l : Int), l + n = 10 → 0 ≤ l → (l = 0 ∨ y * 10 * 1 + (l - 1) * 1 + 0 ≤ pv) → cut 40 [(0, .inr (.inr 0)), (1, .inl pv), (2, .inl y), (3, .inl 2), (4, .inl 0), (5, .inl 1), (6, .inl l)] [] K := by
      intro n
      induction n with
      | zero =>
        intro l hl h0 h1
        have hf := fin l h0 (by omega) h1 (Or.inl (by omega))
        refine hkut [(40, [0, 1, 2, 3, 4, 5, 6]), (73, [0, 1, 2, 3, 6])] 60 40 _ _ _ ?_
        repeat' (first | (intro hh; exfalso; omega) | (refine And.intro (by first | assumption | omega) ?_) | (refine And.intro rfl ?_) | (refine And.intro ?_ ?_) | (intro qq hq1 hq2 hq3; have hq4 := hq2 (by omega) (by omega); subst hq4) | (intro hh) | omega | exact trivial)
        all_goals exact hf
      | succ n ih =>
        intro l hl h0 h1
        refine hkut [(40, [0, 1, 2, 3, 4, 5, 6]), (73, [0, 1, 2, 3, 6])] 60 40 _ _ _ ?_
        by_cases hc : y * 10 * 1 + l * 1 + 0 ≤ pv
        · have ih := ih (l + 1) (by omega) (by omega) (Or.inr (by omega))
          repeat' (first | (intro hh; exfalso; omega) | (refine And.intro (by first | assumption | omega) ?_) | (refine And.intro rfl ?_) | (refine And.intro ?_ ?_) | (intro qq hq1 hq2 hq3; have hq4 := hq2 (by omega) (by omega); subst hq4) | (intro hh) | omega | exact trivial)
          all_goals exact ih
        · have hf := fin l h0 (by omega) h1 (Or.inr (by omega))
          repeat' (first | (intro hh; exfalso; omega) | (refine And.intro (by first | assumption | omega) ?_) | (refine And.intro rfl ?_) | (refine And.intro ?_ ?_) | (intro qq hq1 hq2 hq3; have hq4 := hq2 (by omega) (by omega); subst hq4) | (intro hh) | omega | exact trivial)
          all_goals exact hf
    have hi0 := inner 10 0 (by omega) (by omega) (Or.inl rfl)
    refine hkut [(40, [0, 1, 2, 3, 4, 5, 6]), (73, [0, 1, 2, 3, 6])] 60 4 _ _ _ ?_
    repeat' (first | (intro hh; exfalso; omega) | (refine And.intro (by first | assumption | omega) ?_) | (refine And.intro rfl ?_) | (refine And.intro ?_ ?_) | (intro qq hq1 hq2 hq3; have hq4 := hq2 (by omega) (by omega); subst hq4) | (intro hh) | omega | exact trivial)
    all_goals exact hi0
  have st1 : ∀ y : Int, y = ff_fig (M 2) P 1 → 0 ≤ y → y ≤ 5 → P + 1 ≤ M 0 5 → ff_ff (M 2) (M 0 5 - P).toNat P = ff_ff (M 2) (M 0 5 - (P + 1)).toNat (P + 1) → cut 4 [(0, .inr (.inr 0)), (1, .inl pv), (2, .inl y), (3, .inl 1)] [] (ez_up M 0 6 (P + 1)) := by
    intro y hy hy0 hy1 hlen hF
    have hcol : ∀ x, ez_up (ez_up M 0 6 (P + 1)) 0 6 x = ez_up M 0 6 x := fun x => ez_up_up M 0 6 _ x
    have k6 : ez_up M 0 6 (P + 1) 0 6 = P + 1 := by simp [ez_up]
    have k5 : ez_up M 0 6 (P + 1) 0 5 = M 0 5 := by simp [ez_up]
    have k2 : ez_up M 0 6 (P + 1) 2 = M 2 := ez_up_ne 2 (by decide)
    have st3 := st2
    rw [← k2] at st3 hT
    rw [← k5] at st3 hlen hv
    have hs1 : ∀ x : Int, ff_ff (M 2) (M 0 5 - P).toNat P = x → 0 ≤ x → x ≤ M 0 5 → Q (some (.inl (-9))) (ez_up (ez_up M 0 6 (P + 1)) 0 6 x) := fun x => by
      rw [hcol]
      exact hs1 x
    have st3 : ∀ y : Int, y = ff_fig (M 2) P 2 → 0 ≤ y → y ≤ 59 → P + 2 ≤ M 0 5 → ff_ff (M 2) (M 0 5 - P).toNat P = ff_ff (M 2) (M 0 5 - (P + 2)).toNat (P + 2) → cut 4 [(0, .inr (.inr 0)), (1, .inl pv), (2, .inl y), (3, .inl 2)] [] (ez_up (ez_up M 0 6 (P + 1)) 0 6 (P + 2)) := fun y h1 h2 h3 h4 h5 => by
      rw [hcol]
      exact st2 y h1 h2 h3 h4 h5
    rw [← k2, ← k5] at st3 hs1 hF
    rw [← k2] at hy
    have hpvA := hpv.1
    rw [← k2] at hpvA
    generalize ez_up M 0 6 (P + 1) = K at k6 k5 k2 hs1 st3 hT hlen hv hF hy hpvA ⊢
    have fin : ∀ l : Int, 0 ≤ l → l ≤ 10 → (l = 0 ∨ y * 10 * 10 + (l - 1) * 10 + 9 ≤ pv) → (l = 10 ∨ pv < y * 10 * 10 + l * 10 + 9) → cut 73 [(0, .inr (.inr 0)), (1, .inl pv), (2, .inl y), (3, .inl 1), (6, .inl l)] [] K := by
      intro l hl0 hl10 hl1 hl2
      have hcan := ff_can_1 (T := K 2) hv.1 hP7 hpvA hy hy0 hy1 hl0 hl1 hl2
      have ht := hT (P + 1).toNat
      have hfg := ff_fig_2 (K 2) P
      refine hkut [(4, [0, 1, 2, 3])] 60 73 _ _ _ ?_
      by_cases hc : P + 1 < K 0 5 ∧ l ≤ K 2 (P + 1).toNat - 48 ∧ K 2 (P + 1).toNat - 48 ≤ 9
      · have hF2 := ff_ff_s hc.1 (hcan.mpr hc.2)
        rw [show P + 1 + 1 = P + 2 by omega] at hF2
        have hyn : 10 * y + (K 2 (P + 1).toNat - 48) = ff_fig (K 2) P 2 := by
          rw [hfg, hy]
          skip
        have st3 := st3 (10 * y + (K 2 (P + 1).toNat - 48)) hyn (by omega) (by omega) (by omega) (by rw [hF, hF2])
        rw [← k6] at hc st3 ht
        rw [show P + 2 = K 0 6 + 1 by omega] at st3
        repeat' (first | (intro hh; exfalso; omega) | (refine And.intro (by first | assumption | omega) ?_) | (refine And.intro rfl ?_) | (refine And.intro ?_ ?_) | (intro qq hq1 hq2 hq3; have hq4 := hq2 (by omega) (by omega); subst hq4) | (intro hh) | omega | exact trivial)
        all_goals first | exact st3 | exact hT | (exfalso; omega)
      · have hFx : ff_ff (K 2) (K 0 5 - P).toNat P = P + 1 := by
          rw [hF]
          by_cases he : P + 1 = K 0 5
          · rw [ff_ff_e he, if_neg (by omega)]
          · exact ff_ff_n (by omega) (fun z => hc ⟨by omega, hcan.mp z⟩)
        have hs1 := hs1 (P + 1) hFx (by omega) (by omega)
        have hs1 := ez_mem hs1 (ez_up_self K 0 6 k6.symm).symm
        rw [← k6] at hc ht
        repeat' (first | (intro hh; exfalso; omega) | (refine And.intro (by first | assumption | omega) ?_) | (refine And.intro rfl ?_) | (refine And.intro ?_ ?_) | (intro qq hq1 hq2 hq3; have hq4 := hq2 (by omega) (by omega); subst hq4) | (intro hh) | omega | exact trivial)
        all_goals first | exact hs1 | exact hT | (exfalso; omega)
    have inner : ∀ (n : Nat) (l : Int), l + n = 10 → 0 ≤ l → (l = 0 ∨ y * 10 * 10 + (l - 1) * 10 + 9 ≤ pv) → cut 40 [(0, .inr (.inr 0)), (1, .inl pv), (2, .inl y), (3, .inl 1), (4, .inl 9), (5, .inl 10), (6, .inl l)] [] K := by
      intro n
      induction n with
      | zero =>
        intro l hl h0 h1
        have hf := fin l h0 (by omega) h1 (Or.inl (by omega))
        refine hkut [(40, [0, 1, 2, 3, 4, 5, 6]), (73, [0, 1, 2, 3, 6])] 60 40 _ _ _ ?_
        repeat' (first | (intro hh; exfalso; omega) | (refine And.intro (by first | assumption | omega) ?_) | (refine And.intro rfl ?_) | (refine And.intro ?_ ?_) | (intro qq hq1 hq2 hq3; have hq4 := hq2 (by omega) (by omega); subst hq4) | (intro hh) | omega | exact trivial)
        all_goals exact hf
      | succ n ih =>
        intro l hl h0 h1
        refine hkut [(40, [0, 1, 2, 3, 4, 5, 6]), (73, [0, 1, 2, 3, 6])] 60 40 _ _ _ ?_
        by_cases hc : y * 10 * 10 + l * 10 + 9 ≤ pv
        · have ih := ih (l + 1) (by omega) (by omega) (Or.inr (by omega))
          repeat' (first | (intro hh; exfalso; omega) | (refine And.intro (by first | assumption | omega) ?_) | (refine And.intro rfl ?_) | (refine And.intro ?_ ?_) | (intro qq hq1 hq2 hq3; have hq4 := hq2 (by omega) (by omega); subst hq4) | (intro hh) | omega | exact trivial)
          all_goals exact ih
        · have hf := fin l h0 (by omega) h1 (Or.inr (by omega))
          repeat' (first | (intro hh; exfalso; omega) | (refine And.intro (by first | assumption | omega) ?_) | (refine And.intro rfl ?_) | (refine And.intro ?_ ?_) | (intro qq hq1 hq2 hq3; have hq4 := hq2 (by omega) (by omega); subst hq4) | (intro hh) | omega | exact trivial)
          all_goals exact hf
    have hi0 := inner 10 0 (by omega) (by omega) (Or.inl rfl)
    refine hkut [(40, [0, 1, 2, 3, 4, 5, 6]), (73, [0, 1, 2, 3, 6])] 60 4 _ _ _ ?_
    repeat' (first | (intro hh; exfalso; omega) | (refine And.intro (by first | assumption | omega) ?_) | (refine And.intro rfl ?_) | (refine And.intro ?_ ?_) | (intro qq hq1 hq2 hq3; have hq4 := hq2 (by omega) (by omega); subst hq4) | (intro hh) | omega | exact trivial)
    all_goals exact hi0
  have st0 : ∀ y : Int, y = ff_fig (M 2) P 0 → 0 ≤ y → y ≤ 0 → P + 0 ≤ M 0 5 → ff_ff (M 2) (M 0 5 - P).toNat P = ff_ff (M 2) (M 0 5 - (P + 0)).toNat (P + 0) → cut 4 [(0, .inr (.inr 0)), (1, .inl pv), (2, .inl y), (3, .inl 0)] [] (ez_up M 0 6 (P + 0)) := by
    intro y hy hy0 hy1 hlen hF
    have hcol : ∀ x, ez_up (ez_up M 0 6 (P + 0)) 0 6 x = ez_up M 0 6 x := fun x => ez_up_up M 0 6 _ x
    have k6 : ez_up M 0 6 (P + 0) 0 6 = P + 0 := by simp [ez_up]
    have k5 : ez_up M 0 6 (P + 0) 0 5 = M 0 5 := by simp [ez_up]
    have k2 : ez_up M 0 6 (P + 0) 2 = M 2 := ez_up_ne 2 (by decide)
    have st3 := st1
    rw [← k2] at st3 hT
    rw [← k5] at st3 hlen hv
    have hs1 : ∀ x : Int, ff_ff (M 2) (M 0 5 - P).toNat P = x → 0 ≤ x → x ≤ M 0 5 → Q (some (.inl (-9))) (ez_up (ez_up M 0 6 (P + 0)) 0 6 x) := fun x => by
      rw [hcol]
      exact hs1 x
    have st3 : ∀ y : Int, y = ff_fig (M 2) P 1 → 0 ≤ y → y ≤ 5 → P + 1 ≤ M 0 5 → ff_ff (M 2) (M 0 5 - P).toNat P = ff_ff (M 2) (M 0 5 - (P + 1)).toNat (P + 1) → cut 4 [(0, .inr (.inr 0)), (1, .inl pv), (2, .inl y), (3, .inl 1)] [] (ez_up (ez_up M 0 6 (P + 0)) 0 6 (P + 1)) := fun y h1 h2 h3 h4 h5 => by
      rw [hcol]
      exact st1 y h1 h2 h3 h4 h5
    rw [← k2, ← k5] at st3 hs1 hF
    rw [← k2] at hy
    have hpvA := hpv.1
    rw [← k2] at hpvA
    generalize ez_up M 0 6 (P + 0) = K at k6 k5 k2 hs1 st3 hT hlen hv hF hy hpvA ⊢
    have fin : ∀ l : Int, 0 ≤ l → l ≤ 10 → (l = 0 ∨ y * 10 * 100 + (l - 1) * 100 + 99 ≤ pv) → (l = 10 ∨ pv < y * 10 * 100 + l * 100 + 99) → cut 73 [(0, .inr (.inr 0)), (1, .inl pv), (2, .inl y), (3, .inl 0), (6, .inl l)] [] K := by
      intro l hl0 hl10 hl1 hl2
      have hcan := ff_can_0 (T := K 2) hv.1 hP7 hpvA hy hy0 hy1 hl0 hl1 hl2
      have ht := hT (P + 0).toNat
      have hfg := ff_fig_1 (K 2) P
      refine hkut [(4, [0, 1, 2, 3])] 60 73 _ _ _ ?_
      by_cases hc : P + 0 < K 0 5 ∧ l ≤ K 2 (P + 0).toNat - 48 ∧ K 2 (P + 0).toNat - 48 ≤ 5
      · have hF2 := ff_ff_s hc.1 (hcan.mpr hc.2)
        rw [show P + 0 + 1 = P + 1 by omega] at hF2
        have hyn : 10 * y + (K 2 (P + 0).toNat - 48) = ff_fig (K 2) P 1 := by
          rw [hfg, hy]
          rw [show P + 0 = P by omega, ff_fig_0]; omega
        have st3 := st3 (10 * y + (K 2 (P + 0).toNat - 48)) hyn (by omega) (by omega) (by omega) (by rw [hF, hF2])
        rw [← k6] at hc st3 ht
        rw [show P + 1 = K 0 6 + 1 by omega] at st3
        repeat' (first | (intro hh; exfalso; omega) | (refine And.intro (by first | assumption | omega) ?_) | (refine And.intro rfl ?_) | (refine And.intro ?_ ?_) | (intro qq hq1 hq2 hq3; have hq4 := hq2 (by omega) (by omega); subst hq4) | (intro hh) | omega | exact trivial)
        all_goals first | exact st3 | exact hT | (exfalso; omega)
      · have hFx : ff_ff (K 2) (K 0 5 - P).toNat P = P + 0 := by
          rw [hF]
          by_cases he : P + 0 = K 0 5
          · rw [ff_ff_e he, if_neg (by omega)]
          · exact ff_ff_n (by omega) (fun z => hc ⟨by omega, hcan.mp z⟩)
        have hs1 := hs1 (P + 0) hFx (by omega) (by omega)
        have hs1 := ez_mem hs1 (ez_up_self K 0 6 k6.symm).symm
        rw [← k6] at hc ht
        repeat' (first | (intro hh; exfalso; omega) | (refine And.intro (by first | assumption | omega) ?_) | (refine And.intro rfl ?_) | (refine And.intro ?_ ?_) | (intro qq hq1 hq2 hq3; have hq4 := hq2 (by omega) (by omega); subst hq4) | (intro hh) | omega | exact trivial)
        all_goals first | exact hs1 | exact hT | (exfalso; omega)
    have inner : ∀ (n : Nat) (l : Int), l + n = 10 → 0 ≤ l → (l = 0 ∨ y * 10 * 100 + (l - 1) * 100 + 99 ≤ pv) → cut 40 [(0, .inr (.inr 0)), (1, .inl pv), (2, .inl y), (3, .inl 0), (4, .inl 99), (5, .inl 100), (6, .inl l)] [] K := by
      intro n
      induction n with
      | zero =>
        intro l hl h0 h1
        have hf := fin l h0 (by omega) h1 (Or.inl (by omega))
        refine hkut [(40, [0, 1, 2, 3, 4, 5, 6]), (73, [0, 1, 2, 3, 6])] 60 40 _ _ _ ?_
        repeat' (first | (intro hh; exfalso; omega) | (refine And.intro (by first | assumption | omega) ?_) | (refine And.intro rfl ?_) | (refine And.intro ?_ ?_) | (intro qq hq1 hq2 hq3; have hq4 := hq2 (by omega) (by omega); subst hq4) | (intro hh) | omega | exact trivial)
        all_goals exact hf
      | succ n ih =>
        intro l hl h0 h1
        refine hkut [(40, [0, 1, 2, 3, 4, 5, 6]), (73, [0, 1, 2, 3, 6])] 60 40 _ _ _ ?_
        by_cases hc : y * 10 * 100 + l * 100 + 99 ≤ pv
        · have ih := ih (l + 1) (by omega) (by omega) (Or.inr (by omega))
          repeat' (first | (intro hh; exfalso; omega) | (refine And.intro (by first | assumption | omega) ?_) | (refine And.intro rfl ?_) | (refine And.intro ?_ ?_) | (intro qq hq1 hq2 hq3; have hq4 := hq2 (by omega) (by omega); subst hq4) | (intro hh) | omega | exact trivial)
          all_goals exact ih
        · have hf := fin l h0 (by omega) h1 (Or.inr (by omega))
          repeat' (first | (intro hh; exfalso; omega) | (refine And.intro (by first | assumption | omega) ?_) | (refine And.intro rfl ?_) | (refine And.intro ?_ ?_) | (intro qq hq1 hq2 hq3; have hq4 := hq2 (by omega) (by omega); subst hq4) | (intro hh) | omega | exact trivial)
          all_goals exact hf
    have hi0 := inner 10 0 (by omega) (by omega) (Or.inl rfl)
    refine hkut [(40, [0, 1, 2, 3, 4, 5, 6]), (73, [0, 1, 2, 3, 6])] 60 4 _ _ _ ?_
    repeat' (first | (intro hh; exfalso; omega) | (refine And.intro (by first | assumption | omega) ?_) | (refine And.intro rfl ?_) | (refine And.intro ?_ ?_) | (intro qq hq1 hq2 hq3; have hq4 := hq2 (by omega) (by omega); subst hq4) | (intro hh) | omega | exact trivial)
    all_goals exact hi0
  have h0 := st0 0 rfl (by omega) (by omega) (by omega) (by rw [show P + 0 = P by omega])
  rw [ez_up_self M 0 6 (by omega)] at h0
  refine hkut [(4, [0, 1, 2, 3])] 60 0 _ _ _ ?_
  exact h0
theorem so_X6_readYear : ez_Sound LM yX6_readYear cX6_readYear 8 (some .int) 2 sp_X6_readYear := ez_sound (E := e_X6_readYear) (prog := p_X6_readYear) LM_ok (by decide +kernel) rfl (fun _ h => h) fo_X6 co_X6_ok (List.forall_mem_cons.mpr ⟨k_X6_128 (by decide), fun _ h => absurd h List.not_mem_nil⟩) dp_X6_readYear b_X6_readYear
