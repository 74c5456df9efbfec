def ff_St (M K : ez_M) (e : Nat) (p : Int) : Prop := ff_N K = ff_N M ∧ K 0 6 = p ∧ K 0 10 = e ∧ ∀ j : Nat, j < e → K 5 j = ff_fig (M 2) ((j : Int) * 7) 3 ∧ K 6 j = ff_trn (M 2) j
theorem ff_St_p {M K : ez_M} {e : Nat} {p : Int} (h : ff_St M K e p) (x : Int) : ff_St M (ez_up K 0 6 x) e x := by
  obtain ⟨h1, h2, h3, h4⟩ := h
  refine ⟨by rw [ff_N_fld _ 6 _ (by decide), h1], by simp [ez_up], by simp [ez_up, h3], fun j hj => ?_⟩
  rw [ez_up_ne 5 (by decide), ez_up_ne 6 (by decide)]
  exact h4 j hj
theorem ff_St_s {M K : ez_M} {e : Nat} {p a b : Int} (h : ff_St M K e p) (ha : a = ff_fig (M 2) ((e : Int) * 7) 3) (hb : b = ff_trn (M 2) e) : ff_St M (ez_up (ez_up (ez_up K 5 (K 0 10).toNat a) 6 (ez_up K 5 (K 0 10).toNat a 0 10).toNat b) 0 10 (ez_up (ez_up K 5 (K 0 10).toNat a) 6 (ez_up K 5 (K 0 10).toNat a 0 10).toNat b 0 10 + 1)) (e + 1) p := by
  obtain ⟨h1, h2, h3, h4⟩ := h
  refine ⟨by rw [ff_N_fld _ 10 _ (by decide), ff_N_scr _ 6 _ _ (by decide), ff_N_scr _ 5 _ _ (by decide), h1], by simp [ez_up, h2], by simp [ez_up, h3], fun j hj => ?_⟩
  by_cases hje : j = e
  · subst hje
    simp [ez_up, h3, ha, hb]
  · have := h4 j (by omega)
    simp [ez_up, h3, hje, this]
theorem ff_can_3 {T : Nat → Int} {P : Int} (hP : P % 7 = 0) : ff_can T (P + 3) = true ↔ (T (P + 3).toNat = 43 ∨ T (P + 3).toNat = 45) := by
  unfold ff_can
  rw [if_pos (by omega), decide_eq_true_eq]
theorem ff_can_4 {T : Nat → Int} {P : Int} (hP : P % 7 = 0) : ff_can T (P + 4) = true ↔ (0 ≤ T (P + 4).toNat - 48 ∧ T (P + 4).toNat - 48 ≤ 4) := by
  have hm : (P + 4) % 7 = 4 := by omega
  unfold ff_can
  rw [if_neg (by omega), if_pos (by omega), decide_eq_true_eq, hm, show P + 4 - 4 + 4 = P + 4 by omega, ff_fig_1]
  omega
theorem ff_can_5 {T : Nat → Int} {P t : Int} (hP : P % 7 = 0) (ht : t = ff_fig T (P + 4) 1) (h0 : 0 ≤ t) (h4 : t ≤ 4) : ff_can T (P + 5) = true ↔ (0 ≤ T (P + 5).toNat - 48 ∧ T (P + 5).toNat - 48 ≤ (if t = 4 then 0 else 9)) := by
  have hm : (P + 5) % 7 = 5 := by omega
  unfold ff_can
  rw [if_neg (by omega), if_neg (by omega), if_pos (by omega), decide_eq_true_eq, hm, show P + 5 - 5 + 4 = P + 4 by omega, ff_fig_2, ← ht, show P + 4 + 1 = P + 5 by omega]
  split <;> omega
theorem ff_can_6 {T : Nat → Int} {P : Int} (hP : P % 7 = 0) : ff_can T (P + 6) = true ↔ (T (P + 6).toNat = 59 ∧ ff_fig T P 3 < 599) := by
  have hm : (P + 6) % 7 = 6 := by omega
  unfold ff_can
  rw [if_neg (by omega), if_neg (by omega), if_neg (by omega), if_pos (by omega), decide_eq_true_eq, hm, show P + 6 - 6 = P by omega]
theorem k_X6_134 {d : Nat} (h : 2 < d) : ez_CallOK LM RX6 d (134, 6+1, 1, sp_X6_readYear) := ez_callV (y := yX6_readYear) (bytes := cX6_readYear) so_X6_readYear h (by decide) q_837 q_78 ⟨by decide +kernel, by decide +kernel, by decide +kernel⟩ (Or.inl q_834) q_836 q_50 (T := TX6) (N := 28) rfl
theorem k_X6_137 {d : Nat} (h : 0 < d) : ez_CallOK LM RX6 d (137, 6+1, 1, sp_X6_sign) := ez_callV (y := yX6_sign) (bytes := cX6_sign) so_X6_sign h (by decide) q_845 q_78 ⟨by decide +kernel, by decide +kernel, by decide +kernel⟩ (Or.inl q_842) q_844 q_52 (T := TX6) (N := 28) rfl
def sp_X6_readBook : ez_Sp := fun as M Q => match as with | [.inr (.inr q)] => q = 0 ∧ (0 ≤ M 0 5 ∧ M 0 5 ≤ 48) ∧ (∀ j, 0 ≤ M 2 j ∧ M 2 j ≤ 255) ∧ (∀ N : ez_M, ff_N N = ff_N M → (ff_fault (M 2) (M 0 5) = -9 → N 0 10 = (M 0 5 + 1) / 7 ∧ ∀ j : Nat, (j : Int) < (M 0 5 + 1) / 7 → N 5 j = ff_fig (M 2) ((j : Int) * 7) 3 ∧ N 6 j = ff_trn (M 2) j) → Q (some (.inl (ff_fault (M 2) (M 0 5)))) N) | _ => False
def e_X6_readBook : ez_E := (fl_X6, co_X6, [(134, 6+1, 1, sp_X6_readYear), (137, 6+1, 1, sp_X6_sign), (128, 6+1, 2, sp_X6_figure)], 0, 7)
set_option maxHeartbeats 4000000 in
set_option maxRecDepth 100000 in
theorem b_X6_readBook : ez_Body LM e_X6_readBook p_X6_readBook sp_X6_readBook := by
  intro as M Q has hM hsp
  unfold sp_X6_readBook at hsp
  split at hsp
  rotate_left
  · exact hsp.elim
  rename_i q
  obtain ⟨rfl, hn, hT, hsp⟩ := hsp
  refine ⟨Nat.le_of_ble_eq_true rfl, fun cut hcut hkut => ?_⟩
  generalize hF : ff_fault (M 2) (M 0 5) = F at hsp
  have done : ∀ (K : ez_M) (x : Int), ff_N K = ff_N M → F = x → 0 ≤ x → Q (some (.inl x)) K := by
    intro K x hK hx h0
    rw [← hx]
    exact hsp K hK (fun h => by omega)
  have endL : ∀ (e : Nat) (y : Int) (K : ez_M), ff_St M K (e + 1) ((e : Int) * 7 + 6) → F = (if (e : Int) * 7 + 6 = M 0 5 then -9 else (e : Int) * 7 + 6) → cut 14 [(0, .inr (.inr 0)), (1, .inl y), (2, .inl 0)] [] K := by
    intro e y K hS hFe
    have k5 : K 0 5 = M 0 5 := congrFun (congrFun hS.1 1) 2
    have k6 := hS.2.1
    by_cases hc : (e : Int) * 7 + 6 = M 0 5
    · rw [if_pos hc] at hFe
      have hsp := hsp K hS.1 (fun _ => ⟨by rw [hS.2.2.1]; omega, fun j hj => hS.2.2.2 j (by omega)⟩)
      rw [hFe] at hsp
      refine hkut [] 60 14 _ _ _ ?_
      repeat' (first | (intro hh; exfalso; omega) | (refine And.intro (by first | assumption | omega) ?_) | (refine And.intro rfl ?_) | (refine And.intro ?_ ?_) | (intro qq hq1 hq2 hq3; have hq4 := hq2 (by omega) (by omega); subst hq4) | (intro hh) | omega | exact trivial)
      all_goals exact hsp
    · rw [if_neg hc] at hFe
      have hd := done K _ hS.1 hFe (by omega)
      rw [← k6] at hd
      refine hkut [] 60 14 _ _ _ ?_
      repeat' (first | (intro hh; exfalso; omega) | (refine And.intro (by first | assumption | omega) ?_) | (refine And.intro rfl ?_) | (refine And.intro ?_ ?_) | (intro qq hq1 hq2 hq3; have hq4 := hq2 (by omega) (by omega); subst hq4) | (intro hh) | omega | exact trivial)
      all_goals exact hd
  have main : ∀ (n e : Nat) (pv : Int) (K : ez_M), e + n = 7 → ff_St M K e ((e : Int) * 7) → (e : Int) * 7 ≤ M 0 5 → pv = ff_abv (M 2) ((e : Int) * 7) → -1 ≤ pv → pv ≤ 599 → F = ff_ff (M 2) (M 0 5 - (e : Int) * 7).toNat ((e : Int) * 7) → cut 14 [(0, .inr (.inr 0)), (1, .inl pv), (2, .inl 1)] [] K := by
    intro n
    induction n with
    | zero =>
      intro e pv K he hS hle
      omega
    | succ n ih =>
      intro e pv K he hS hle hpv hp0 hp1 hFe
      generalize hPd : (e : Int) * 7 = P at hS hle hpv hFe
      have hP7 : P % 7 = 0 := by omega
      have hP0 : 0 ≤ P := by omega
      have ih := ih (e + 1)
      rw [show ((e + 1 : Nat) : Int) * 7 = P + 7 by omega] at ih
      have s166 : ∀ (y : Int) (K : ez_M), ff_St M K (e + 1) (P + 6) → P + 6 ≤ M 0 5 → F = ff_ff (M 2) (M 0 5 - (P + 6)).toNat (P + 6) → y = ff_fig (M 2) P 3 → 0 ≤ y → y ≤ 599 → cut 166 [(0, .inr (.inr 0)), (3, .inl y)] [] K := by
        intro y K hS hle hFe hy hy0 hy1
        have k5 : K 0 5 = M 0 5 := congrFun (congrFun hS.1 1) 2
        have k2 : K 2 = M 2 := congrFun hS.1 2
        have k6 := hS.2.1
        have hcan := ff_can_6 (T := M 2) hP7
        rw [← hy] at hcan
        have hEnd := endL e y K (by rw [hPd]; exact hS)
        rw [hPd] at hEnd
        refine hkut [(14, [0, 1, 2])] 60 166 _ _ _ ?_
        by_cases hc : P + 6 < M 0 5 ∧ M 2 (P + 6).toNat = 59 ∧ y < 599
        · have hF2 := ff_ff_s hc.1 (hcan.mpr hc.2)
          rw [show P + 6 + 1 = P + 7 by omega] at hF2
          have ih := ih y (ez_up K 0 6 (P + 7)) (by omega) (ff_St_p hS _) (by omega) (by
            unfold ff_abv
            rw [if_neg (by omega), show P + 7 - 7 = P by omega, hy]) (by omega) (by omega) (by rw [hFe, hF2])
          rw [← k5, ← k2, ← k6] at hc
          rw [show P + 7 = K 0 6 + 1 by omega] at ih
          repeat' (first | (intro hh; exfalso; omega) | (refine And.intro (by first | assumption | omega) ?_) | (refine And.intro rfl ?_) | (refine And.intro ?_ ?_) | (intro qq hq1 hq2 hq3; have hq4 := hq2 (by omega) (by omega); subst hq4) | (intro hh) | omega | exact trivial)
          all_goals first | exact ih | (exfalso; omega)
        · have hF2 : F = (if P + 6 = M 0 5 then -9 else P + 6) := by
            rw [hFe]
            by_cases he : P + 6 = M 0 5
            · rw [ff_ff_e he, if_pos (by omega), if_pos he]
            · rw [if_neg he]
              exact ff_ff_n (by omega) (fun z => hc ⟨by omega, hcan.mp z⟩)
          have hEnd := hEnd hF2
          rw [← k5, ← k2, ← k6] at hc
          repeat' (first | (intro hh; exfalso; omega) | (refine And.intro (by first | assumption | omega) ?_) | (refine And.intro rfl ?_) | (refine And.intro ?_ ?_) | (intro qq hq1 hq2 hq3; have hq4 := hq2 (by omega) (by omega); subst hq4) | (intro hh) | omega | exact trivial)
          all_goals first | exact hEnd | (exfalso; omega)
      have s113 : ∀ (y pl t o : Int) (K : ez_M), ff_St M K e (P + 6) → P + 6 ≤ M 0 5 → F = ff_ff (M 2) (M 0 5 - (P + 6)).toNat (P + 6) → y = ff_fig (M 2) P 3 → 0 ≤ y → y ≤ 599 → ((pl = 1 ∧ M 2 (P + 3).toNat = 43) ∨ (pl = 0 ∧ M 2 (P + 3).toNat = 45)) → 10 * t + o = ff_fig (M 2) (P + 4) 2 → 0 ≤ t → t ≤ 4 → 0 ≤ o → o ≤ 9 → cut 113 [(0, .inr (.inr 0)), (3, .inl y), (4, .inl pl), (5, .inl t), (6, .inl o)] [] K := by
        intro y pl t o K hS hle hFe hy hy0 hy1 hpl hto ht0 ht4 ho0 ho9
        have k10 := hS.2.2.1
        have k10b : ∀ a b, ez_up K 5 a b 0 10 = K 0 10 := fun a b => by simp [ez_up]
        have k10c : ∀ a b c d, ez_up (ez_up K 5 a b) 6 c d 0 10 = K 0 10 := fun a b c d => by simp [ez_up]
        have k1 := k10b (K 0 10).toNat y
        refine hkut [(166, [0, 3])] 100 113 _ _ _ ?_
        rcases hpl with ⟨rfl, hc⟩ | ⟨rfl, hc⟩
        · have k2 := k10c (K 0 10).toNat y (ez_up K 5 (K 0 10).toNat y 0 10).toNat (10 * t + o)
          have hv : 10 * t + o = ff_trn (M 2) e := by
            unfold ff_trn
            rw [hPd, hc, if_neg (by decide), hto]
          have key := s166 y _ (ff_St_s (a := y) hS (by rw [hPd]; exact hy) hv) hle hFe hy hy0 hy1
          repeat' (first | (intro hh; exfalso; omega) | (refine And.intro (by first | assumption | omega) ?_) | (refine And.intro rfl ?_) | (refine And.intro ?_ ?_) | (intro qq hq1 hq2 hq3; have hq4 := hq2 (by omega) (by omega); subst hq4) | (intro hh) | omega | exact trivial)
          all_goals exact key
        · have k2 := k10c (K 0 10).toNat y (ez_up K 5 (K 0 10).toNat y 0 10).toNat (-10 * t - o)
          have hv : -10 * t - o = ff_trn (M 2) e := by
            unfold ff_trn
            rw [hPd, hc, if_pos rfl, ← hto]
            omega
          have key := s166 y _ (ff_St_s (a := y) hS (by rw [hPd]; exact hy) hv) hle hFe hy hy0 hy1
          repeat' (first | (intro hh; exfalso; omega) | (refine And.intro (by first | assumption | omega) ?_) | (refine And.intro rfl ?_) | (refine And.intro ?_ ?_) | (intro qq hq1 hq2 hq3; have hq4 := hq2 (by omega) (by omega); subst hq4) | (intro hh) | omega | exact trivial)
          all_goals exact key
      have s82 : ∀ (y pl t : Int) (K : ez_M), ff_St M K e (P + 5) → P + 5 ≤ M 0 5 → F = ff_ff (M 2) (M 0 5 - (P + 5)).toNat (P + 5) → y = ff_fig (M 2) P 3 → 0 ≤ y → y ≤ 599 → ((pl = 1 ∧ M 2 (P + 3).toNat = 43) ∨ (pl = 0 ∧ M 2 (P + 3).toNat = 45)) → t = ff_fig (M 2) (P + 4) 1 → 0 ≤ t → t ≤ 4 → cut 82 [(0, .inr (.inr 0)), (3, .inl y), (4, .inl pl), (5, .inl t)] [] K := by
        intro y pl t K hS hle hFe hy hy0 hy1 hpl ht ht0 ht4
        have k5 : K 0 5 = M 0 5 := congrFun (congrFun hS.1 1) 2
        have k2 : K 2 = M 2 := congrFun hS.1 2
        have k6 := hS.2.1
        have hTK : ∀ j, 0 ≤ K 2 j ∧ K 2 j ≤ 255 := by rw [k2]; exact hT
        have hcan := ff_can_5 (T := M 2) hP7 ht ht0 ht4
        have hf2 := ff_fig_2 (M 2) (P + 4)
        rw [← ht, show P + 4 + 1 = P + 5 by omega] at hf2
        refine hkut [(113, [0, 3, 4, 5, 6])] 60 82 _ _ _ ?_
        by_cases hc : P + 5 < M 0 5 ∧ 0 ≤ M 2 (P + 5).toNat - 48 ∧ M 2 (P + 5).toNat - 48 ≤ (if t = 4 then 0 else 9)
        · have hF2 := ff_ff_s hc.1 (hcan.mpr hc.2)
          rw [show P + 5 + 1 = P + 6 by omega] at hF2
          have ho9 : M 2 (P + 5).toNat - 48 ≤ 9 := by
            have := hc.2.2
            split at this <;> omega
          have key := s113 y pl t (M 2 (P + 5).toNat - 48) (ez_up K 0 6 (P + 6)) (ff_St_p hS _) (by omega) (by rw [hFe, hF2]) hy hy0 hy1 hpl (by rw [hf2]) ht0 ht4 hc.2.1 ho9
          rw [← k5, ← k2, ← k6] at hc
          rw [← k2, ← k6] at key
          rw [show P + 6 = K 0 6 + 1 by omega] at key
          by_cases h4 : t = 4
          · rw [if_pos h4] at hc
            repeat' (first | (intro hh; exfalso; omega) | (refine And.intro (by first | assumption | omega) ?_) | (refine And.intro rfl ?_) | (refine And.intro ?_ ?_) | (intro qq hq1 hq2 hq3; have hq4 := hq2 (by omega) (by omega); subst hq4) | (intro hh) | omega | exact trivial)
            all_goals first | exact key | exact hTK | (exfalso; omega)
          · rw [if_neg h4] at hc
            repeat' (first | (intro hh; exfalso; omega) | (refine And.intro (by first | assumption | omega) ?_) | (refine And.intro rfl ?_) | (refine And.intro ?_ ?_) | (intro qq hq1 hq2 hq3; have hq4 := hq2 (by omega) (by omega); subst hq4) | (intro hh) | omega | exact trivial)
            all_goals first | exact key | exact hTK | (exfalso; omega)
        · have hF2 : F = P + 5 := by
            rw [hFe]
            by_cases he : P + 5 = M 0 5
            · rw [ff_ff_e he, if_neg (by omega)]
            · exact ff_ff_n (by omega) (fun z => hc ⟨by omega, hcan.mp z⟩)
          have hd := done K _ hS.1 hF2 (by omega)
          rw [← k5, ← k2, ← k6] at hc
          rw [← k6] at hd
          by_cases h4 : t = 4
          · rw [if_pos h4] at hc
            repeat' (first | (intro hh; exfalso; omega) | (refine And.intro (by first | assumption | omega) ?_) | (refine And.intro rfl ?_) | (refine And.intro ?_ ?_) | (intro qq hq1 hq2 hq3; have hq4 := hq2 (by omega) (by omega); subst hq4) | (intro hh) | omega | exact trivial)
            all_goals first | exact hd | exact hTK | (exfalso; omega)
          · rw [if_neg h4] at hc
            repeat' (first | (intro hh; exfalso; omega) | (refine And.intro (by first | assumption | omega) ?_) | (refine And.intro rfl ?_) | (refine And.intro ?_ ?_) | (intro qq hq1 hq2 hq3; have hq4 := hq2 (by omega) (by omega); subst hq4) | (intro hh) | omega | exact trivial)
            all_goals first | exact hd | exact hTK | (exfalso; omega)
      have s62 : ∀ (y pl : Int) (K : ez_M), ff_St M K e (P + 4) → P + 4 ≤ M 0 5 → F = ff_ff (M 2) (M 0 5 - (P + 4)).toNat (P + 4) → y = ff_fig (M 2) P 3 → 0 ≤ y → y ≤ 599 → ((pl = 1 ∧ M 2 (P + 3).toNat = 43) ∨ (pl = 0 ∧ M 2 (P + 3).toNat = 45)) → cut 62 [(0, .inr (.inr 0)), (3, .inl y), (4, .inl pl)] [] K := by
        intro y pl K hS hle hFe hy hy0 hy1 hpl
        have k5 : K 0 5 = M 0 5 := congrFun (congrFun hS.1 1) 2
        have k2 : K 2 = M 2 := congrFun hS.1 2
        have k6 := hS.2.1
        have hTK : ∀ j, 0 ≤ K 2 j ∧ K 2 j ≤ 255 := by rw [k2]; exact hT
        have hcan := ff_can_4 (T := M 2) hP7
        have hf1 := ff_fig_1 (M 2) (P + 4)
        refine hkut [(82, [0, 3, 4, 5])] 60 62 _ _ _ ?_
        by_cases hc : P + 4 < M 0 5 ∧ 0 ≤ M 2 (P + 4).toNat - 48 ∧ M 2 (P + 4).toNat - 48 ≤ 4
        · have hF2 := ff_ff_s hc.1 (hcan.mpr hc.2)
          rw [show P + 4 + 1 = P + 5 by omega] at hF2
          have key := s82 y pl (M 2 (P + 4).toNat - 48) (ez_up K 0 6 (P + 5)) (ff_St_p hS _) (by omega) (by rw [hFe, hF2]) hy hy0 hy1 hpl hf1.symm hc.2.1 hc.2.2
          rw [← k5, ← k2, ← k6] at hc
          rw [← k2, ← k6] at key
          rw [show P + 5 = K 0 6 + 1 by omega] at key
          repeat' (first | (intro hh; exfalso; omega) | (refine And.intro (by first | assumption | omega) ?_) | (refine And.intro rfl ?_) | (refine And.intro ?_ ?_) | (intro qq hq1 hq2 hq3; have hq4 := hq2 (by omega) (by omega); subst hq4) | (intro hh) | omega | exact trivial)
          all_goals first | exact key | exact hTK | (exfalso; omega)
        · have hF2 : F = P + 4 := by
            rw [hFe]
            by_cases he : P + 4 = M 0 5
            · rw [ff_ff_e he, if_neg (by omega)]
            · exact ff_ff_n (by omega) (fun z => hc ⟨by omega, hcan.mp z⟩)
          have hd := done K _ hS.1 hF2 (by omega)
          rw [← k5, ← k2, ← k6] at hc
          rw [← k6] at hd
          repeat' (first | (intro hh; exfalso; omega) | (refine And.intro (by first | assumption | omega) ?_) | (refine And.intro rfl ?_) | (refine And.intro ?_ ?_) | (intro qq hq1 hq2 hq3; have hq4 := hq2 (by omega) (by omega); subst hq4) | (intro hh) | omega | exact trivial)
          all_goals first | exact hd | exact hTK | (exfalso; omega)
      have s35 : ∀ (y : Int) (K : ez_M), ff_St M K e (P + 3) → P + 3 ≤ M 0 5 → F = ff_ff (M 2) (M 0 5 - (P + 3)).toNat (P + 3) → y = ff_fig (M 2) P 3 → 0 ≤ y → y ≤ 599 → cut 35 [(0, .inr (.inr 0)), (3, .inl y)] [] K := by
        intro y K hS hle hFe hy hy0 hy1
        have k5 : K 0 5 = M 0 5 := congrFun (congrFun hS.1 1) 2
        have k2 : K 2 = M 2 := congrFun hS.1 2
        have k6 := hS.2.1
        have hcan := ff_can_3 (T := M 2) hP7
        have e6 : P + 4 = K 0 6 + 1 := by omega
        refine hkut [(62, [0, 3, 4])] 60 35 _ _ _ ?_
        by_cases hc : P + 3 < M 0 5 ∧ (M 2 (P + 3).toNat = 43 ∨ M 2 (P + 3).toNat = 45)
        · have hF2 := ff_ff_s hc.1 (hcan.mpr hc.2)
          rw [show P + 3 + 1 = P + 4 by omega] at hF2
          rcases hc.2 with h43 | h45
          · have key := s62 y 1 (ez_up K 0 6 (P + 4)) (ff_St_p hS _) (by omega) (by rw [hFe, hF2]) hy hy0 hy1 (Or.inl ⟨rfl, h43⟩)
            rw [← k2, ← k6] at h43
            rw [e6] at key
            repeat' (first | (intro hh; exfalso; omega) | (refine And.intro (by first | assumption | omega) ?_) | (refine And.intro rfl ?_) | (refine And.intro ?_ ?_) | (intro qq hq1 hq2 hq3; have hq4 := hq2 (by omega) (by omega); subst hq4) | (intro hh) | omega | exact trivial)
            all_goals first | exact key | (exfalso; omega)
          · have key := s62 y 0 (ez_up K 0 6 (P + 4)) (ff_St_p hS _) (by omega) (by rw [hFe, hF2]) hy hy0 hy1 (Or.inr ⟨rfl, h45⟩)
            rw [← k2, ← k6] at h45
            rw [e6] at key
            repeat' (first | (intro hh; exfalso; omega) | (refine And.intro (by first | assumption | omega) ?_) | (refine And.intro rfl ?_) | (refine And.intro ?_ ?_) | (intro qq hq1 hq2 hq3; have hq4 := hq2 (by omega) (by omega); subst hq4) | (intro hh) | omega | exact trivial)
            all_goals first | exact key | (exfalso; omega)
        · have hF2 : F = P + 3 := by
            rw [hFe]
            by_cases he : P + 3 = M 0 5
            · rw [ff_ff_e he, if_neg (by omega)]
            · exact ff_ff_n (by omega) (fun z => hc ⟨by omega, hcan.mp z⟩)
          have hd := done K _ hS.1 hF2 (by omega)
          rw [← k5, ← k2, ← k6] at hc
          rw [← k6] at hd
          repeat' (first | (intro hh; exfalso; omega) | (refine And.intro (by first | assumption | omega) ?_) | (refine And.intro rfl ?_) | (refine And.intro ?_ ?_) | (intro qq hq1 hq2 hq3; have hq4 := hq2 (by omega) (by omega); subst hq4) | (intro hh) | omega | exact trivial)
          all_goals first | exact hd | (exfalso; omega)
      have k5 : K 0 5 = M 0 5 := congrFun (congrFun hS.1 1) 2
      have k2 : K 2 = M 2 := congrFun hS.1 2
      have k6 := hS.2.1
      have hTK : ∀ j, 0 ≤ K 2 j ∧ K 2 j ≤ 255 := by rw [k2]; exact hT
      refine hkut [(35, [0, 3])] 60 14 _ _ _ ?_
      refine And.intro (fun hz => absurd hz (by decide)) (fun _ => ?_)
      refine And.intro rfl (And.intro ⟨⟨by omega, by omega, by omega⟩, by rw [k6]; exact hP7⟩ (And.intro hTK (And.intro ⟨by rw [k2, k6]; exact hpv, hp0, hp1⟩ (And.intro ?_ ?_))))
      · intro x hx hx0 hx1
        rw [k2, k5, k6] at hx
        have hd := done (ez_up K 0 6 x) x (ff_St_p hS x).1 (by rw [hFe]; exact hx) hx0
        have h6 : ez_up K 0 6 x 0 6 = x := by simp [ez_up]
        have hd : Q (some (.inl (ez_up K 0 6 x 0 6))) (ez_up K 0 6 x) := by
          rw [h6]
          exact hd
        repeat' (first | (intro hh; exfalso; omega) | (refine And.intro (by first | assumption | omega) ?_) | (refine And.intro rfl ?_) | (refine And.intro ?_ ?_) | (intro qq hq1 hq2 hq3; have hq4 := hq2 (by omega) (by omega); subst hq4) | (intro hh) | omega | exact trivial)
        all_goals exact hd
      · rintro ⟨c1, c2, c3, c4⟩
        rw [k2, k5, k6] at c2
        have key := s35 (ff_fig (M 2) P 3) (ez_up K 0 6 (P + 3)) (ff_St_p hS _) (by omega) (by rw [hFe]; exact c2) rfl (by rw [← k2, ← k6]; exact c3) (by rw [← k2, ← k6]; exact c4)
        rw [← k2, ← k6] at key
        repeat' (first | (intro hh; exfalso; omega) | (refine And.intro (by first | assumption | omega) ?_) | (refine And.intro rfl ?_) | (refine And.intro ?_ ?_) | (intro qq hq1 hq2 hq3; have hq4 := hq2 (by omega) (by omega); subst hq4) | (intro hh) | omega | exact trivial)
        all_goals exact key
  have hS0 : ff_St M (ez_up (ez_up M 0 6 0) 0 10 0) 0 (((0 : Nat) : Int) * 7) := ⟨by rw [ff_N_fld _ 10 _ (by decide), ff_N_fld _ 6 _ (by decide)], by simp [ez_up], by simp [ez_up], fun j hj => by omega⟩
  have hm := main 7 0 (-1) _ (by omega) hS0 (by omega) rfl (by omega) (by omega) (by rw [← hF]; unfold ff_fault; rw [show M 0 5 - ((0 : Nat) : Int) * 7 = M 0 5 by omega]; rfl)
  refine hkut [(14, [0, 1, 2])] 60 0 _ _ _ ?_
  repeat' (first | (intro hh; exfalso; omega) | (refine And.intro (by first | assumption | omega) ?_) | (refine And.intro rfl ?_) | (refine And.intro ?_ ?_) | (intro qq hq1 hq2 hq3; have hq4 := hq2 (by omega) (by omega); subst hq4) | (intro hh) | omega | exact trivial)
  all_goals exact hm
theorem so_X6_readBook : ez_Sound LM yX6_readBook cX6_readBook 7 (some .int) 3 sp_X6_readBook := ez_sound (E := e_X6_readBook) (prog := p_X6_readBook) LM_ok (by decide +kernel) rfl (fun _ h => h) fo_X6 co_X6_ok (List.forall_mem_cons.mpr ⟨k_X6_134 (by decide), List.forall_mem_cons.mpr ⟨k_X6_137 (by decide), List.forall_mem_cons.mpr ⟨k_X6_128 (by decide), fun _ h => absurd h List.not_mem_nil⟩⟩⟩) dp_X6_readBook b_X6_readBook
theorem k_X6_140 {d : Nat} (h : 3 < d) : ez_CallOK LM RX6 d (140, 6+1, 0, sp_X6_readBook) := ez_callV (y := yX6_readBook) (bytes := cX6_readBook) so_X6_readBook h (by decide) q_833 q_78 ⟨by decide +kernel, by decide +kernel, by decide +kernel⟩ (Or.inl q_830) q_832 q_49 (T := TX6) (N := 28) rfl
def sp_X6_fault : ez_Sp := fun as M Q => match as with | [.inr (.inr q)] => q = 0 ∧ ff_Inv (ff_N M) ∧ (∀ M' : ez_M, ff_N M' = ff_N M → Q (some (.inl (op_fault (ff_N M)))) M') | _ => False
def e_X6_fault : ez_E := (fl_X6, co_X6, [(140, 6+1, 0, sp_X6_readBook)], 0, 1)
set_option maxHeartbeats 4000000 in
set_option maxRecDepth 100000 in
theorem b_X6_fault : ez_Body LM e_X6_fault p_X6_fault sp_X6_fault := by
  intro as M Q has hM hsp
  unfold sp_X6_fault at hsp
  split at hsp
  rotate_left
  · exact hsp.elim
  rename_i q
  obtain ⟨rfl, hI, hsp⟩ := hsp
  refine ⟨Nat.le_of_ble_eq_true rfl, fun cut hcut hkut => ?_⟩
  suffices hgo : ∀ M' : ez_M, ff_N M' = ff_N M → cut 5 [(0, .inr (.inr 0))] [] M' by
    refine hkut [(5, [0])] 60 0 _ _ _ ?_
    exact hgo _ (ff_N_th M)
  clear hM
  intro M hth
  rw [← hth] at hI hsp
  clear hth
  have hn := ff_n_N hI
  have hl : 0 ≤ M 0 5 ∧ M 0 5 ≤ 48 := hI.2.1.2.2.1
  have hT : ∀ j, 0 ≤ M 2 j ∧ M 2 j ≤ 255 := hI.2.2.1
  refine hkut [] 60 5 _ _ _ ?_
  refine And.intro rfl (And.intro hl (And.intro hT ?_))
  intro N hN _
  exact hsp N hN
theorem so_X6_fault : ez_Sound LM yX6_fault cX6_fault 1 (some .int) 4 sp_X6_fault := ez_sound (E := e_X6_fault) (prog := p_X6_fault) LM_ok (by decide +kernel) rfl (fun _ h => h) fo_X6 co_X6_ok (List.forall_mem_cons.mpr ⟨k_X6_140 (by decide), fun _ h => absurd h List.not_mem_nil⟩) dp_X6_fault b_X6_fault
def ff_bB (N M : ez_M) (n : Int) (k : Nat) : ez_M := fun i x => if i = 3 ∧ x < k then ff_fig (M 2) ((x : Int) * 7) 3 else if i = 4 ∧ x < k then ff_trn (M 2) x else if i = 0 ∧ x = 7 then n else N i x
theorem ff_bB_s {N M : ez_M} {n : Int} {k : Nat} {a b : Int} (ha : a = ff_fig (M 2) ((k : Int) * 7) 3) (hb : b = ff_trn (M 2) (k : Int)) : ez_up (ez_up (ff_bB N M n k) 3 k a) 4 k b = ff_bB N M n (k + 1) := by
  subst ha hb
  funext i j
  simp only [ez_up, ff_bB]
  grind
theorem ff_bB_0 (N M : ez_M) (n : Int) : ff_bB N M n 0 = ez_up N 0 7 n := by
  funext i j
  simp [ff_bB, ez_up]
theorem ff_N_bB {N M : ez_M} {n : Int} (h : 0 ≤ n) (hN : ff_N N = ff_N M) : ff_N (ff_bB N M n n.toNat) = ff_rdS (ff_N M) n := by
  have h5 : ∀ j : Nat, j < n.toNat ↔ (j : Int) < n := fun j => by omega
  have hr : ∀ r j, ff_N N r j = ff_N M r j := fun r j => by rw [hN]
  funext r j
  rcases r with _ | _ | _ | _ | _ | _ | _ | _ | _ | _ | r
  · exact hr 0 j
  · rcases j with _ | _ | _ | _ | _ | j
    · exact hr 1 0
    · exact hr 1 1
    · exact hr 1 2
    · rfl
    · exact hr 1 4
    · rfl
  · exact hr 2 j
  · show (if (j : Int) < n then ff_bB N M n n.toNat 3 j else 0) = (if (j : Int) < n then ff_fig (M 2) ((j : Int) * 7) 3 else 0)
    by_cases hj : (j : Int) < n
    · rw [if_pos hj, if_pos hj]
      simp [ff_bB, (h5 j).mpr hj]
    · rw [if_neg hj, if_neg hj]
  · show (if (j : Int) < n then ff_bB N M n n.toNat 4 j else 0) = (if (j : Int) < n then ff_trn (M 2) (j : Int) else 0)
    by_cases hj : (j : Int) < n
    · rw [if_pos hj, if_pos hj]
      simp [ff_bB, (h5 j).mpr hj]
    · rw [if_neg hj, if_neg hj]
  · exact hr 5 j
  · exact hr 6 j
  · exact hr 7 j
  · exact hr 8 j
  · rcases j with _ | _ | _ | _ | j
    · exact hr 9 0
    · exact hr 9 1
    · exact hr 9 2
    · exact hr 9 3
    · rfl
  · rfl
def sp_X6_book : ez_Sp := fun as M Q => match as with | [.inr (.inr q)] => q = 0 ∧ ff_Inv (ff_N M) ∧ (∀ M' : ez_M, ff_N M' = op_book_s (ff_N M) → Q (some (.inl (op_book (ff_N M)))) M') | _ => False
def e_X6_book : ez_E := (fl_X6, co_X6, [(140, 6+1, 0, sp_X6_readBook)], 0, 2)
set_option maxHeartbeats 4000000 in
set_option maxRecDepth 100000 in
theorem b_X6_book : ez_Body LM e_X6_book p_X6_book sp_X6_book := by
  intro as M Q has hM hsp
  unfold sp_X6_book at hsp
  split at hsp
  rotate_left
  · exact hsp.elim
  rename_i q
  obtain ⟨rfl, hI, hsp⟩ := hsp
  refine ⟨Nat.le_of_ble_eq_true rfl, fun cut hcut hkut => ?_⟩
  suffices hgo : ∀ M' : ez_M, ff_N M' = ff_N M → cut 5 [(0, .inr (.inr 0))] [] M' by
    refine hkut [(5, [0])] 60 0 _ _ _ ?_
    exact hgo _ (ff_N_th M)
  clear hM
  intro M hth
  rw [← hth] at hI hsp
  clear hth
  have hn := ff_n_N hI
  have hl : 0 ≤ M 0 5 ∧ M 0 5 ≤ 48 := hI.2.1.2.2.1
  have hT : ∀ j, 0 ≤ M 2 j ∧ M 2 j ≤ 255 := hI.2.2.1
  have hsp : ∀ M' : ez_M, ff_N M' = (if ff_fault (M 2) (M 0 5) = -9 then ff_rdS (ff_N M) ((M 0 5 + 1) / 7) else ff_N M) → Q (some (.inl (if ff_fault (M 2) (M 0 5) = -9 then (M 0 5 + 1) / 7 else -3))) M' := hsp
  generalize hF : ff_fault (M 2) (M 0 5) = F at hsp
  have mid : ∀ N : ez_M, ff_N N = ff_N M → (F = -9 → N 0 10 = (M 0 5 + 1) / 7 ∧ ∀ j : Nat, (j : Int) < (M 0 5 + 1) / 7 → N 5 j = ff_fig (M 2) ((j : Int) * 7) 3 ∧ N 6 j = ff_trn (M 2) j) → cut 9 [(0, .inr (.inr 0))] [.inl F] N := by
    intro N hN hr
    by_cases hF9 : F = -9
    · rw [if_pos hF9, if_pos hF9] at hsp
      obtain ⟨h10, hv⟩ := hr hF9
      generalize hnd : (M 0 5 + 1) / 7 = n at hsp h10 hv
      have hn7 : 0 ≤ n ∧ n ≤ 7 := by omega
      have hsp := hsp _ (ff_N_bB hn7.1 hN)
      have loop : ∀ (d k : Nat), (k : Int) + d = n → cut 27 [(0, .inr (.inr 0)), (1, .inl (k : Int))] [] (ff_bB N M n k) := by
        intro d
        induction d with
        | zero =>
          intro k hk
          have hkn : n.toNat = k := by omega
          rw [hkn] at hsp
          have e7 : ff_bB N M n k 0 7 = n := by simp [ff_bB]
          generalize ff_bB N M n k = K at e7 hsp ⊢
          rw [← e7] at hsp
          refine hkut [(27, [0, 1])] 60 27 _ _ _ ?_
          repeat' (first | (intro hh; exfalso; omega) | (refine And.intro (by first | assumption | omega) ?_) | (refine And.intro rfl ?_) | (refine And.intro ?_ ?_) | (intro qq hq1 hq2 hq3; have hq4 := hq2 (by omega) (by omega); subst hq4) | (intro hh) | omega | exact trivial)
          all_goals exact hsp
        | succ d ihd =>
          intro k hk
          have ihd := ihd (k + 1) (by omega)
          have e7 : ff_bB N M n k 0 7 = n := by simp [ff_bB]
          have e5 : ff_bB N M n k 5 k = ff_fig (M 2) ((k : Int) * 7) 3 := by
            rw [← (hv k (by omega)).1]
            simp [ff_bB]
          have e6 : ff_bB N M n k 6 k = ff_trn (M 2) k := by
            rw [← (hv k (by omega)).2]
            simp [ff_bB]
          rw [← ff_bB_s e5 e6] at ihd
          generalize ff_bB N M n k = K at e7 ihd ⊢
          have g6 : ∀ a, ez_up K 3 k a 6 k = K 6 k := fun a => by simp [ez_up]
          rw [← g6 (K 5 k)] at ihd
          refine hkut [(27, [0, 1])] 60 27 _ _ _ ?_
          repeat' (first | (intro hh; exfalso; omega) | (refine And.intro (by first | assumption | omega) ?_) | (refine And.intro rfl ?_) | (refine And.intro ?_ ?_) | (intro qq hq1 hq2 hq3; have hq4 := hq2 (by omega) (by omega); subst hq4) | (intro hh) | omega | exact trivial)
          all_goals exact ihd
      have h0 := loop n.toNat 0 (by omega)
      rw [ff_bB_0, ← h10] at h0
      refine hkut [(27, [0, 1])] 60 9 _ _ _ ?_
      repeat' (first | (intro hh; exfalso; omega) | (refine And.intro (by first | assumption | omega) ?_) | (refine And.intro rfl ?_) | (refine And.intro ?_ ?_) | (intro qq hq1 hq2 hq3; have hq4 := hq2 (by omega) (by omega); subst hq4) | (intro hh) | omega | exact trivial)
      all_goals exact h0
    · rw [if_neg hF9, if_neg hF9] at hsp
      have hsp := hsp N hN
      refine hkut [] 60 9 _ _ _ ?_
      repeat' (first | (intro hh; exfalso; omega) | (refine And.intro (by first | assumption | omega) ?_) | (refine And.intro rfl ?_) | (refine And.intro ?_ ?_) | (intro qq hq1 hq2 hq3; have hq4 := hq2 (by omega) (by omega); subst hq4) | (intro hh) | omega | exact trivial)
      all_goals exact hsp
  refine hkut [(9, [0])] 60 5 _ _ _ ?_
  refine And.intro rfl (And.intro hl (And.intro hT ?_))
  rw [hF]
  intro N h1 h2
  exact mid N h1 h2
theorem so_X6_book : ez_Sound LM yX6_book cX6_book 2 (some .int) 4 sp_X6_book := ez_sound (E := e_X6_book) (prog := p_X6_book) LM_ok (by decide +kernel) rfl (fun _ h => h) fo_X6 co_X6_ok (List.forall_mem_cons.mpr ⟨k_X6_140 (by decide), fun _ h => absurd h List.not_mem_nil⟩) dp_X6_book b_X6_book
