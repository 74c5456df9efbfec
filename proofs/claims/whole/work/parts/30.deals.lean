def ff_adM (M : ez_M) (s r hit k : Nat) : ez_M := fun i j => if i = 15 ∧ s * 11 + hit ≤ j ∧ j < s * 11 + hit + k then M 15 j + M 15 (r * 11 + (j - (s * 11 + hit))) else M i j
theorem ff_adM_s {M : ez_M} {s r hit k : Nat} (hr : r < s) (hk : k ≤ 10) : ez_up (ff_adM M s r hit k) 15 (s * 11 + hit + k) (ff_adM M s r hit k 15 (s * 11 + hit + k) + ff_adM M s r hit k 15 (r * 11 + k)) = ff_adM M s r hit (k + 1) := by
  have e1 : ff_adM M s r hit k 15 (s * 11 + hit + k) = M 15 (s * 11 + hit + k) := by
    unfold ff_adM
    rw [if_neg (by omega)]
  have e2 : ff_adM M s r hit k 15 (r * 11 + k) = M 15 (r * 11 + k) := by
    unfold ff_adM
    rw [if_neg (by omega)]
  rw [e1, e2]
  funext i j
  simp only [ez_up, ff_adM]
  by_cases hi : i = 15
  · subst hi
    by_cases hj : j = s * 11 + hit + k
    · subst hj
      rw [if_pos ⟨rfl, rfl⟩, if_pos ⟨rfl, by omega, by omega⟩, show s * 11 + hit + k - (s * 11 + hit) = k by omega]
    · rw [if_neg (fun z => hj z.2)]
      by_cases hz : s * 11 + hit ≤ j ∧ j < s * 11 + hit + k
      · rw [if_pos ⟨rfl, hz⟩, if_pos ⟨rfl, hz.1, by omega⟩]
      · rw [if_neg (fun z => hz z.2), if_neg (fun z => hz ⟨z.2.1, by omega⟩)]
  · rw [if_neg (fun z => hi z.1), if_neg (fun z => hi z.1), if_neg (fun z => hi z.1)]
def sp_X3_clearSaints : ez_Sp := fun as M Q => match as with | [.inr (.inr q)] => q = 13 ∧ Q none (ez_up M 13 2 0) | _ => False
def e_X3_clearSaints : ez_E := (fl_X3, co_X3, [], 3, 1)
set_option maxHeartbeats 4000000 in
set_option maxRecDepth 100000 in
theorem b_X3_clearSaints : ez_Body LX e_X3_clearSaints p_X3_clearSaints sp_X3_clearSaints := by
  intro as M Q has hM hsp
  unfold sp_X3_clearSaints at hsp
  split at hsp
  rotate_left
  · exact hsp.elim
  rename_i q
  obtain ⟨rfl, hsp⟩ := hsp
  refine ⟨Nat.le_of_ble_eq_true rfl, fun cut hcut hkut => hcut [] 60 0 _ _ _ ?_⟩
  repeat' (first | (intro hh; exfalso; omega) | (refine And.intro (by first | assumption | omega) ?_) | (refine And.intro rfl ?_) | (refine And.intro ?_ ?_) | (intro qq hq1 hq2 hq3; have hq4 := hq2 (by omega) (by omega); subst hq4) | (intro hh) | omega | exact trivial)
  all_goals exact hsp
theorem so_X3_clearSaints : ez_Sound LX yX3_clearSaints cX3_clearSaints 1 none 0 sp_X3_clearSaints := ez_sound (E := e_X3_clearSaints) (prog := p_X3_clearSaints) LX_ok (by decide +kernel) rfl (fun _ h => h) fo_X3 co_X3_ok (fun _ h => absurd h List.not_mem_nil) dp_X3_clearSaints b_X3_clearSaints
theorem k_X3_22 {d : Nat} (h : 0 < d) : ez_CallOK LX RX3 d (22, 0, 3, sp_X5_put) := ez_callS (y := yX5_put) (bytes := cX5_put) so_X5_put h (by decide) q_183 q_72 ⟨by decide +kernel, by decide +kernel, by decide +kernel⟩ (Or.inr ⟨"EastNearly", q_530⟩) q_182
def sp_X3_addSaint : ez_Sp := fun as M Q => match as with | [.inr (.inr q), .inl s] => q = 13 ∧ (0 ≤ M 13 2 ∧ M 13 2 ≤ 9) ∧ Q none (ez_up (ez_up M 14 (M 13 2).toNat s) 13 2 (M 13 2 + 1)) | _ => False
def e_X3_addSaint : ez_E := (fl_X3, co_X3, [(22, 0, 3, sp_X5_put)], 3, 2)
set_option maxHeartbeats 4000000 in
set_option maxRecDepth 100000 in
theorem b_X3_addSaint : ez_Body LX e_X3_addSaint p_X3_addSaint sp_X3_addSaint := by
  intro as M Q has hM hsp
  unfold sp_X3_addSaint at hsp
  split at hsp
  rotate_left
  · exact hsp.elim
  rename_i q s
  have g_s : -2147483648 ≤ s ∧ s ≤ 2147483647 := ez_hd (ez_tl (has))
  obtain ⟨rfl, hv, hsp⟩ := hsp
  have e : ∀ a b, ez_up M 14 a b 13 2 = M 13 2 := by
    intros
    simp [ez_up]
  have e0 := e (M 13 2).toNat s
  rw [← e0] at hsp
  rw [e0] at hsp
  refine ⟨Nat.le_of_ble_eq_true rfl, fun cut hcut hkut => hcut [] 60 0 _ _ _ ?_⟩
  repeat' (first | (intro hh; exfalso; omega) | (refine And.intro (by first | assumption | omega | (simp [ez_up]; omega)) ?_) | (refine And.intro rfl ?_) | (refine And.intro ?_ ?_) | (intro qq hq1 hq2 hq3; have hq4 := hq2 (by omega) (by omega); subst hq4) | (intro hh) | omega | exact trivial)
  all_goals
    refine ez_mem hsp ?_
    rw [e0]
theorem so_X3_addSaint : ez_Sound LX yX3_addSaint cX3_addSaint 2 none 1 sp_X3_addSaint := ez_sound (E := e_X3_addSaint) (prog := p_X3_addSaint) LX_ok (by decide +kernel) rfl (fun _ h => h) fo_X3 co_X3_ok (List.forall_mem_cons.mpr ⟨k_X3_22 (by decide), fun _ h => absurd h List.not_mem_nil⟩) dp_X3_addSaint b_X3_addSaint
theorem k_X3_32 {d : Nat} (h : 0 < d) : ez_CallOK LX RX3 d (32, 0, 2, sp_X5_at) := ez_callS (y := yX5_at) (bytes := cX5_at) so_X5_at h (by decide) q_259 q_72 ⟨by decide +kernel, by decide +kernel, by decide +kernel⟩ (Or.inr ⟨"EastNearly", q_536⟩) q_258
def sp_X3_addWays : ez_Sp := fun as M Q => match as with | [.inr (.inr q), .inl s, .inl r, .inl m, .inl hit] => q = 13 ∧ (0 ≤ r ∧ r < s ∧ s ≤ 1023 ∧ 0 ≤ m ∧ m ≤ 9 ∧ (hit = 0 ∨ hit = 1)) ∧ (∀ j : Nat, (j : Int) ≤ m → -2147483648 ≤ M 15 (s.toNat * 11 + hit.toNat + j) + M 15 (r.toNat * 11 + j) ∧ M 15 (s.toNat * 11 + hit.toNat + j) + M 15 (r.toNat * 11 + j) ≤ 2147483647) ∧ Q none (ff_adM M s.toNat r.toNat hit.toNat (m.toNat + 1)) | _ => False
def e_X3_addWays : ez_E := (fl_X3, co_X3, [(32, 0, 2, sp_X5_at), (22, 0, 3, sp_X5_put)], 3, 7)
set_option maxHeartbeats 4000000 in
set_option maxRecDepth 100000 in
theorem b_X3_addWays : ez_Body LX e_X3_addWays p_X3_addWays sp_X3_addWays := by
  intro as M Q has hM hsp
  unfold sp_X3_addWays at hsp
  split at hsp
  rotate_left
  · exact hsp.elim
  rename_i q s r m hit
  have g_s : -2147483648 ≤ s ∧ s ≤ 2147483647 := ez_hd (ez_tl (has))
  have g_r : -2147483648 ≤ r ∧ r ≤ 2147483647 := ez_hd (ez_tl (ez_tl (has)))
  have g_m : -2147483648 ≤ m ∧ m ≤ 2147483647 := ez_hd (ez_tl (ez_tl (ez_tl (has))))
  have g_hit : -2147483648 ≤ hit ∧ hit ≤ 2147483647 := ez_hd (ez_tl (ez_tl (ez_tl (ez_tl (has)))))
  obtain ⟨rfl, hv, hrg, hsp⟩ := hsp
  obtain ⟨s, rfl⟩ := Int.eq_ofNat_of_zero_le (by omega : 0 ≤ s)
  obtain ⟨r, rfl⟩ := Int.eq_ofNat_of_zero_le hv.1
  obtain ⟨m, rfl⟩ := Int.eq_ofNat_of_zero_le hv.2.2.2.1
  obtain ⟨hit, rfl⟩ := Int.eq_ofNat_of_zero_le (by omega : 0 ≤ hit)
  simp only [Int.toNat_natCast] at hrg hsp
  refine ⟨Nat.le_of_ble_eq_true rfl, fun cut hcut hkut => ?_⟩
  have loop : ∀ (n k : Nat), k + n = m + 1 → cut 3 [(0, .inr (.inr 13)), (1, .inl (s : Int)), (2, .inl (r : Int)), (3, .inl (m : Int)), (4, .inl (hit : Int)), (5, .inl (k : Int))] [] (ff_adM M s r hit k) := by
    intro n
    induction n with
    | zero =>
      intro k hk
      obtain rfl : k = m + 1 := by omega
      refine hkut [(3, [0, 1, 2, 3, 4, 5])] 60 3 _ _ _ ?_
      repeat' (first | (intro hh; exfalso; omega) | (refine And.intro (by first | assumption | omega) ?_) | (refine And.intro rfl ?_) | (refine And.intro ?_ ?_) | (intro qq hq1 hq2 hq3; have hq4 := hq2 (by omega) (by omega); subst hq4) | (intro hh) | omega | exact trivial)
      all_goals exact hsp
    | succ n ih =>
      intro k hk
      have ih := ih (k + 1) (by omega)
      have hg := hrg k (by omega)
      have t1 : ((s : Int) * 11 + (k : Int) + (hit : Int)).toNat = s * 11 + hit + k := by omega
      have t2 : ((r : Int) * 11 + (k : Int)).toNat = r * 11 + k := by omega
      have f1 : ff_adM M s r hit k 15 (s * 11 + hit + k) = M 15 (s * 11 + hit + k) := by
        unfold ff_adM
        rw [if_neg (by omega)]
      have f2 : ff_adM M s r hit k 15 (r * 11 + k) = M 15 (r * 11 + k) := by
        unfold ff_adM
        rw [if_neg (by omega)]
      rw [← f1, ← f2] at hg
      rw [← ff_adM_s (by omega) (by omega), ← t1, ← t2] at ih
      rw [← t1, ← t2] at hg
      refine hkut [(3, [0, 1, 2, 3, 4, 5])] 60 3 _ _ _ ?_
      generalize ff_adM M s r hit k = N at hg ih ⊢
      repeat' (first | (intro hh; exfalso; omega) | (refine And.intro (by first | assumption | omega) ?_) | (refine And.intro rfl ?_) | (refine And.intro ?_ ?_) | (intro qq hq1 hq2 hq3; have hq4 := hq2 (by omega) (by omega); subst hq4) | (intro hh) | omega | exact trivial)
      all_goals exact ih
  refine hkut [(3, [0, 1, 2, 3, 4, 5])] 60 0 _ _ _ ?_
  have h0 := loop (m + 1) 0 (by omega)
  have e : ff_adM M s r hit 0 = M := by
    funext i j
    unfold ff_adM
    rw [if_neg (by omega)]
  rw [e] at h0
  exact h0
theorem so_X3_addWays : ez_Sound LX yX3_addWays cX3_addWays 7 none 1 sp_X3_addWays := ez_sound (E := e_X3_addWays) (prog := p_X3_addWays) LX_ok (by decide +kernel) rfl (fun _ h => h) fo_X3 co_X3_ok (List.forall_mem_cons.mpr ⟨k_X3_32 (by decide), List.forall_mem_cons.mpr ⟨k_X3_22 (by decide), fun _ h => absurd h List.not_mem_nil⟩⟩) dp_X3_addWays b_X3_addWays
def sp_X3_waysWith : ez_Sp := fun as M Q => match as with | [.inr (.inr q), .inl k] => q = 13 ∧ (0 ≤ M 13 2 ∧ M 13 2 ≤ 10 ∧ 0 ≤ k ∧ k ≤ 10) ∧ Q (some (.inl (M 15 ((2 ^ (M 13 2).toNat - 1) * 11 + k.toNat)))) M | _ => False
def e_X3_waysWith : ez_E := (fl_X3, co_X3, [(32, 0, 2, sp_X5_at)], 0, 3)
set_option maxHeartbeats 4000000 in
set_option maxRecDepth 100000 in
theorem b_X3_waysWith : ez_Body LX e_X3_waysWith p_X3_waysWith sp_X3_waysWith := by
  intro as M Q has hM hsp
  unfold sp_X3_waysWith at hsp
  split at hsp
  rotate_left
  · exact hsp.elim
  rename_i q k
  have g_k : -2147483648 ≤ k ∧ k ≤ 2147483647 := ez_hd (ez_tl (has))
  obtain ⟨rfl, hv, hsp⟩ := hsp
  have hP := ff_shl_n (n := M 13 2) ⟨hv.1, hv.2.1⟩
  have t : ((ez_shl 1 (M 13 2) - 1) * 11 + k).toNat = (2 ^ (M 13 2).toNat - 1) * 11 + k.toNat := by
    rw [hP.1]
    have : 0 < 2 ^ (M 13 2).toNat := Nat.pow_pos (by decide)
    omega
  rw [← t] at hsp
  refine ⟨Nat.le_of_ble_eq_true rfl, fun cut hcut hkut => hcut [] 60 0 _ _ _ ?_⟩
  repeat' (first | (intro hh; exfalso; omega) | (refine And.intro (by first | assumption | omega) ?_) | (refine And.intro rfl ?_) | (refine And.intro ?_ ?_) | (intro qq hq1 hq2 hq3; have hq4 := hq2 (by omega) (by omega); subst hq4) | (intro hh) | omega | exact trivial)
  all_goals exact hsp
theorem so_X3_waysWith : ez_Sound LX yX3_waysWith cX3_waysWith 3 (some .int) 1 sp_X3_waysWith := ez_sound (E := e_X3_waysWith) (prog := p_X3_waysWith) LX_ok (by decide +kernel) rfl (fun _ h => h) fo_X3 co_X3_ok (List.forall_mem_cons.mpr ⟨k_X3_32 (by decide), fun _ h => absurd h List.not_mem_nil⟩) dp_X3_waysWith b_X3_waysWith
/-- the table of ways in the class's memory: P sets -/
def ff_tb (M : ez_M) (P : Nat) (g : Nat → Nat → Int) : ez_M := fun i j => if i = 15 ∧ j < P * 11 then g (j / 11) (j % 11) else M i j
def ff_zf (M : ez_M) (k : Nat) : ez_M := fun i j => if i = 15 ∧ j < k then 0 else M i j
theorem ff_zf_s (M : ez_M) (k : Nat) : ez_up (ff_zf M k) 15 k 0 = ff_zf M (k + 1) := by
  funext i j
  simp only [ez_up, ff_zf]
  grind
theorem ff_tb_at {M : ez_M} {P : Nat} {g : Nat → Nat → Int} {t h : Nat} (ht : t < P) (hh : h < 11) : ff_tb M P g 15 (t * 11 + h) = g t h := by
  unfold ff_tb
  rw [if_pos ⟨rfl, by omega⟩]
  congr 1 <;> omega
def ff_g (L : Nat → Nat → Bool) (n s e : Nat) : Nat → Nat → Int := fun t h => if t < s then ff_W L n (ff_pc t) t h else if t = s then ff_sm (ff_Wt L n (ff_pc s - 1) s h) e else 0
theorem ff_tb_congr {M : ez_M} {P : Nat} {g g' : Nat → Nat → Int} (h : ∀ t h, t < P → h < 11 → g t h = g' t h) : ff_tb M P g = ff_tb M P g' := by
  funext i j
  unfold ff_tb
  by_cases hz : i = 15 ∧ j < P * 11
  · rw [if_pos hz, if_pos hz]
    exact h _ _ (by omega) (by omega)
  · rw [if_neg hz, if_neg hz]
theorem ff_tb_0 (M : ez_M) (L : Nat → Nat → Bool) (n P : Nat) (hP : 0 < P) : ez_up (ff_zf M (P * 11)) 15 0 1 = ff_tb M P (ff_g L n 1 0) := by
  funext i j
  simp only [ez_up, ff_zf, ff_tb, ff_g]
  by_cases hi : i = 15
  · subst hi
    by_cases hj : j = 0
    · subst hj
      rw [if_pos ⟨rfl, rfl⟩, if_pos ⟨rfl, by omega⟩, if_pos (by omega)]
      rfl
    · rw [if_neg (fun z => hj z.2)]
      by_cases hb : j < P * 11
      · rw [if_pos ⟨rfl, hb⟩, if_pos ⟨rfl, hb⟩]
        by_cases ht : j / 11 < 1
        · rw [if_pos ht]
          have h0 : j / 11 = 0 := by omega
          rw [h0]
          show 0 = ff_W L n 0 0 (j % 11)
          simp only [ff_W]
          rw [if_neg (by omega)]
        · rw [if_neg ht]
          split <;> rfl
      · rw [if_neg (fun z => hb z.2), if_neg (fun z => hb z.2)]
  · rw [if_neg (fun z => hi z.1), if_neg (fun z => hi z.1), if_neg (fun z => hi z.1)]
/-- a saint that isn't of the set -/
theorem ff_g_skip {L : Nat → Nat → Bool} {n s e : Nat} (hb : ¬ s.testBit e = true) : ff_g L n s (e + 1) = ff_g L n s e := by
  funext t h
  simp only [ff_g, ff_sm]
  have : ff_Wt L n (ff_pc s - 1) s h e = 0 := by
    unfold ff_Wt
    rw [if_neg hb]
  rw [this, Int.add_zero]
theorem ff_g_next {L : Nat → Nat → Bool} {n s : Nat} (hn : n ≤ 10) (hs : s < 2 ^ n) (h0 : 0 < s) : ff_g L n s n = ff_g L n (s + 1) 0 := by
  have h2 : (2 : Nat) ^ n ≤ 2 ^ 10 := Nat.pow_le_pow_right (by decide) hn
  have hp := ff_pc_pos (t := s) (by omega) h0
  funext t h
  simp only [ff_g]
  by_cases h1 : t < s
  · rw [if_pos h1, if_pos (by omega)]
  · rw [if_neg h1]
    by_cases h3 : t = s
    · subst h3
      rw [if_pos rfl, if_pos (by omega), ← ff_W_s, show ff_pc t - 1 + 1 = ff_pc t by omega]
    · rw [if_neg h3, if_neg (by omega)]
      split <;> rfl
/-- a saint of the set -/
theorem ff_g_add {M : ez_M} {L : Nat → Nat → Bool} {n s e m hit : Nat} (hn : n ≤ 10) (hs : s < 2 ^ n) (he : e < n) (hb : s.testBit e = true) (hm : ff_pc s = m + 1) (hh : hit = if L m e = true then 1 else 0) : ff_adM (ff_tb M (2 ^ n) (ff_g L n s e)) s (s - 2 ^ e) hit (m + 1) = ff_tb M (2 ^ n) (ff_g L n s (e + 1)) := by
  have h2 : (2 : Nat) ^ n ≤ 2 ^ 10 := Nat.pow_le_pow_right (by decide) hn
  have hq := ff_pc_sub (t := s) (e := e) (by omega) (by omega) hb
  have hm10 := ff_ct_r s 10
  have hm10 : m + 1 ≤ 10 := by
    unfold ff_pc at hm
    omega
  have hit1 : hit ≤ 1 := by
    rw [hh]
    split <;> omega
  have gr : ∀ h, ff_g L n s e (s - 2 ^ e) h = ff_W L n m (s - 2 ^ e) h := by
    intro h
    unfold ff_g
    rw [if_pos (by omega), show ff_pc (s - 2 ^ e) = m by omega]
  have gs : ∀ k h, ff_g L n s k s h = ff_sm (ff_Wt L n m s h) k := by
    intro k h
    unfold ff_g
    rw [if_neg (by omega), if_pos rfl, show ff_pc s - 1 = m by omega]
  have wt : ∀ h, ff_Wt L n m s h e = if hit ≤ h ∧ h - hit ≤ m then ff_W L n m (s - 2 ^ e) (h - hit) else 0 := by
    intro h
    unfold ff_Wt
    rw [if_pos hb]
    by_cases hL : L m e = true
    · rw [if_pos hL] at hh ⊢
      subst hh
      cases h with
      | zero => rw [if_neg (by omega)]
      | succ h =>
        by_cases hz : h ≤ m
        · rw [if_pos ⟨by omega, by omega⟩, show h + 1 - 1 = h by omega]
        · rw [if_neg (by omega)]
          exact ff_W_0 L n m _ h (by omega)
    · rw [if_neg hL] at hh ⊢
      subst hh
      by_cases hz : h ≤ m
      · rw [if_pos ⟨by omega, by omega⟩, Nat.sub_zero]
      · rw [if_neg (by omega), ff_W_0 L n m _ h (by omega)]
  funext i j
  unfold ff_adM
  by_cases hi : i = 15
  · subst hi
    by_cases hz : s * 11 + hit ≤ j ∧ j < s * 11 + hit + (m + 1)
    · rw [if_pos ⟨rfl, hz⟩]
      obtain ⟨h, rfl⟩ : ∃ h, j = s * 11 + h := ⟨j - s * 11, by omega⟩
      rw [show s * 11 + h - (s * 11 + hit) = h - hit by omega]
      rw [ff_tb_at hs (by omega), ff_tb_at (by omega) (by omega), ff_tb_at hs (by omega), gr, gs, gs]
      simp only [ff_sm]
      rw [wt, if_pos ⟨by omega, by omega⟩]
    · rw [if_neg (fun z => hz z.2)]
      unfold ff_tb
      by_cases hj : j < 2 ^ n * 11
      · rw [if_pos ⟨rfl, hj⟩, if_pos ⟨rfl, hj⟩]
        by_cases ht : j / 11 = s
        · rw [ht, gs, gs]
          simp only [ff_sm]
          rw [wt, if_neg (by omega), Int.add_zero]
        · unfold ff_g
          split
          · rfl
          · first | rfl | rw [if_neg ht, if_neg ht]
      · rw [if_neg (fun z => hj z.2), if_neg (fun z => hj z.2)]
  · rw [if_neg (fun z => hi z.1)]
    unfold ff_tb
    rw [if_neg (fun z => hi z.1), if_neg (fun z => hi z.1)]

