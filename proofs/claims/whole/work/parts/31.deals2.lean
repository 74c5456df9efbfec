theorem k_X3_26 {d : Nat} (h : 0 < d) : ez_CallOK LX RX3 d (26, 0, 1, sp_J6_bitCount_0f7a4) := ez_callS (y := yJ6_bitCount_0f7a4) (bytes := cJ6_bitCount_0f7a4) so_J6_bitCount_0f7a4 h (by decide) q_465 q_80 ⟨by decide +kernel, by decide +kernel, by decide +kernel⟩ (Or.inl q_535) q_464
theorem k_X3_36 {d : Nat} (h : 1 < d) : ez_CallOK LX RX3 d (36, 3+1, 4, sp_X3_addWays) := ez_callV (y := yX3_addWays) (bytes := cX3_addWays) so_X3_addWays h (by decide) q_540 q_76 ⟨by decide +kernel, by decide +kernel, by decide +kernel⟩ (Or.inl q_537) q_539 q_33 (T := TX3) (N := 3) rfl
def sp_X3_countWays : ez_Sp := fun as M Q => match as with | [.inr (.inr q)] => q = 13 ∧ (0 ≤ M 13 2 ∧ M 13 2 ≤ 10) ∧ (∀ j : Nat, (j : Int) < M 13 2 → 0 ≤ M 14 j ∧ M 14 j ≤ 1023) ∧ Q none (ff_tb M (2 ^ (M 13 2).toNat) (ff_g (fun m e => (M 14 m).toNat.testBit e) (M 13 2).toNat (2 ^ (M 13 2).toNat) 0)) | _ => False
def e_X3_countWays : ez_E := (fl_X3, co_X3, [(22, 0, 3, sp_X5_put), (26, 0, 1, sp_J6_bitCount_0f7a4), (32, 0, 2, sp_X5_at), (36, 3+1, 4, sp_X3_addWays)], 3, 6)
set_option maxHeartbeats 4000000 in
set_option maxRecDepth 100000 in
theorem b_X3_countWays : ez_Body LX e_X3_countWays p_X3_countWays sp_X3_countWays := by
  intro as M Q has hM hsp
  unfold sp_X3_countWays at hsp
  split at hsp
  rotate_left
  · exact hsp.elim
  rename_i q
  obtain ⟨rfl, hv, hE, hsp⟩ := hsp
  obtain ⟨n, hn⟩ := Int.eq_ofNat_of_zero_le hv.1
  rw [hn, Int.toNat_natCast] at hsp
  have hn10 : n ≤ 10 := by omega
  have hP := ff_shl_n (n := M 13 2) hv
  rw [hn, Int.toNat_natCast] at hP
  have hPp : 0 < 2 ^ n := Nat.pow_pos (by decide)
  have hP2 : (2 : Nat) ^ n ≤ 2 ^ 10 := Nat.pow_le_pow_right (by decide) hn10
  generalize hL : (fun m e => (M 14 m).toNat.testBit e) = L at hsp
  have hLv : ∀ m e, L m e = (M 14 m).toNat.testBit e := fun m e => by rw [← hL]
  refine ⟨Nat.le_of_ble_eq_true rfl, fun cut hcut hkut => ?_⟩
  have inner : ∀ (f e s m : Nat), e + f = n → 0 < s → s < 2 ^ n → ff_pc s = m + 1 → cut 43 [(0, .inr (.inr 13)), (1, .inl ((2 ^ n : Nat) : Int)), (2, .inl ((s + 1 : Nat) : Int))] [] (ff_tb M (2 ^ n) (ff_g L n (s + 1) 0)) → cut 58 [(0, .inr (.inr 13)), (1, .inl ((2 ^ n : Nat) : Int)), (2, .inl (s : Int)), (3, .inl (m : Int)), (4, .inl (e : Int))] [] (ff_tb M (2 ^ n) (ff_g L n s e)) := by
    intro f
    induction f with
    | zero =>
      intro e s m he hs0 hs hm hc
      obtain rfl : e = n := by omega
      rw [← ff_g_next hn10 hs hs0] at hc
      have e2 : ff_tb M (2 ^ e) (ff_g L e s e) 13 2 = (e : Int) := by rw [← hn]; rfl
      refine hkut [(58, [0, 1, 2, 3, 4]), (43, [0, 1, 2])] 60 58 _ _ _ ?_
      generalize ff_tb M (2 ^ e) (ff_g L e s e) = N at e2 hc ⊢
      repeat' (first | (intro hh; exfalso; omega) | (refine And.intro (by first | assumption | omega) ?_) | (refine And.intro rfl ?_) | (refine And.intro ?_ ?_) | (intro qq hq1 hq2 hq3; have hq4 := hq2 (by omega) (by omega); subst hq4) | (intro hh) | omega | exact trivial)
      all_goals exact hc
    | succ f ih =>
      intro e s m he hs0 hs hm hc
      have ih := ih (e + 1) s m (by omega) hs0 hs hm hc
      have e2 : ff_tb M (2 ^ n) (ff_g L n s e) 13 2 = (n : Int) := by rw [← hn]; rfl
      have e14 : ∀ j, ff_tb M (2 ^ n) (ff_g L n s e) 14 j = M 14 j := fun j => rfl
      have hb := ez_tb (x := (s : Int)) (k := e) (by omega) (by omega) (by omega)
      unfold ff_b at hb
      rw [Int.toNat_natCast] at hb
      have hm10 := ff_ct_r s 10
      have hmn : m < n := by
        have h1 := ff_ct_le s n (10 - n)
        rw [show n + (10 - n) = 10 by omega] at h1
        have h3 : ∀ k, ff_ct s (n + k) = ff_ct s n := by
          intro k
          induction k with
          | zero => rfl
          | succ k ihk =>
            rw [show n + (k + 1) = (n + k) + 1 by omega]
            simp only [ff_ct]
            rw [ihk, Nat.testBit_lt_two_pow (Nat.lt_of_lt_of_le hs (Nat.pow_le_pow_right (by decide) (by omega)))]
            rfl
        have h4 := h3 (10 - n)
        rw [show n + (10 - n) = 10 by omega] at h4
        have h5 := ff_ct_r s n
        unfold ff_pc at hm
        omega
      by_cases hbit : s.testBit e = true
      · rw [if_pos hbit] at hb
        have hEm := hE m (by omega)
        have hbL := ez_tb (x := M 14 m) (k := e) hEm.1 (by omega) (by omega)
        unfold ff_b at hbL
        have hq := ff_pc_sub (t := s) (e := e) (by omega) (by omega) hbit
        have hsh := ez_shl_n e (by omega)
        have hp1 : ∀ h, 0 ≤ ff_sm (ff_Wt L n m s h) e ∧ ff_sm (ff_Wt L n m s h) e ≤ 3628800 := fun h => ff_Wp_r L hn10 m s h e (by omega) hs hm
        have hp2 : ∀ h, 0 ≤ ff_W L n m (s - 2 ^ e) h ∧ ff_W L n m (s - 2 ^ e) h ≤ ff_fa m := fun h => ff_W_r L hn10 m (s - 2 ^ e) h (by omega) (by omega)
        have hm9 : m + 1 ≤ 10 := by
          unfold ff_pc at hm
          omega
        have hfa := ff_fa_r m (by omega)
        obtain ⟨hit, hhit, hhv⟩ : ∃ hit : Nat, (hit = if L m e = true then 1 else 0) ∧ ez_and (ez_shr (M 14 m) (e : Int)) 1 = (hit : Int) := by
          refine ⟨if L m e = true then 1 else 0, rfl, ?_⟩
          rw [hbL, hLv]
          split <;> rfl
        have hit1 : hit = 0 ∨ hit = 1 := by
          rw [hhit]
          split <;> omega
        have hadd := ff_g_add (M := M) (L := L) hn10 hs (by omega : e < n) hbit hm hhit
        rw [← hadd] at ih
        have hrd : ∀ j : Nat, j ≤ m → -2147483648 ≤ ff_tb M (2 ^ n) (ff_g L n s e) 15 (s * 11 + hit + j) + ff_tb M (2 ^ n) (ff_g L n s e) 15 ((s - 2 ^ e) * 11 + j) ∧ ff_tb M (2 ^ n) (ff_g L n s e) 15 (s * 11 + hit + j) + ff_tb M (2 ^ n) (ff_g L n s e) 15 ((s - 2 ^ e) * 11 + j) ≤ 2147483647 := by
          intro j hj
          rw [show s * 11 + hit + j = s * 11 + (hit + j) by omega, ff_tb_at hs (by omega), ff_tb_at (by omega) (by omega)]
          have a1 : ff_g L n s e s (hit + j) = ff_sm (ff_Wt L n m s (hit + j)) e := by
            unfold ff_g
            rw [if_neg (by omega), if_pos rfl, show ff_pc s - 1 = m by omega]
          have a2 : ff_g L n s e (s - 2 ^ e) j = ff_W L n m (s - 2 ^ e) j := by
            unfold ff_g
            rw [if_pos (by omega), show ff_pc (s - 2 ^ e) = m by omega]
          rw [a1, a2]
          have := hp1 (hit + j)
          have := hp2 j
          omega
        have hEv : ff_tb M (2 ^ n) (ff_g L n s e) 14 (m : Int).toNat = M 14 m := by
          rw [Int.toNat_natCast]
          rfl
        refine hkut [(58, [0, 1, 2, 3, 4]), (43, [0, 1, 2])] 60 58 _ _ _ ?_
        generalize ff_tb M (2 ^ n) (ff_g L n s e) = N at e2 e14 ih hrd hEv ⊢
        rw [← hEv] at hhv
        have hsub : (s : Int) - ez_shl 1 (e : Int) = ((s - 2 ^ e : Nat) : Int) := by
          rw [hsh]
          omega
        have h1023 : (s : Int) ≤ 1023 := by omega
        have hlt : ((s - 2 ^ e : Nat) : Int) < (s : Int) := by omega
        have hmi : (m : Int) ≤ 9 := by omega
        have hhc : (hit : Int) = 0 ∨ (hit : Int) = 1 := by omega
        rw [← hhv] at hhc
        have hrd2 : ∀ j : Nat, (j : Int) ≤ (m : Int) → -2147483648 ≤ N 15 ((s : Int).toNat * 11 + (ez_and (ez_shr (N 14 (m : Int).toNat) (e : Int)) 1).toNat + j) + N 15 (((s : Int) - ez_shl 1 (e : Int)).toNat * 11 + j) ∧ N 15 ((s : Int).toNat * 11 + (ez_and (ez_shr (N 14 (m : Int).toNat) (e : Int)) 1).toNat + j) + N 15 (((s : Int) - ez_shl 1 (e : Int)).toNat * 11 + j) ≤ 2147483647 := by
          rw [hhv, hsub]
          simp only [Int.toNat_natCast]
          exact fun j hj => hrd j (by omega)
        have ih2 : cut 58 [(0, .inr (.inr 13)), (1, .inl ((2 ^ n : Nat) : Int)), (2, .inl (s : Int)), (3, .inl (m : Int)), (4, .inl ((e + 1 : Nat) : Int))] [] (ff_adM N (s : Int).toNat ((s : Int) - ez_shl 1 (e : Int)).toNat (ez_and (ez_shr (N 14 (m : Int).toNat) (e : Int)) 1).toNat ((m : Int).toNat + 1)) := by
          rw [hhv, hsub]
          simp only [Int.toNat_natCast]
          exact ih
        rw [← hsub] at hlt
        have hr0 : 0 ≤ (s : Int) - ez_shl 1 (e : Int) := by
          rw [hsub]
          omega
        rw [hsh] at hsub
        repeat' (first | (intro hh; exfalso; omega) | (refine And.intro (by first | assumption | omega) ?_) | (refine And.intro rfl ?_) | (refine And.intro ?_ ?_) | (intro qq hq1 hq2 hq3; have hq4 := hq2 (by omega) (by omega); subst hq4) | (intro hh) | omega | exact trivial)
        all_goals exact ih2
      · rw [if_neg hbit] at hb
        rw [ff_g_skip hbit] at ih
        refine hkut [(58, [0, 1, 2, 3, 4]), (43, [0, 1, 2])] 60 58 _ _ _ ?_
        generalize ff_tb M (2 ^ n) (ff_g L n s e) = N at e2 e14 ih ⊢
        repeat' (first | (intro hh; exfalso; omega) | (refine And.intro (by first | assumption | omega) ?_) | (refine And.intro rfl ?_) | (refine And.intro ?_ ?_) | (intro qq hq1 hq2 hq3; have hq4 := hq2 (by omega) (by omega); subst hq4) | (intro hh) | omega | exact trivial)
        all_goals exact ih
  have outer : ∀ (f s : Nat), s + f = 2 ^ n → 0 < s → cut 43 [(0, .inr (.inr 13)), (1, .inl ((2 ^ n : Nat) : Int)), (2, .inl (s : Int))] [] (ff_tb M (2 ^ n) (ff_g L n s 0)) := by
    intro f
    induction f with
    | zero =>
      intro s hs h0
      obtain rfl : s = 2 ^ n := by omega
      refine hkut [(43, [0, 1, 2])] 60 43 _ _ _ ?_
      repeat' (first | (intro hh; exfalso; omega) | (refine And.intro (by first | assumption | omega) ?_) | (refine And.intro rfl ?_) | (refine And.intro ?_ ?_) | (intro qq hq1 hq2 hq3; have hq4 := hq2 (by omega) (by omega); subst hq4) | (intro hh) | omega | exact trivial)
      all_goals exact hsp
    | succ f ih =>
      intro s hs h0
      have ih := ih (s + 1) (by omega) (by omega)
      have hp := ff_pop_pc (t := s) (by omega)
      have hpp := ff_pc_pos (t := s) (by omega) h0
      have hm10 := ff_ct_r s 10
      have hi := inner n 0 s (ff_pc s - 1) (by omega) h0 (by omega) (by omega) ih
      refine hkut [(43, [0, 1, 2]), (58, [0, 1, 2, 3, 4])] 60 43 _ _ _ ?_
      have hpe : ff_pop (s : Int) - 1 = ((ff_pc s - 1 : Nat) : Int) := by omega
      rw [← hpe] at hi
      have hpr := ff_pop_r (s : Int)
      repeat' (first | (intro hh; exfalso; omega) | (refine And.intro (by first | assumption | omega) ?_) | (refine And.intro rfl ?_) | (refine And.intro ?_ ?_) | (intro qq hq1 hq2 hq3; have hq4 := hq2 (by omega) (by omega); subst hq4) | (intro hh) | omega | exact trivial)
      all_goals exact hi
  have zero : ∀ (f k : Nat), k + f = 2 ^ n * 11 → cut 9 [(0, .inr (.inr 13)), (1, .inl ((2 ^ n : Nat) : Int)), (2, .inl (k : Int))] [] (ff_zf M k) := by
    intro f
    induction f with
    | zero =>
      intro k hk
      obtain rfl : k = 2 ^ n * 11 := by omega
      have ho := outer (2 ^ n - 1) 1 (by omega) (by omega)
      rw [← ff_tb_0 M L n (2 ^ n) hPp] at ho
      refine hkut [(9, [0, 1, 2]), (43, [0, 1, 2])] 60 9 _ _ _ ?_
      generalize ff_zf M (2 ^ n * 11) = N at ho ⊢
      repeat' (first | (intro hh; exfalso; omega) | (refine And.intro (by first | assumption | omega) ?_) | (refine And.intro rfl ?_) | (refine And.intro ?_ ?_) | (intro qq hq1 hq2 hq3; have hq4 := hq2 (by omega) (by omega); subst hq4) | (intro hh) | omega | exact trivial)
      all_goals exact ho
    | succ f ih =>
      intro k hk
      have ih := ih (k + 1) (by omega)
      rw [← ff_zf_s] at ih
      refine hkut [(9, [0, 1, 2]), (43, [0, 1, 2])] 60 9 _ _ _ ?_
      generalize ff_zf M k = N at ih ⊢
      repeat' (first | (intro hh; exfalso; omega) | (refine And.intro (by first | assumption | omega) ?_) | (refine And.intro rfl ?_) | (refine And.intro ?_ ?_) | (intro qq hq1 hq2 hq3; have hq4 := hq2 (by omega) (by omega); subst hq4) | (intro hh) | omega | exact trivial)
      all_goals exact ih
  have hz := zero (2 ^ n * 11) 0 (by omega)
  have e0 : ff_zf M 0 = M := by
    funext i j
    simp [ff_zf]
  rw [e0] at hz
  rw [← hP.1, ← hn] at hz
  refine hkut [(9, [0, 1, 2])] 60 0 _ _ _ ?_
  repeat' (first | (intro hh; exfalso; omega) | (refine And.intro (by first | assumption | omega) ?_) | (refine And.intro rfl ?_) | (refine And.intro ?_ ?_) | (intro qq hq1 hq2 hq3; have hq4 := hq2 (by omega) (by omega); subst hq4) | (intro hh) | omega | exact trivial)
  all_goals exact hz
theorem so_X3_countWays : ez_Sound LX yX3_countWays cX3_countWays 6 none 2 sp_X3_countWays := ez_sound (E := e_X3_countWays) (prog := p_X3_countWays) LX_ok (by decide +kernel) rfl (fun _ h => h) fo_X3 co_X3_ok (List.forall_mem_cons.mpr ⟨k_X3_22 (by decide), List.forall_mem_cons.mpr ⟨k_X3_26 (by decide), List.forall_mem_cons.mpr ⟨k_X3_32 (by decide), List.forall_mem_cons.mpr ⟨k_X3_36 (by decide), fun _ h => absurd h List.not_mem_nil⟩⟩⟩⟩) dp_X3_countWays b_X3_countWays
