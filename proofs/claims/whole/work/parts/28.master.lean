theorem ff_off_r {a b : Int} (ha : 0 ≤ a ∧ a ≤ 359) (hb : 0 ≤ b ∧ b ≤ 359) : 0 ≤ ff_off a b ∧ ff_off a b ≤ 359 := by
  unfold ff_off
  omega
theorem ff_mid_r {f : Nat → Int} {c : Int} (h : ff_ch f c) : 0 ≤ ff_mid f c ∧ ff_mid f c ≤ 599 := by
  unfold ff_ch at h
  unfold ff_mid
  omega
theorem k_X5_269 {d : Nat} (h : 2 < d) : ez_CallOK LX RX5 d (269, 1+1, 1, sp_X1_middleYear) := ez_callV (y := yX1_middleYear) (bytes := cX1_middleYear) so_X1_middleYear h (by decide) q_564 q_75 ⟨by decide +kernel, by decide +kernel, by decide +kernel⟩ (Or.inr ⟨"EastNearly", q_561⟩) q_563 q_37 (T := TX1) (N := 3) rfl
def sp_X5_churchesLike : ez_Sp := fun as M Q => match as with | [.inr (.inr q), .inl c, .inl x, .inl y] => q = 0 ∧ (0 ≤ c ∧ c < M 7 1) ∧ ff_Inv (ff_X M) ∧ Q (some (.inl (ff_like (ff_X M) x y c))) M | _ => False
def e_X5_churchesLike : ez_E := (fl_X5, co_X5, [(139, 1+1, 2, sp_X1_get), (69, 0, 2, sp_X5_apart), (269, 1+1, 1, sp_X1_middleYear), (279, 0, 1, sp_J9_abs_0f7a4)], 0, 8)
set_option maxHeartbeats 4000000 in
set_option maxRecDepth 100000 in
theorem b_X5_churchesLike : ez_Body LX e_X5_churchesLike p_X5_churchesLike sp_X5_churchesLike := by
  intro as M Q has hM hsp
  unfold sp_X5_churchesLike at hsp
  split at hsp
  rotate_left
  · exact hsp.elim
  rename_i q c x y
  have g_c : -2147483648 ≤ c ∧ c ≤ 2147483647 := ez_hd (ez_tl (has))
  have g_x : -2147483648 ≤ x ∧ x ≤ 2147483647 := ez_hd (ez_tl (ez_tl (has)))
  have g_y : -2147483648 ≤ y ∧ y ≤ 2147483647 := ez_hd (ez_tl (ez_tl (ez_tl (has))))
  obtain ⟨rfl, hv, hI, hsp⟩ := hsp
  have hn := ff_n_X hI
  have hcc := ff_ch_X hI (c := c) hv.1 hv.2
  have hcm := ff_mid_r hcc
  have hc := hcc
  unfold ff_ch at hc
  refine ⟨Nat.le_of_ble_eq_true rfl, fun cut hcut hkut => ?_⟩
  have loop : ∀ (n : Nat) (o a : Int), o + n = M 7 1 → 0 ≤ o → Q (some (.inl (ff_bits (ff_lkp (ff_X M) x y c) n o a))) M → cut 6 [(0, .inr (.inr 0)), (1, .inl c), (2, .inl x), (3, .inl y), (4, .inl a), (5, .inl o)] [] M := by
    intro n
    induction n with
    | zero =>
      intro o a ho h0 hq
      refine hkut [(6, [0, 1, 2, 3, 4, 5])] 60 6 _ _ _ ?_
      repeat' (first | (intro hh; exfalso; omega) | (refine And.intro (by first | assumption | omega) ?_) | (refine And.intro rfl ?_) | (refine And.intro ?_ ?_) | (intro qq hq1 hq2 hq3; have hq4 := hq2 (by omega) (by omega); subst hq4) | (intro hh) | omega | exact trivial)
      all_goals exact hq
    | succ n ih =>
      intro o a ho h0 hq
      have hoo := ff_ch_X hI (c := o) (by omega) (by omega)
      have hom := ff_mid_r hoo
      have hd := hoo
      unfold ff_ch at hd
      have hor := ff_off_r hc.2.1 hd.2.1
      simp only [ff_bits] at hq
      refine hkut [(6, [0, 1, 2, 3, 4, 5])] 60 6 _ _ _ ?_
      by_cases hp : ff_off (M 8 (11 * c + 1).toNat) (M 8 (11 * o + 1).toNat) ≤ x ∧ ((ff_mid (M 8) c - ff_mid (M 8) o).natAbs : Int) ≤ y
      · have e : ff_lkp (ff_X M) x y c o = true := decide_eq_true hp
        rw [e, if_pos rfl] at hq
        repeat' (first | (intro hh; exfalso; omega) | (refine And.intro (by first | assumption | omega) ?_) | (refine And.intro rfl ?_) | (refine And.intro ?_ ?_) | (intro qq hq1 hq2 hq3; have hq4 := hq2 (by omega) (by omega); subst hq4) | (intro hh) | omega | exact trivial)
        all_goals exact ih _ _ (by omega) (by omega) hq
      · have e : ff_lkp (ff_X M) x y c o = false := decide_eq_false hp
        rw [e, if_neg (by decide)] at hq
        repeat' (first | (intro hh; exfalso; omega) | (refine And.intro (by first | assumption | omega) ?_) | (refine And.intro rfl ?_) | (refine And.intro ?_ ?_) | (intro qq hq1 hq2 hq3; have hq4 := hq2 (by omega) (by omega); subst hq4) | (intro hh) | omega | exact trivial)
        all_goals exact ih _ _ (by omega) (by omega) hq
  refine hkut [(6, [0, 1, 2, 3, 4, 5])] 60 0 _ _ _ ?_
  exact loop (M 7 1).toNat 0 0 (by omega) (by omega) hsp
theorem so_X5_churchesLike : ez_Sound LX yX5_churchesLike cX5_churchesLike 8 (some .int) 3 sp_X5_churchesLike := ez_sound (E := e_X5_churchesLike) (prog := p_X5_churchesLike) LX_ok (by decide +kernel) rfl (fun _ h => h) fo_X5 co_X5_ok (List.forall_mem_cons.mpr ⟨k_X5_139 (by decide), List.forall_mem_cons.mpr ⟨k_X5_69 (by decide), List.forall_mem_cons.mpr ⟨k_X5_269 (by decide), List.forall_mem_cons.mpr ⟨k_X5_279 (by decide), fun _ h => absurd h List.not_mem_nil⟩⟩⟩⟩) dp_X5_churchesLike b_X5_churchesLike
def sp_X5_areAllAlike : ez_Sp := fun as M Q => match as with | [.inr (.inr q), .inl s] => q = 0 ∧ (0 ≤ M 7 1 ∧ M 7 1 ≤ 10) ∧ (ff_alk (M 21) (M 7 1) s = true → Q (some (.inl 1)) M) ∧ (ff_alk (M 21) (M 7 1) s = false → Q (some (.inl 0)) M) | _ => False
def e_X5_areAllAlike : ez_E := (fl_X5, co_X5, [(163, 0, 2, sp_X5_at)], 1, 4)
set_option maxHeartbeats 4000000 in
set_option maxRecDepth 100000 in
theorem b_X5_areAllAlike : ez_Body LX e_X5_areAllAlike p_X5_areAllAlike sp_X5_areAllAlike := by
  intro as M Q has hM hsp
  unfold sp_X5_areAllAlike at hsp
  split at hsp
  rotate_left
  · exact hsp.elim
  rename_i q s
  have g_s : -2147483648 ≤ s ∧ s ≤ 2147483647 := ez_hd (ez_tl (has))
  obtain ⟨rfl, hv, hs1, hs2⟩ := hsp
  refine ⟨Nat.le_of_ble_eq_true rfl, fun cut hcut hkut => ?_⟩
  have loop : ∀ (n : Nat) (k : Int), k + n = M 7 1 → 0 ≤ k → (ff_al (ff_alkp (M 21) s) n k = true → Q (some (.inl 1)) M) → (ff_al (ff_alkp (M 21) s) n k = false → Q (some (.inl 0)) M) → cut 2 [(0, .inr (.inr 0)), (1, .inl s), (2, .inl k)] [] M := by
    intro n
    induction n with
    | zero =>
      intro k hk h0 hq1 hq2
      refine hkut [(2, [0, 1, 2])] 60 2 _ _ _ ?_
      repeat' (first | (intro hh; exfalso; omega) | (refine And.intro (by first | assumption | omega) ?_) | (refine And.intro rfl ?_) | (refine And.intro ?_ ?_) | (intro qq hq1 hq2 hq3; have hq4 := hq2 (by omega) (by omega); subst hq4) | (intro hh) | omega | exact trivial)
      all_goals exact hq1 rfl
    | succ n ih =>
      intro k hk h0 hq1 hq2
      refine hkut [(2, [0, 1, 2])] 60 2 _ _ _ ?_
      simp only [ff_al] at hq1 hq2
      by_cases hp : ff_alkp (M 21) s k = true
      · simp only [hp, Bool.true_and] at hq1 hq2
        have hp2 := of_decide_eq_true hp
        repeat' (first | (intro hh; exfalso; omega) | (refine And.intro (by first | assumption | omega) ?_) | (refine And.intro rfl ?_) | (refine And.intro ?_ ?_) | (intro qq hq1 hq2 hq3; have hq4 := hq2 (by omega) (by omega); subst hq4) | (intro hh) | omega | exact trivial)
        all_goals exact ih (k + 1) (by omega) (by omega) hq1 hq2
      · have hp3 : ff_alkp (M 21) s k = false := by simpa using hp
        simp only [hp3, Bool.false_and] at hq2
        have hp2 := of_decide_eq_false hp3
        repeat' (first | (intro hh; exfalso; omega) | (refine And.intro (by first | assumption | omega) ?_) | (refine And.intro rfl ?_) | (refine And.intro ?_ ?_) | (intro qq hq1 hq2 hq3; have hq4 := hq2 (by omega) (by omega); subst hq4) | (intro hh) | omega | exact trivial)
        all_goals exact hq2 trivial
  refine hkut [(2, [0, 1, 2])] 60 0 _ _ _ ?_
  exact loop (M 7 1).toNat 0 (by omega) (by omega) hs1 hs2
theorem so_X5_areAllAlike : ez_Sound LX yX5_areAllAlike cX5_areAllAlike 4 (some .boolean) 1 sp_X5_areAllAlike := ez_sound (E := e_X5_areAllAlike) (prog := p_X5_areAllAlike) LX_ok (by decide +kernel) rfl (fun _ h => h) fo_X5 co_X5_ok (List.forall_mem_cons.mpr ⟨k_X5_163 (by decide), fun _ h => absurd h List.not_mem_nil⟩) dp_X5_areAllAlike b_X5_areAllAlike
theorem ff_shl_n {n : Int} (h : 0 ≤ n ∧ n ≤ 10) : ez_shl 1 n = ((2 ^ n.toNat : Nat) : Int) ∧ 1 ≤ ez_shl 1 n ∧ ez_shl 1 n ≤ 1024 := by
  obtain ⟨m, rfl⟩ := Int.eq_ofNat_of_zero_le h.1
  have hm : m ≤ 10 := by omega
  have e := ez_shl_n m (by omega)
  rw [Int.toNat_natCast]
  refine ⟨e, ?_⟩
  rw [e]
  have h2 : (2 : Nat) ^ m ≤ 2 ^ 10 := Nat.pow_le_pow_right (by decide) hm
  have h3 : 0 < (2 : Nat) ^ m := Nat.pow_pos (by decide)
  omega
theorem k_X5_205 {d : Nat} (h : 3 < d) : ez_CallOK LX RX5 d (205, 5+1, 3, sp_X5_churchesLike) := ez_callV (y := yX5_churchesLike) (bytes := cX5_churchesLike) so_X5_churchesLike h (by decide) q_603 q_72 ⟨by decide +kernel, by decide +kernel, by decide +kernel⟩ (Or.inl q_600) q_602 q_41 (T := TX5) (N := 10) rfl
theorem k_X5_208 {d : Nat} (h : 1 < d) : ez_CallOK LX RX5 d (208, 5+1, 1, sp_X5_areAllAlike) := ez_callV (y := yX5_areAllAlike) (bytes := cX5_areAllAlike) so_X5_areAllAlike h (by decide) q_607 q_72 ⟨by decide +kernel, by decide +kernel, by decide +kernel⟩ (Or.inl q_604) q_606 q_42 (T := TX5) (N := 10) rfl
def sp_X5_master : ez_Sp := fun as M Q => match as with | [.inr (.inr q), .inl x, .inl y] => q = 0 ∧ ff_Inv (ff_X M) ∧ (∀ M' : ez_M, ff_X M' = ff_X M → Q (some (.inl (op_master (ff_X M) x y))) M') | _ => False
def e_X5_master : ez_E := (fl_X5, co_X5, [(83, 0, 3, sp_X5_within), (205, 5+1, 3, sp_X5_churchesLike), (61, 0, 3, sp_X5_put), (172, 0, 1, sp_J6_bitCount_0f7a4), (208, 5+1, 1, sp_X5_areAllAlike)], 0, 5)
set_option maxHeartbeats 4000000 in
set_option maxRecDepth 100000 in
theorem b_X5_master : ez_Body LX e_X5_master p_X5_master sp_X5_master := by
  intro as M Q has hM hsp
  unfold sp_X5_master at hsp
  split at hsp
  rotate_left
  · exact hsp.elim
  rename_i q x y
  have g_x : -2147483648 ≤ x ∧ x ≤ 2147483647 := ez_hd (ez_tl (has))
  have g_y : -2147483648 ≤ y ∧ y ≤ 2147483647 := ez_hd (ez_tl (ez_tl (has)))
  obtain ⟨rfl, hI, hsp⟩ := hsp
  have hn := ff_n_X hI
  unfold op_master at hsp
  by_cases h1 : (0 ≤ x ∧ x ≤ 180) ∧ (0 ≤ y ∧ y ≤ 599)
  · rw [if_pos h1] at hsp
    refine ⟨Nat.le_of_ble_eq_true rfl, fun cut hcut hkut => ?_⟩
    have hP := ff_shl_n hn
    generalize hPe : ez_shl 1 (M 7 1) = P at hP
    have hPx : ez_shl 1 (ff_X M 1 4) = P := hPe
    rw [hPx] at hsp
    generalize hf : (fun j : Nat => ff_like (ff_X M) x y (j : Int)) = f
    have hfv : ∀ j : Nat, f j = ff_like (ff_X M) x y (j : Int) := fun j => by rw [← hf]
    have two : ∀ (n : Nat) (s w : Int), s + n = P → 1 ≤ s → 0 ≤ w → w ≤ 1023 → (∀ M' : ez_M, ff_X M' = ff_X M → Q (some (.inl (ff_ms (ff_prs (ff_X M) x y) n s w))) M') → cut 64 [(0, .inr (.inr 0)), (3, .inl w), (4, .inl s)] [] (ff_fil M f (M 7 1).toNat) := by
      have e7 := ff_fil_7 M f (M 7 1).toNat
      have e21 : ∀ s : Int, 0 ≤ s → s < P → ff_alk (ff_fil M f (M 7 1).toNat 21) (ff_fil M f (M 7 1).toNat 7 1) s = ff_prs (ff_X M) x y s := fun s h0 hs => by
        refine ff_alk_prs (S := ff_X M) h1.1.1 h1.2.1 hn (fun j hj => ?_) h0 ?_
        · show (if 21 = 21 ∧ j < (M 7 1).toNat then f j else M 21 j) = ff_like (ff_X M) x y (j : Int)
          have hj2 : (j : Int) < M 7 1 := hj
          rw [if_pos ⟨rfl, by omega⟩, hfv]
        · show s.toNat < 2 ^ (M 7 1).toNat
          omega
      have eX := ff_fil_X M f (M 7 1).toNat
      generalize ff_fil M f (M 7 1).toNat = N at e7 e21 eX ⊢
      have hsh : ez_shl 1 (N 7 1) = P := by rw [e7]; exact hPe
      intro n
      induction n with
      | zero =>
        intro s w hs h0 hw0 hw1 hq
        refine hkut [(64, [0, 3, 4])] 60 64 _ _ _ ?_
        repeat' (first | (intro hh; exfalso; omega) | (refine And.intro (by first | assumption | omega) ?_) | (refine And.intro rfl ?_) | (refine And.intro ?_ ?_) | (intro qq hq1 hq2 hq3; have hq4 := hq2 (by omega) (by omega); subst hq4) | (intro hh) | omega | exact trivial)
        all_goals exact hq N eX
      | succ n ih =>
        intro s w hs h0 hw0 hw1 hq
        simp only [ff_ms] at hq
        have e21 := e21 s (by omega) (by omega)
        refine hkut [(64, [0, 3, 4])] 60 64 _ _ _ ?_
        by_cases hp : ff_pop w < ff_pop s
        · cases hc : ff_prs (ff_X M) x y s
          · rw [if_neg (fun z => by rw [hc] at z; cases z.1)] at hq
            rw [hc] at e21
            repeat' (first | (intro hh; exfalso; omega) | (refine And.intro (by first | assumption | omega) ?_) | (refine And.intro rfl ?_) | (refine And.intro ?_ ?_) | (intro qq hq1 hq2 hq3; have hq4 := hq2 (by omega) (by omega); subst hq4) | (intro hh) | omega | exact trivial)
            all_goals first | exact ih _ _ (by omega) (by omega) (by omega) (by omega) hq | (exfalso; simp_all; done)
          · rw [if_pos ⟨hc, hp⟩] at hq
            rw [hc] at e21
            repeat' (first | (intro hh; exfalso; omega) | (refine And.intro (by first | assumption | omega) ?_) | (refine And.intro rfl ?_) | (refine And.intro ?_ ?_) | (intro qq hq1 hq2 hq3; have hq4 := hq2 (by omega) (by omega); subst hq4) | (intro hh) | omega | exact trivial)
            all_goals first | exact ih _ _ (by omega) (by omega) (by omega) (by omega) hq | (exfalso; simp_all; done)
        · rw [if_neg (fun z => hp z.2)] at hq
          repeat' (first | (intro hh; exfalso; omega) | (refine And.intro (by first | assumption | omega) ?_) | (refine And.intro rfl ?_) | (refine And.intro ?_ ?_) | (intro qq hq1 hq2 hq3; have hq4 := hq2 (by omega) (by omega); subst hq4) | (intro hh) | omega | exact trivial)
          all_goals exact ih _ _ (by omega) (by omega) (by omega) (by omega) hq
    have one : ∀ (n k : Nat), (k : Int) + n = M 7 1 → cut 27 [(0, .inr (.inr 0)), (1, .inl x), (2, .inl y), (3, .inl (k : Int))] [] (ff_fil M f k) := by
      intro n
      induction n with
      | zero =>
        intro k hk
        have hkn : k = (M 7 1).toNat := by omega
        have e7 := ff_fil_7 M f k
        refine hkut [(27, [0, 1, 2, 3]), (64, [0, 3, 4])] 60 27 _ _ _ ?_
        have h2 := two (P - 1).toNat 1 0 (by omega) (by omega) (by omega) (by omega) hsp
        rw [← hkn] at h2
        generalize ff_fil M f k = N at e7 h2 ⊢
        repeat' (first | (intro hh; exfalso; omega) | (refine And.intro (by first | assumption | omega) ?_) | (refine And.intro rfl ?_) | (refine And.intro ?_ ?_) | (intro qq hq1 hq2 hq3; have hq4 := hq2 (by omega) (by omega); subst hq4) | (intro hh) | omega | exact trivial)
        all_goals exact h2
      | succ n ih =>
        intro k hk
        have ih := ih (k + 1) (by omega)
        have e7 := ff_fil_7 M f k
        have eX := ff_fil_X M f k
        have hI2 : ff_Inv (ff_X (ff_fil M f k)) := by rw [eX]; exact hI
        rw [← ff_fil_s, hfv k, ← eX] at ih
        generalize ff_fil M f k = N at e7 eX hI2 ih ⊢
        refine hkut [(27, [0, 1, 2, 3]), (64, [0, 3, 4])] 60 27 _ _ _ ?_
        repeat' (first | (intro hh; exfalso; omega) | (refine And.intro (by first | assumption | omega) ?_) | (refine And.intro rfl ?_) | (refine And.intro ?_ ?_) | (intro qq hq1 hq2 hq3; have hq4 := hq2 (by omega) (by omega); subst hq4) | (intro hh) | omega | exact trivial)
        all_goals exact ih
    have h0 := one (M 7 1).toNat 0 (by omega)
    have e : ff_fil M f 0 = M := by
      funext i j
      simp [ff_fil]
    rw [e] at h0
    refine hkut [(27, [0, 1, 2, 3]), (64, [0, 3, 4])] 60 0 _ _ _ ?_
    repeat' (first | (intro hh; exfalso; omega) | (refine And.intro (by first | assumption | omega) ?_) | (refine And.intro rfl ?_) | (refine And.intro ?_ ?_) | (intro qq hq1 hq2 hq3; have hq4 := hq2 (by omega) (by omega); subst hq4) | (intro hh) | omega | exact trivial)
    all_goals exact h0
  · rw [if_neg h1] at hsp
    have hsp := hsp M rfl
    refine ⟨Nat.le_of_ble_eq_true rfl, fun cut hcut hkut => hcut [] 60 0 _ _ _ ?_⟩
    repeat' (first | (intro hh; exfalso; omega) | (refine And.intro (by first | assumption | omega) ?_) | (refine And.intro rfl ?_) | (refine And.intro ?_ ?_) | (intro qq hq1 hq2 hq3; have hq4 := hq2 (by omega) (by omega); subst hq4) | (intro hh) | omega | exact trivial)
    all_goals exact hsp
theorem so_X5_master : ez_Sound LX yX5_master cX5_master 5 (some .int) 4 sp_X5_master := ez_sound (E := e_X5_master) (prog := p_X5_master) LX_ok (by decide +kernel) rfl (fun _ h => h) fo_X5 co_X5_ok (List.forall_mem_cons.mpr ⟨k_X5_83 (by decide), List.forall_mem_cons.mpr ⟨k_X5_205 (by decide), List.forall_mem_cons.mpr ⟨k_X5_61 (by decide), List.forall_mem_cons.mpr ⟨k_X5_172 (by decide), List.forall_mem_cons.mpr ⟨k_X5_208 (by decide), fun _ h => absurd h List.not_mem_nil⟩⟩⟩⟩⟩) dp_X5_master b_X5_master
