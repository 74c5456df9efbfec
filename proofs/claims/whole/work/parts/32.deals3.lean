/-! ===== the saints ===== -/
def ff_slr (p : Int → Bool) : Nat → Int → List Int
  | 0, _ => []
  | n + 1, c => if p c = true then c :: ff_slr p n (c + 1) else ff_slr p n (c + 1)
def ff_T (S : ff_S) : List Int := ff_slr (ff_kn (S 5) 5) (S 1 4).toNat 0
def ff_ns (S : ff_S) : Nat := (ff_T S).length
def ff_who (S : ff_S) (k : Nat) : Int := (ff_T S).getD k 0
def ff_sd (S : ff_S) (e : Int) : Int := S 5 (11 * ff_who S e.toNat + 5).toNat
/-- whose dates explain a church -/
def ff_mask (S : ff_S) (c : Int) : Int := ff_bits (fun e => ff_by S c (ff_sd S e)) (ff_ns S) 0 0
def ff_L (S : ff_S) (m e : Nat) : Bool := (ff_mask S (ff_who S m)).toNat.testBit e
def ff_wy2 (S : ff_S) (h : Nat) : Int := ff_W (ff_L S) (ff_ns S) (ff_ns S) (2 ^ ff_ns S - 1) h
def op_deals (S : ff_S) (k : Int) : Int := if 0 ≤ k ∧ k ≤ 10 then ff_wy2 S k.toNat else -2
theorem ff_slr_len (p : Int → Bool) : ∀ (n : Nat) (c : Int), (ff_slr p n c).length ≤ n
  | 0, _ => Nat.le_refl _
  | n + 1, c => by
    have := ff_slr_len p n (c + 1)
    simp only [ff_slr]
    split
    · simp only [List.length_cons]; omega
    · omega
theorem ff_slr_in (p : Int → Bool) : ∀ (n : Nat) (c x : Int), x ∈ ff_slr p n c → c ≤ x ∧ x < c + n ∧ p x = true
  | 0, c, x, h => by cases h
  | n + 1, c, x, h => by
    simp only [ff_slr] at h
    split at h
    · rename_i hp
      rcases List.mem_cons.mp h with rfl | h
      · exact ⟨by omega, by omega, hp⟩
      · have := ff_slr_in p n (c + 1) x h
        exact ⟨by omega, by omega, this.2.2⟩
    · have := ff_slr_in p n (c + 1) x h
      exact ⟨by omega, by omega, this.2.2⟩
theorem ff_ns_r {S : ff_S} (h : 0 ≤ S 1 4 ∧ S 1 4 ≤ 10) : ff_ns S ≤ 10 := by
  have := ff_slr_len (ff_kn (S 5) 5) (S 1 4).toNat 0
  unfold ff_ns ff_T
  omega
theorem ff_who_r {S : ff_S} {k : Nat} (hk : k < ff_ns S) (h : 0 ≤ S 1 4) : 0 ≤ ff_who S k ∧ ff_who S k < S 1 4 ∧ ¬ S 5 (11 * ff_who S k + 5).toNat = -9 := by
  unfold ff_ns at hk
  have hm : ff_who S k ∈ ff_T S := by
    unfold ff_who
    rw [List.getD_eq_getElem?_getD, List.getElem?_eq_getElem hk]
    exact List.getElem_mem hk
  obtain ⟨a, b, c⟩ := ff_slr_in _ _ _ _ hm
  exact ⟨a, by omega, of_decide_eq_true c⟩
theorem ff_sd_r {S : ff_S} (hI : ff_Inv S) {e : Nat} (he : e < ff_ns S) : 0 ≤ ff_sd S (e : Int) ∧ ff_sd S (e : Int) ≤ 363 := by
  have hn := hI.2.1.2.2.2
  have hw := ff_who_r he hn.1
  have hc := hI.2.2.2.2.1 (ff_who S e) hw.1 hw.2.1
  unfold ff_ch at hc
  unfold ff_sd
  rw [Int.toNat_natCast]
  omega
/-- the mask of a church, church by church -/
def ff_ste (kn ex : Int → Bool) : Nat → Int → Int → Int → Int
  | 0, _, _, a => a
  | n + 1, o, k, a => if kn o = true then ff_ste kn ex n (o + 1) (k + 1) (if ex o = true then ez_or a (ez_shl 1 k) else a) else ff_ste kn ex n (o + 1) k a
theorem ff_ste_bits (kn ex q : Int → Bool) : ∀ (n : Nat) (o k a : Int), 0 ≤ k → (∀ i : Nat, i < (ff_slr kn n o).length → q (k + i) = ex ((ff_slr kn n o).getD i 0)) → ff_ste kn ex n o k a = ff_bits q (ff_slr kn n o).length k a
  | 0, o, k, a, _, _ => rfl
  | n + 1, o, k, a, hk, h => by
    simp only [ff_ste, ff_slr] at h ⊢
    split
    · rename_i hp
      simp only [hp, if_true, List.length_cons] at h
      simp only [List.length_cons, ff_bits]
      have h0 := h 0 (by omega)
      rw [show k + ((0 : Nat) : Int) = k by omega] at h0
      rw [h0]
      refine ff_ste_bits kn ex q n (o + 1) (k + 1) _ (by omega) (fun i hi => ?_)
      have := h (i + 1) (by omega)
      rw [show k + ((i + 1 : Nat) : Int) = k + 1 + (i : Int) by omega] at this
      exact this
    · rename_i hp
      simp only [hp, if_false, Bool.false_eq_true] at h
      exact ff_ste_bits kn ex q n (o + 1) k a hk h
def ff_bd (S : ff_S) (c o : Int) : Bool := ff_by S c (S 5 (11 * o + 5).toNat)
theorem ff_mask_ste (S : ff_S) (c : Int) : ff_ste (ff_kn (S 5) 5) (ff_bd S c) (S 1 4).toNat 0 0 0 = ff_mask S c := by
  have h := ff_ste_bits (ff_kn (S 5) 5) (ff_bd S c) (fun e => ff_by S c (ff_sd S e)) (S 1 4).toNat 0 0 0 (by omega) (fun i hi => ?_)
  · exact h
  · simp only [Int.zero_add]
    unfold ff_sd
    rw [Int.toNat_natCast]
    rfl
theorem ff_mask_r (S : ff_S) (c : Int) (h : 0 ≤ S 1 4 ∧ S 1 4 ≤ 10) : 0 ≤ ff_mask S c ∧ ff_mask S c ≤ 1023 := by
  have hn := ff_ns_r h
  have hb : 0 ≤ ff_mask S c ∧ ff_mask S c < 2 ^ (ff_ns S + 0) := ff_bits_r (fun e => ff_by S c (ff_sd S e)) (ff_ns S) 0 0 (by omega) (by omega) (by decide)
  have h2 : (2 : Int) ^ (ff_ns S + 0) ≤ 2 ^ 10 := by
    have := Nat.pow_le_pow_right (n := 2) (by decide) (show ff_ns S + 0 ≤ 10 by omega)
    exact_mod_cast this
  have h3 : (2 : Int) ^ 10 = 1024 := by decide
  omega
theorem ff_W_congr {L L' : Nat → Nat → Bool} {n : Nat} : ∀ (m s h : Nat), (∀ k e, k < m → e < n → L k e = L' k e) → ff_W L n m s h = ff_W L' n m s h
  | 0, s, h, _ => rfl
  | m + 1, s, h, hL => by
    rw [ff_W_s, ff_W_s]
    have hsm : ∀ (f g : Nat → Int) (k : Nat), (∀ e, e < k → f e = g e) → ff_sm f k = ff_sm g k := by
      intro f g k
      induction k with
      | zero => intro _; rfl
      | succ k ih =>
        intro hfg
        simp only [ff_sm]
        rw [ih (fun e he => hfg e (by omega)), hfg k (by omega)]
    refine hsm _ _ n (fun e he => ?_)
    unfold ff_Wt
    rw [hL m e (by omega) he]
    have ih : ∀ h, ff_W L n m (s - 2 ^ e) h = ff_W L' n m (s - 2 ^ e) h := fun h => ff_W_congr m (s - 2 ^ e) h (fun k e hk he => hL k e (by omega) he)
    split
    · split
      · cases h with
        | zero => rfl
        | succ h => exact ih h
      · exact ih h
    · rfl
/-- all ways, and those with own or more hits -/
def ff_dsA (w : Nat → Int) : Nat → Int → Int
  | 0, _ => 0
  | n + 1, k => w k.toNat + ff_dsA w n (k + 1)
def ff_dsM (w : Nat → Int) (own : Int) : Nat → Int → Int
  | 0, _ => 0
  | n + 1, k => (if own ≤ k then w k.toNat else 0) + ff_dsM w own n (k + 1)
def op_dealt (S : ff_S) (up : Int) : Int := ff_lt (ff_dsM (ff_wy2 S) (ff_own S) 11 0) (ff_dsA (ff_wy2 S) 11 0) up
theorem ff_full (n : Nat) : 2 ^ n - 1 < 2 ^ n := by
  have : 0 < 2 ^ n := Nat.pow_pos (by decide)
  omega
theorem ff_wy2_r {S : ff_S} (h : 0 ≤ S 1 4 ∧ S 1 4 ≤ 10) (k : Nat) : 0 ≤ ff_wy2 S k ∧ ff_wy2 S k ≤ 3628800 := by
  have hn := ff_ns_r h
  have hw := ff_W_r (ff_L S) hn (ff_ns S) (2 ^ ff_ns S - 1) k (ff_full _) (ff_pc_full hn)
  have hf := ff_fa_r (ff_ns S) hn
  unfold ff_wy2
  omega
theorem ff_dsA_r {w : Nat → Int} (hw : ∀ k, 0 ≤ w k ∧ w k ≤ 3628800) : ∀ (n : Nat) (k : Int), 0 ≤ ff_dsA w n k ∧ ff_dsA w n k ≤ 3628800 * n
  | 0, k => by simp [ff_dsA]
  | n + 1, k => by
    have ih := ff_dsA_r hw n (k + 1)
    have := hw k.toNat
    simp only [ff_dsA]
    omega
theorem ff_dsM_r {w : Nat → Int} (hw : ∀ k, 0 ≤ w k ∧ w k ≤ 3628800) (own : Int) : ∀ (n : Nat) (k : Int), 0 ≤ ff_dsM w own n k ∧ ff_dsM w own n k ≤ 3628800 * n
  | 0, k => by simp [ff_dsM]
  | n + 1, k => by
    have ih := ff_dsM_r hw own n (k + 1)
    have := hw k.toNat
    simp only [ff_dsM]
    split <;> omega
theorem ff_dsA_ge {w : Nat → Int} (hw : ∀ k, 0 ≤ w k ∧ w k ≤ 3628800) (j : Nat) : ∀ (n : Nat) (k : Int), 0 ≤ k → k ≤ j → (j : Int) < k + n → w j ≤ ff_dsA w n k
  | 0, k, _, _, _ => by omega
  | n + 1, k, h0, h1, h2 => by
    have hr := ff_dsA_r hw n (k + 1)
    have hk := hw k.toNat
    simp only [ff_dsA]
    by_cases hj : k = j
    · have : k.toNat = j := by omega
      rw [this]
      omega
    · have := ff_dsA_ge hw j n (k + 1) (by omega) (by omega) (by omega)
      omega
theorem ff_all_pos {S : ff_S} (h : 0 ≤ S 1 4 ∧ S 1 4 ≤ 10) : 1 ≤ ff_dsA (ff_wy2 S) 11 0 := by
  have hn := ff_ns_r h
  obtain ⟨j, hj, hw⟩ := ff_W_ex (ff_L S) hn (ff_ns S) (2 ^ ff_ns S - 1) (ff_full _) (ff_pc_full hn)
  have := ff_dsA_ge (ff_wy2_r h) j 11 0 (by omega) (by omega) (by omega)
  have hw2 : 1 ≤ ff_wy2 S j := hw
  omega
theorem k_X5_263 {d : Nat} (h : 4 < d) : ez_CallOK LX RX5 d (263, 5+1, 2, sp_X5_dateExplains) := ez_callV (y := yX5_dateExplains) (bytes := cX5_dateExplains) so_X5_dateExplains h (by decide) q_521 q_72 ⟨by decide +kernel, by decide +kernel, by decide +kernel⟩ (Or.inl q_518) q_520 q_29 (T := TX5) (N := 10) rfl
def sp_X5_saintsThatExplain : ez_Sp := fun as M Q => match as with | [.inr (.inr q), .inl c] => q = 0 ∧ (0 ≤ c ∧ c < M 7 1) ∧ ff_Inv (ff_X M) ∧ Q (some (.inl (ff_mask (ff_X M) c))) M | _ => False
def e_X5_saintsThatExplain : ez_E := (fl_X5, co_X5, [(211, 1+1, 2, sp_X1_knows), (139, 1+1, 2, sp_X1_get), (263, 5+1, 2, sp_X5_dateExplains)], 0, 5)
set_option maxHeartbeats 4000000 in
set_option maxRecDepth 100000 in
theorem b_X5_saintsThatExplain : ez_Body LX e_X5_saintsThatExplain p_X5_saintsThatExplain sp_X5_saintsThatExplain := by
  intro as M Q has hM hsp
  unfold sp_X5_saintsThatExplain at hsp
  split at hsp
  rotate_left
  · exact hsp.elim
  rename_i q c
  have g_c : -2147483648 ≤ c ∧ c ≤ 2147483647 := ez_hd (ez_tl (has))
  obtain ⟨rfl, hv, hI, hsp⟩ := hsp
  have hn := ff_n_X hI
  rw [← ff_mask_ste] at hsp
  refine ⟨Nat.le_of_ble_eq_true rfl, fun cut hcut hkut => ?_⟩
  have loop : ∀ (n : Nat) (o k a : Int), o + n = M 7 1 → 0 ≤ o → 0 ≤ k → k ≤ o → Q (some (.inl (ff_ste (ff_kn (M 8) 5) (ff_bd (ff_X M) c) n o k a))) M → cut 7 [(0, .inr (.inr 0)), (1, .inl c), (2, .inl a), (3, .inl k), (4, .inl o)] [] M := by
    intro n
    induction n with
    | zero =>
      intro o k a ho h0 hk0 hk1 hq
      refine hkut [(7, [0, 1, 2, 3, 4])] 60 7 _ _ _ ?_
      repeat' (first | (intro hh; exfalso; omega) | (refine And.intro (by first | assumption | omega) ?_) | (refine And.intro rfl ?_) | (refine And.intro ?_ ?_) | (intro qq hq1 hq2 hq3; have hq4 := hq2 (by omega) (by omega); subst hq4) | (intro hh) | omega | exact trivial)
      all_goals exact hq
    | succ n ih =>
      intro o k a ho h0 hk0 hk1 hq
      have hc := ff_ch_X hI (c := o) (by omega) (by omega)
      unfold ff_ch at hc
      simp only [ff_ste] at hq
      refine hkut [(7, [0, 1, 2, 3, 4])] 60 7 _ _ _ ?_
      by_cases hs : M 8 (11 * o + 5).toNat = -9
      · rw [if_neg (by unfold ff_kn; simp [hs])] at hq
        repeat' (first | (intro hh; exfalso; omega) | (refine And.intro (by first | assumption | omega) ?_) | (refine And.intro rfl ?_) | (refine And.intro ?_ ?_) | (intro qq hq1 hq2 hq3; have hq4 := hq2 (by omega) (by omega); subst hq4) | (intro hh) | omega | exact trivial)
        all_goals exact ih _ _ _ (by omega) (by omega) (by omega) (by omega) hq
      · rw [if_pos (by unfold ff_kn; simp [hs])] at hq
        cases hb : ff_bd (ff_X M) c o
        · have hb2 : ff_by (ff_X M) c (M 8 (11 * o + 5).toNat) = false := hb
          rw [hb, if_neg (by decide)] at hq
          repeat' (first | (intro hh; exfalso; omega) | (refine And.intro (by first | assumption | omega) ?_) | (refine And.intro rfl ?_) | (refine And.intro ?_ ?_) | (intro qq hq1 hq2 hq3; have hq4 := hq2 (by omega) (by omega); subst hq4) | (intro hh) | omega | exact trivial)
          all_goals first | exact ih _ _ _ (by omega) (by omega) (by omega) (by omega) hq | (rename_i hz; rw [hb2] at hz; cases hz; done)
        · have hb2 : ff_by (ff_X M) c (M 8 (11 * o + 5).toNat) = true := hb
          rw [hb, if_pos rfl] at hq
          repeat' (first | (intro hh; exfalso; omega) | (refine And.intro (by first | assumption | omega) ?_) | (refine And.intro rfl ?_) | (refine And.intro ?_ ?_) | (intro qq hq1 hq2 hq3; have hq4 := hq2 (by omega) (by omega); subst hq4) | (intro hh) | omega | exact trivial)
          all_goals first | exact ih _ _ _ (by omega) (by omega) (by omega) (by omega) hq | (rename_i hz; rw [hb2] at hz; cases hz; done)
  refine hkut [(7, [0, 1, 2, 3, 4])] 60 0 _ _ _ ?_
  exact loop (M 7 1).toNat 0 0 0 (by omega) (by omega) (by omega) (by omega) hsp
theorem so_X5_saintsThatExplain : ez_Sound LX yX5_saintsThatExplain cX5_saintsThatExplain 5 (some .int) 5 sp_X5_saintsThatExplain := ez_sound (E := e_X5_saintsThatExplain) (prog := p_X5_saintsThatExplain) LX_ok (by decide +kernel) rfl (fun _ h => h) fo_X5 co_X5_ok (List.forall_mem_cons.mpr ⟨k_X5_211 (by decide), List.forall_mem_cons.mpr ⟨k_X5_139 (by decide), List.forall_mem_cons.mpr ⟨k_X5_263 (by decide), fun _ h => absurd h List.not_mem_nil⟩⟩⟩) dp_X5_saintsThatExplain b_X5_saintsThatExplain
theorem ff_X_adds (M : ez_M) (k : Nat) (a b : Int) : ff_X (ez_up (ez_up M 14 k a) 13 2 b) = ff_X M := by
  rw [ff_X_scr _ 13 2 b (by omega), ff_X_scr _ 14 k a (by omega)]
theorem ff_X_tb (M : ez_M) (P : Nat) (g : Nat → Nat → Int) : ff_X (ff_tb M P g) = ff_X M := by
  funext r j
  rcases r with _ | _ | _ | _ | _ | _ | _ | _ | _ | _ | r <;> rfl
theorem k_X5_251 {d : Nat} (h : 0 < d) : ez_CallOK LX RX5 d (251, 3+1, 0, sp_X3_clearSaints) := ez_callV (y := yX3_clearSaints) (bytes := cX3_clearSaints) so_X3_clearSaints h (by decide) q_509 q_76 ⟨by decide +kernel, by decide +kernel, by decide +kernel⟩ (Or.inr ⟨"EastNearly", q_506⟩) q_508 q_26 (T := TX3) (N := 3) rfl
theorem k_X5_254 {d : Nat} (h : 5 < d) : ez_CallOK LX RX5 d (254, 5+1, 1, sp_X5_saintsThatExplain) := ez_callV (y := yX5_saintsThatExplain) (bytes := cX5_saintsThatExplain) so_X5_saintsThatExplain h (by decide) q_517 q_72 ⟨by decide +kernel, by decide +kernel, by decide +kernel⟩ (Or.inl q_514) q_516 q_28 (T := TX5) (N := 10) rfl
theorem k_X5_257 {d : Nat} (h : 1 < d) : ez_CallOK LX RX5 d (257, 3+1, 1, sp_X3_addSaint) := ez_callV (y := yX3_addSaint) (bytes := cX3_addSaint) so_X3_addSaint h (by decide) q_529 q_76 ⟨by decide +kernel, by decide +kernel, by decide +kernel⟩ (Or.inr ⟨"EastNearly", q_526⟩) q_528 q_31 (T := TX3) (N := 3) rfl
theorem k_X5_260 {d : Nat} (h : 2 < d) : ez_CallOK LX RX5 d (260, 3+1, 0, sp_X3_countWays) := ez_callV (y := yX3_countWays) (bytes := cX3_countWays) so_X3_countWays h (by decide) q_534 q_76 ⟨by decide +kernel, by decide +kernel, by decide +kernel⟩ (Or.inr ⟨"EastNearly", q_531⟩) q_533 q_32 (T := TX3) (N := 3) rfl
def sp_X5_dealSaints : ez_Sp := fun as M Q => match as with | [.inr (.inr q)] => q = 0 ∧ ff_Inv (ff_X M) ∧ (∀ N : ez_M, ff_X N = ff_X M → N 13 2 = (ff_ns (ff_X M) : Int) → (∀ h : Nat, h ≤ 10 → N 15 ((2 ^ ff_ns (ff_X M) - 1) * 11 + h) = ff_wy2 (ff_X M) h) → Q none N) | _ => False
def e_X5_dealSaints : ez_E := (fl_X5, co_X5, [(251, 3+1, 0, sp_X3_clearSaints), (211, 1+1, 2, sp_X1_knows), (254, 5+1, 1, sp_X5_saintsThatExplain), (257, 3+1, 1, sp_X3_addSaint), (260, 3+1, 0, sp_X3_countWays)], 3, 2)
set_option maxHeartbeats 4000000 in
set_option maxRecDepth 100000 in
theorem b_X5_dealSaints : ez_Body LX e_X5_dealSaints p_X5_dealSaints sp_X5_dealSaints := by
  intro as M Q has hM hsp
  unfold sp_X5_dealSaints at hsp
  split at hsp
  rotate_left
  · exact hsp.elim
  rename_i q
  obtain ⟨rfl, hI, hsp⟩ := hsp
  have hn := ff_n_X hI
  generalize hS : ff_X M = S at hI hsp
  have hn4 : 0 ≤ S 1 4 ∧ S 1 4 ≤ 10 := by rw [← hS]; exact hn
  have hns := ff_ns_r hn4
  refine ⟨Nat.le_of_ble_eq_true rfl, fun cut hcut hkut => ?_⟩
  have loop : ∀ (n : Nat) (c : Int) (N : ez_M) (p : Nat), c + n = S 1 4 → 0 ≤ c → ff_X N = S → N 13 2 = (p : Int) → (p : Int) ≤ c → p + (ff_slr (ff_kn (S 5) 5) n c).length = ff_ns S → (∀ j, j < p → N 14 j = ff_mask S (ff_who S j)) → (ff_T S).drop p = ff_slr (ff_kn (S 5) 5) n c → cut 9 [(0, .inr (.inr 0)), (1, .inl c)] [] N := by
    intro n
    induction n with
    | zero =>
      intro c N p hc h0 hX hp hpc hl hE hd
      simp only [ff_slr, List.length_nil, Nat.add_zero] at hl
      subst hl
      have hn7 : N 7 1 = c + ((0 : Nat) : Int) := by
        have : N 7 1 = ff_X N 1 4 := rfl
        rw [this, hX]
        exact hc.symm
      have hEr : ∀ j : Nat, (j : Int) < N 13 2 → 0 ≤ N 14 j ∧ N 14 j ≤ 1023 := by
        intro j hj
        rw [hp] at hj
        rw [hE j (by omega)]
        exact ff_mask_r S _ hn4
      have key := hsp (ff_tb N (2 ^ (N 13 2).toNat) (ff_g (fun m e => (N 14 m).toNat.testBit e) (N 13 2).toNat (2 ^ (N 13 2).toNat) 0)) (by rw [ff_X_tb]; exact hX) hp (by
        intro h hh
        rw [hp, Int.toNat_natCast, ff_tb_at (ff_full _) (by omega)]
        unfold ff_g
        rw [if_pos (ff_full _), ff_pc_full hns]
        unfold ff_wy2
        refine ff_W_congr _ _ _ (fun k e hk he => ?_)
        unfold ff_L
        rw [hE k hk])
      refine hkut [(9, [0, 1])] 60 9 _ _ _ ?_
      repeat' (first | (intro hh; exfalso; omega) | (refine And.intro (by first | assumption | omega) ?_) | (refine And.intro rfl ?_) | (refine And.intro ?_ ?_) | (intro qq hq1 hq2 hq3; have hq4 := hq2 (by omega) (by omega); subst hq4) | (intro hh) | omega | exact trivial)
      all_goals exact key
    | succ n ih =>
      intro c N p hc h0 hX hp hpc hl hE hd
      have hn7 : N 7 1 = c + ((n + 1 : Nat) : Int) := by
        have : N 7 1 = ff_X N 1 4 := rfl
        rw [this, hX]
        exact hc.symm
      have hIN : ff_Inv (ff_X N) := by rw [hX]; exact hI
      have h8 : N 8 = S 5 := by rw [← hX]; rfl
      simp only [ff_slr] at hl hd
      refine hkut [(9, [0, 1])] 60 9 _ _ _ ?_
      by_cases hs : N 8 (11 * c + 5).toNat = -9
      · have hk : ¬ ff_kn (S 5) 5 c = true := by
          unfold ff_kn
          rw [← h8]
          simp [hs]
        rw [if_neg hk] at hl hd
        repeat' (first | (intro hh; exfalso; omega) | (refine And.intro (by first | assumption | omega) ?_) | (refine And.intro rfl ?_) | (refine And.intro ?_ ?_) | (intro qq hq1 hq2 hq3; have hq4 := hq2 (by omega) (by omega); subst hq4) | (intro hh) | omega | exact trivial)
        all_goals exact ih (c + 1) N p (by omega) (by omega) hX hp (by omega) hl hE hd
      · have hk : ff_kn (S 5) 5 c = true := by
          unfold ff_kn
          rw [← h8]
          simp [hs]
        rw [if_pos hk] at hl hd
        simp only [List.length_cons] at hl
        have hwho : ff_who S p = c := by
          have h1 : ((ff_T S).drop p)[0]? = some c := by rw [hd]; rfl
          rw [List.getElem?_drop, Nat.add_zero] at h1
          unfold ff_who
          rw [List.getD_eq_getElem?_getD, h1]
          rfl
        have hd2 : (ff_T S).drop (p + 1) = ff_slr (ff_kn (S 5) 5) n (c + 1) := by
          rw [← List.tail_drop, hd]
          rfl
        have hm := ff_mask_r S c hn4
        have key := ih (c + 1) (ez_up (ez_up N 14 (N 13 2).toNat (ff_mask (ff_X N) c)) 13 2 (N 13 2 + 1)) (p + 1) (by omega) (by omega) (by rw [ff_X_adds]; exact hX) (by rw [hp]; simp [ez_up]) (by omega) (by omega) (by
          intro j hj
          rw [hX, hp, Int.toNat_natCast]
          by_cases hjp : j = p
          · subst hjp
            rw [hwho]
            simp [ez_up]
          · have := hE j (by omega)
            simp [ez_up, hjp, this]) hd2
        repeat' (first | (intro hh; exfalso; omega) | (refine And.intro (by first | assumption | omega) ?_) | (refine And.intro rfl ?_) | (refine And.intro ?_ ?_) | (intro qq hq1 hq2 hq3; have hq4 := hq2 (by omega) (by omega); subst hq4) | (intro hh) | omega | exact trivial)
        all_goals exact key
  have hc0 : ff_X (ez_up M 13 2 0) = S := by rw [ff_X_scr _ 13 2 0 (by omega)]; exact hS
  refine hkut [(9, [0, 1])] 60 0 _ _ _ ?_
  repeat' (first | (intro hh; exfalso; omega) | (refine And.intro (by first | assumption | omega) ?_) | (refine And.intro rfl ?_) | (refine And.intro ?_ ?_) | (intro qq hq1 hq2 hq3; have hq4 := hq2 (by omega) (by omega); subst hq4) | (intro hh) | omega | exact trivial)
  all_goals exact loop (S 1 4).toNat 0 _ 0 (by omega) (by omega) hc0 (by simp [ez_up]) (by omega) (by rw [Nat.zero_add]; rfl) (fun j hj => absurd hj (by omega)) rfl
theorem so_X5_dealSaints : ez_Sound LX yX5_dealSaints cX5_dealSaints 2 none 6 sp_X5_dealSaints := ez_sound (E := e_X5_dealSaints) (prog := p_X5_dealSaints) LX_ok (by decide +kernel) rfl (fun _ h => h) fo_X5 co_X5_ok (List.forall_mem_cons.mpr ⟨k_X5_251 (by decide), List.forall_mem_cons.mpr ⟨k_X5_211 (by decide), List.forall_mem_cons.mpr ⟨k_X5_254 (by decide), List.forall_mem_cons.mpr ⟨k_X5_257 (by decide), List.forall_mem_cons.mpr ⟨k_X5_260 (by decide), fun _ h => absurd h List.not_mem_nil⟩⟩⟩⟩⟩) dp_X5_dealSaints b_X5_dealSaints
theorem k_X5_189 {d : Nat} (h : 6 < d) : ez_CallOK LX RX5 d (189, 5+1, 0, sp_X5_dealSaints) := ez_callV (y := yX5_dealSaints) (bytes := cX5_dealSaints) so_X5_dealSaints h (by decide) q_505 q_72 ⟨by decide +kernel, by decide +kernel, by decide +kernel⟩ (Or.inl q_502) q_504 q_25 (T := TX5) (N := 10) rfl
theorem k_X5_192 {d : Nat} (h : 1 < d) : ez_CallOK LX RX5 d (192, 3+1, 1, sp_X3_waysWith) := ez_callV (y := yX3_waysWith) (bytes := cX3_waysWith) so_X3_waysWith h (by decide) q_544 q_76 ⟨by decide +kernel, by decide +kernel, by decide +kernel⟩ (Or.inr ⟨"EastNearly", q_541⟩) q_543 q_34 (T := TX3) (N := 3) rfl
def sp_X5_deals : ez_Sp := fun as M Q => match as with | [.inr (.inr q), .inl k] => q = 0 ∧ ff_Inv (ff_X M) ∧ (∀ M' : ez_M, ff_X M' = ff_X M → Q (some (.inr (.inl (op_deals (ff_X M) k)))) M') | _ => False
def e_X5_deals : ez_E := (fl_X5, co_X5, [(83, 0, 3, sp_X5_within), (189, 5+1, 0, sp_X5_dealSaints), (192, 3+1, 1, sp_X3_waysWith)], 2, 2)
set_option maxHeartbeats 4000000 in
set_option maxRecDepth 100000 in
theorem b_X5_deals : ez_Body LX e_X5_deals p_X5_deals sp_X5_deals := by
  intro as M Q has hM hsp
  unfold sp_X5_deals at hsp
  split at hsp
  rotate_left
  · exact hsp.elim
  rename_i q k
  have g_k : -2147483648 ≤ k ∧ k ≤ 2147483647 := ez_hd (ez_tl (has))
  obtain ⟨rfl, hI, hsp⟩ := hsp
  have hn := ff_n_X hI
  unfold op_deals at hsp
  have hn4 : 0 ≤ ff_X M 1 4 ∧ ff_X M 1 4 ≤ 10 := hn
  have hns := ff_ns_r hn4
  refine ⟨Nat.le_of_ble_eq_true rfl, fun cut hcut hkut => hcut [] 60 0 _ _ _ ?_⟩
  by_cases h1 : 0 ≤ k ∧ k ≤ 10
  · rw [if_pos h1] at hsp
    refine And.intro ?_ ?_
    · intro _
      refine And.intro ?_ ?_
      rotate_left
      · intro h
        exact absurd h (by decide)
      · intro _
        refine And.intro rfl (And.intro hI ?_)
        intro N hX h13 hw
        have hw2 := hw k.toNat (by omega)
        have hp : 0 ≤ N 13 2 ∧ N 13 2 ≤ 10 := by omega
        have hnt : (N 13 2).toNat = ff_ns (ff_X M) := by omega
        rw [← hnt] at hw2
        have hsp := hsp N hX
        rw [← hw2] at hsp
        repeat' (first | (intro hh; exfalso; omega) | (refine And.intro (by first | assumption | omega) ?_) | (refine And.intro rfl ?_) | (refine And.intro ?_ ?_) | (intro qq hq1 hq2 hq3; have hq4 := hq2 (by omega) (by omega); subst hq4) | (intro hh) | omega | exact trivial)
        all_goals exact hsp
    · intro h
      exact absurd h1 h
  · rw [if_neg h1] at hsp
    have hsp := hsp M rfl
    repeat' (first | (intro hh; exfalso; omega) | (refine And.intro (by first | assumption | omega) ?_) | (refine And.intro rfl ?_) | (refine And.intro ?_ ?_) | (intro qq hq1 hq2 hq3; have hq4 := hq2 (by omega) (by omega); subst hq4) | (intro hh) | omega | exact trivial)
    all_goals exact hsp
theorem so_X5_deals : ez_Sound LX yX5_deals cX5_deals 2 (some .long) 7 sp_X5_deals := ez_sound (E := e_X5_deals) (prog := p_X5_deals) LX_ok (by decide +kernel) rfl (fun _ h => h) fo_X5 co_X5_ok (List.forall_mem_cons.mpr ⟨k_X5_83 (by decide), List.forall_mem_cons.mpr ⟨k_X5_189 (by decide), List.forall_mem_cons.mpr ⟨k_X5_192 (by decide), fun _ h => absurd h List.not_mem_nil⟩⟩⟩) dp_X5_deals b_X5_deals
def sp_X5_dealt : ez_Sp := fun as M Q => match as with | [.inr (.inr q), .inl up] => q = 0 ∧ ff_Inv (ff_X M) ∧ (up = 0 ∨ up = 1) ∧ (∀ M' : ez_M, ff_X M' = ff_X M → Q (some (.inr (.inl (op_dealt (ff_X M) up)))) M') | _ => False
def e_X5_dealt : ez_E := (fl_X5, co_X5, [(189, 5+1, 0, sp_X5_dealSaints), (184, 5+1, 0, sp_X5_ownHits), (192, 3+1, 1, sp_X3_waysWith), (159, 0, 3, sp_X5_inLeastTerms)], 2, 9)
set_option maxHeartbeats 4000000 in
set_option maxRecDepth 100000 in
theorem b_X5_dealt : ez_Body LX e_X5_dealt p_X5_dealt sp_X5_dealt := by
  intro as M Q has hM hsp
  unfold sp_X5_dealt at hsp
  split at hsp
  rotate_left
  · exact hsp.elim
  rename_i q up
  have g_up : -2147483648 ≤ up ∧ up ≤ 2147483647 := ez_hd (ez_tl (has))
  obtain ⟨rfl, hI, hup, hsp⟩ := hsp
  have hn := ff_n_X hI
  have hn4 : 0 ≤ ff_X M 1 4 ∧ ff_X M 1 4 ≤ 10 := hn
  have hns := ff_ns_r hn4
  unfold op_dealt at hsp
  refine ⟨Nat.le_of_ble_eq_true rfl, fun cut hcut hkut => ?_⟩
  have hwr := ff_wy2_r hn4
  have hap := ff_all_pos hn4
  generalize hw : ff_wy2 (ff_X M) = w at hsp hwr hap
  generalize ho : ff_own (ff_X M) = own at hsp
  have hAr := ff_dsA_r hwr 11 0
  have hMr := ff_dsM_r hwr own 11 0
  generalize hA : ff_dsA w 11 0 = A at hsp hap hAr
  generalize hB : ff_dsM w own 11 0 = B at hsp hMr
  have loop : ∀ (N : ez_M), ff_X N = ff_X M → N 13 2 = (ff_ns (ff_X M) : Int) → (∀ h : Nat, h ≤ 10 → N 15 ((2 ^ ff_ns (ff_X M) - 1) * 11 + h) = w h) → ∀ (n : Nat) (k a b : Int), k + n = 11 → 0 ≤ k → 0 ≤ a → a ≤ 3628800 * k → 0 ≤ b → b ≤ 3628800 * k → a + ff_dsA w n k = A → b + ff_dsM w own n k = B → cut 17 [(0, .inr (.inr 0)), (1, .inl up), (2, .inl own), (3, .inr (.inl a)), (5, .inr (.inl b)), (7, .inl k)] [] N := by
    intro N hX h13 hN n
    have hp : 0 ≤ N 13 2 ∧ N 13 2 ≤ 10 := by omega
    have hnt : (N 13 2).toNat = ff_ns (ff_X M) := by omega
    rw [← hnt] at hN
    have hsp := hsp N hX
    induction n with
    | zero =>
      intro k a b hk h0 ha0 ha1 hb0 hb1 hqa hqb
      simp only [ff_dsA, ff_dsM, Int.add_zero] at hqa hqb
      subst hqa
      subst hqb
      refine hkut [(17, [0, 1, 2, 3, 5, 7])] 60 17 _ _ _ ?_
      repeat' (first | (intro hh; exfalso; omega) | (refine And.intro (by first | assumption | omega) ?_) | (refine And.intro rfl ?_) | (refine And.intro ?_ ?_) | (intro qq hq1 hq2 hq3; have hq4 := hq2 (by omega) (by omega); subst hq4) | (intro hh) | omega | exact trivial)
      all_goals exact hsp
    | succ n ih =>
      intro k a b hk h0 ha0 ha1 hb0 hb1 hqa hqb
      simp only [ff_dsA, ff_dsM] at hqa hqb
      have hwk := hwr k.toNat
      have hNk := hN k.toNat (by omega)
      rw [← hNk] at hqa hqb hwk
      refine hkut [(17, [0, 1, 2, 3, 5, 7])] 60 17 _ _ _ ?_
      by_cases hko : own ≤ k
      · rw [if_pos hko] at hqb
        repeat' (first | (intro hh; exfalso; omega) | (refine And.intro (by first | assumption | omega) ?_) | (refine And.intro rfl ?_) | (refine And.intro ?_ ?_) | (intro qq hq1 hq2 hq3; have hq4 := hq2 (by omega) (by omega); subst hq4) | (intro hh) | omega | exact trivial)
        all_goals exact ih (k + 1) _ _ (by omega) (by omega) (by omega) (by omega) (by omega) (by omega) (by omega) (by omega)
      · rw [if_neg hko] at hqb
        repeat' (first | (intro hh; exfalso; omega) | (refine And.intro (by first | assumption | omega) ?_) | (refine And.intro rfl ?_) | (refine And.intro ?_ ?_) | (intro qq hq1 hq2 hq3; have hq4 := hq2 (by omega) (by omega); subst hq4) | (intro hh) | omega | exact trivial)
        all_goals exact ih (k + 1) _ _ (by omega) (by omega) (by omega) (by omega) (by omega) (by omega) (by omega) (by omega)
  refine hkut [(17, [0, 1, 2, 3, 5, 7])] 60 0 _ _ _ ?_
  refine And.intro rfl (And.intro hI ?_)
  intro N hX h13 hN
  refine And.intro rfl (And.intro (by rw [hX]; exact hI) ?_)
  have hl := loop N hX h13 (by rw [hw] at hN; exact hN) 11 0 0 0 (by omega) (by omega) (by omega) (by omega) (by omega) (by omega) (by rw [hA]; omega) (by rw [hB]; omega)
  rw [← ho, ← hX] at hl
  exact hl
theorem so_X5_dealt : ez_Sound LX yX5_dealt cX5_dealt 9 (some .long) 7 sp_X5_dealt := ez_sound (E := e_X5_dealt) (prog := p_X5_dealt) LX_ok (by decide +kernel) rfl (fun _ h => h) fo_X5 co_X5_ok (List.forall_mem_cons.mpr ⟨k_X5_189 (by decide), List.forall_mem_cons.mpr ⟨k_X5_184 (by decide), List.forall_mem_cons.mpr ⟨k_X5_192 (by decide), List.forall_mem_cons.mpr ⟨k_X5_159 (by decide), fun _ h => absurd h List.not_mem_nil⟩⟩⟩⟩) dp_X5_dealt b_X5_dealt
