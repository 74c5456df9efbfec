/-! ===== since, by trial ===== -/
def ff_wq (p q : Int → Bool) (y b : Int) : Bool := if b < y then p b else q b
theorem ff_wq_s (p q : Int → Bool) (b : Int) : ∀ (n : Nat) (y : Int), ff_cn (ff_wq p q (b + 1)) n y = ff_cn (ff_wq p q b) n y + (if y ≤ b ∧ b < y + n then ff_b2 (p b) - ff_b2 (q b) else 0)
  | 0, y => by
    simp only [ff_cn]
    rw [if_neg (by omega)]
    rfl
  | n + 1, y => by
    have ih := ff_wq_s p q b n (y + 1)
    simp only [ff_cn]
    rw [ih]
    by_cases hy : y = b
    · subst hy
      have e1 : ff_wq p q (y + 1) y = p y := if_pos (by omega)
      have e2 : ff_wq p q y y = q y := if_neg (by omega)
      have c1 : ¬ (y + 1 ≤ y ∧ y < y + 1 + n) := by omega
      have c2 : y ≤ y ∧ y < y + ((n + 1 : Nat) : Int) := by omega
      rw [e1, e2, if_neg c1, if_pos c2]
      unfold ff_b2
      split <;> split <;> omega
    · have e : ff_wq p q (b + 1) y = ff_wq p q b y := by
        unfold ff_wq
        by_cases h : y < b
        · rw [if_pos h, if_pos (by omega)]
        · rw [if_neg h, if_neg (by omega)]
      rw [e]
      by_cases hb : y + 1 ≤ b ∧ b < y + 1 + n
      · have c2 : y ≤ b ∧ b < y + ((n + 1 : Nat) : Int) := by omega
        rw [if_pos hb, if_pos c2]
        omega
      · have c2 : ¬ (y ≤ b ∧ b < y + ((n + 1 : Nat) : Int)) := by omega
        rw [if_neg hb, if_neg c2]
        omega
def ff_am (W : Int → Int) : Nat → Int → Int → Int → Int
  | 0, _, _, s => s
  | n + 1, b, z, s => if z < W b then ff_am W n (b + 1) (W b) b else ff_am W n (b + 1) z s
theorem ff_am_skip (W : Int → Int) : ∀ (k n : Nat) (b z s : Int), (∀ x : Int, b ≤ x → x < b + k → W x ≤ z) → ff_am W (k + n) b z s = ff_am W n (b + k) z s
  | 0, n, b, z, s, _ => by
    rw [Nat.zero_add, show b + ((0 : Nat) : Int) = b by omega]
  | k + 1, n, b, z, s, h => by
    rw [show k + 1 + n = (k + n) + 1 by omega]
    simp only [ff_am]
    have h0 := h b (by omega) (by omega)
    rw [if_neg (by omega), ff_am_skip W k n (b + 1) z s (fun x h1 h2 => h x (by omega) (by omega)), show b + 1 + (k : Int) = b + ((k + 1 : Nat) : Int) by omega]
theorem ff_am_0 (W : Int → Int) (n : Nat) (b z s : Int) (h : ∀ x : Int, b ≤ x → x < b + n → W x ≤ z) : ff_am W n b z s = s := by
  have := ff_am_skip W n 0 b z s h
  rw [Nat.add_zero] at this
  rw [this]
  rfl
theorem ff_am_sn (p q : Int → Bool) (f : Int) (Y : Nat) (W : Int → Int) (hW : ∀ b, W b = ff_cn (ff_wq p q b) Y f) (r : Nat) : ∀ (n : Nat) (b m z s : Int), b + n = f + Y → f ≤ b → W b = W f + m → m ≤ z → ff_am W (n + r) (b + 1) (W f + z) s = ff_sn p q n b m z s
  | 0, b, m, z, s, hb, hf, hm, hz => by
    simp only [ff_sn]
    have hc : ∀ k : Nat, W (f + Y + k) = W b := by
      intro k
      induction k with
      | zero => rw [show f + (Y : Int) + ((0 : Nat) : Int) = b by omega]
      | succ k ih =>
        have h := ff_wq_s p q (f + Y + k) Y f
        rw [if_neg (by omega), Int.add_zero, ← hW, ← hW] at h
        rw [show f + (Y : Int) + ((k + 1 : Nat) : Int) = f + Y + k + 1 by omega, h, ih]
    refine ff_am_0 W _ _ _ _ (fun x h1 h2 => ?_)
    have := hc (x - (f + Y)).toNat
    rw [show f + (Y : Int) + ((x - (f + Y)).toNat : Int) = x by omega] at this
    omega
  | n + 1, b, m, z, s, hb, hf, hm, hz => by
    have h := ff_wq_s p q b Y f
    rw [if_pos (by omega), ← hW, ← hW] at h
    rw [show n + 1 + r = (n + r) + 1 by omega]
    simp only [ff_am, ff_sn]
    have hm2 : W (b + 1) = W f + (m + ff_b2 (p b) - ff_b2 (q b)) := by omega
    by_cases hc : z < m + ff_b2 (p b) - ff_b2 (q b)
    · rw [if_pos hc, if_pos (by omega), hm2]
      exact ff_am_sn p q f Y W hW r n (b + 1) _ _ _ (by omega) (by omega) hm2 (by omega)
    · rw [if_neg hc, if_neg (by omega)]
      exact ff_am_sn p q f Y W hW r n (b + 1) _ _ _ (by omega) (by omega) hm2 (by omega)
theorem ff_am_all (p q : Int → Bool) (f : Int) (Y : Nat) (h0 : 0 ≤ f) (h1 : f + Y ≤ 600) : ff_am (fun b => ff_cn (ff_wq p q b) Y f) 601 0 (-1) 0 = ff_sn p q Y f 0 0 0 := by
  generalize hWd : (fun b => ff_cn (ff_wq p q b) Y f) = W
  have hW : ∀ b, W b = ff_cn (ff_wq p q b) Y f := fun b => by rw [← hWd]
  have hlo : ∀ k : Nat, (k : Int) ≤ f → W k = W 0 := by
    intro k
    induction k with
    | zero => intro _; rfl
    | succ k ih =>
      intro hk
      have h := ff_wq_s p q k Y f
      rw [if_neg (by omega), Int.add_zero, ← hW, ← hW] at h
      rw [show ((k + 1 : Nat) : Int) = (k : Int) + 1 by omega, h, ih (by omega)]
  have hf : W f = W 0 := by
    have := hlo f.toNat (by omega)
    rw [show ((f.toNat : Nat) : Int) = f by omega] at this
    exact this
  have hn := ff_cn_r (ff_wq p q 0) Y f
  rw [← hW] at hn
  show (if -1 < W 0 then ff_am W 600 (0 + 1) (W 0) 0 else ff_am W 600 (0 + 1) (-1) 0) = _
  rw [if_pos (by omega)]
  have hs := ff_am_skip W f.toNat (600 - f.toNat) (0 + 1) (W 0) 0 (fun x hx1 hx2 => by
    have := hlo x.toNat (by omega)
    rw [show ((x.toNat : Nat) : Int) = x by omega] at this
    omega)
  rw [show f.toNat + (600 - f.toNat) = 600 by omega] at hs
  rw [hs, show 0 + 1 + (f.toNat : Int) = f + 1 by omega]
  have hm := ff_am_sn p q f Y W hW (600 - f.toNat - Y) Y f 0 0 0 (by omega) (by omega) (by omega) (by omega)
  rw [show Y + (600 - f.toNat - Y) = 600 - f.toNat by omega, hf, Int.add_zero] at hm
  exact hm
def sp_X6_since : ez_Sp := fun as M Q => match as with | [.inr (.inr q), .inl c, .inl d] => q = 0 ∧ ff_Inv (ff_N M) ∧ (∀ M' : ez_M, ff_N M' = ff_N M → Q (some (.inl (op_since (ff_N M) c d))) M') | _ => False
def e_X6_since : ez_E := (fl_X6, co_X6, [(154, 6+1, 1, sp_X6_noChurch), (92, 0, 1, sp_X6_noDay), (242, 6+1, 3, sp_X6_whenOf)], 0, 7)
set_option maxHeartbeats 4000000 in
set_option maxRecDepth 100000 in
theorem b_X6_since : ez_Body LM e_X6_since p_X6_since sp_X6_since := by
  intro as M Q has hM hsp
  unfold sp_X6_since at hsp
  split at hsp
  rotate_left
  · exact hsp.elim
  rename_i q c d
  have g_c : -2147483648 ≤ c ∧ c ≤ 2147483647 := ez_hd (ez_tl (has))
  have g_d : -2147483648 ≤ d ∧ d ≤ 2147483647 := ez_hd (ez_tl (ez_tl (has)))
  obtain ⟨rfl, hI, hsp⟩ := hsp
  refine ⟨Nat.le_of_ble_eq_true rfl, fun cut hcut hkut => ?_⟩
  suffices hgo : ∀ M' : ez_M, ff_N M' = ff_N M → cut 5 [(0, .inr (.inr 0)), (1, .inl c), (2, .inl d)] [] M' by
    refine hkut [(5, [0, 1, 2])] 60 0 _ _ _ ?_
    exact hgo _ (ff_N_th M)
  clear hM
  intro M hth
  rw [← hth] at hI hsp
  clear hth
  have hn := ff_n_N hI
  have hsp := hsp M rfl
  unfold op_since at hsp
  by_cases h1 : (0 ≤ c ∧ c < ff_N M 1 4) ∧ (0 ≤ d ∧ d ≤ 363)
  · have h1m : (0 ≤ c ∧ c < M 0 13) ∧ (0 ≤ d ∧ d ≤ 363) := h1
    rw [if_pos h1] at hsp
    by_cases h2 : ff_N M 5 (11 * c + 5).toNat = -9
    · have h2m : M 7 (11 * c + 5).toNat = -9 := h2
      rw [if_pos h2] at hsp
      refine hkut [] 60 5 _ _ _ ?_
      repeat' (first | (intro hh; exfalso; omega) | (refine And.intro (by first | assumption | omega) ?_) | (refine And.intro rfl ?_) | (refine And.intro ?_ ?_) | (intro qq hq1 hq2 hq3; have hq4 := hq2 (by omega) (by omega); subst hq4) | (intro hh) | omega | exact trivial)
      all_goals exact hsp
    · have h2m : ¬ M 7 (11 * c + 5).toNat = -9 := h2
      rw [if_neg h2] at hsp
      have hc := ff_ch_N hI (c := c) h1.1.1 h1.1.2
      unfold ff_ch at hc
      have he := ff_am_all (ff_dhit (ff_N M) c (ff_N M 5 (11 * c + 5).toNat)) (ff_dhit (ff_N M) c d) (ff_N M 5 (11 * c + 3).toNat) (ff_yrs (ff_N M) c) (by
        show 0 ≤ M 7 (11 * c + 3).toNat
        omega) (by
        show M 7 (11 * c + 3).toNat + (((M 7 (11 * c + 4).toNat - M 7 (11 * c + 3).toNat + 1).toNat : Nat) : Int) ≤ 600
        omega)
      rw [← he] at hsp
      generalize hW : (fun b => ff_cn (ff_wq (ff_dhit (ff_N M) c (ff_N M 5 (11 * c + 5).toNat)) (ff_dhit (ff_N M) c d) b) (ff_yrs (ff_N M) c) (ff_N M 5 (11 * c + 3).toNat)) = W at hsp
      have hWv : ∀ b, ff_cn (ff_whp (ff_N M) c d b) (ff_yrs (ff_N M) c) (ff_N M 5 (11 * c + 3).toNat) = W b := fun b => by
        rw [← hW]
        rfl
      have loop : ∀ (n : Nat) (b z s : Int), b + n = 601 → 0 ≤ b → Q (some (.inl (ff_am W n b z s))) M → cut 49 [(0, .inr (.inr 0)), (1, .inl c), (2, .inl d), (3, .inl s), (4, .inl z), (5, .inl b)] [] M := by
        intro n
        induction n with
        | zero =>
          intro b z s hb h0 hq
          refine hkut [(49, [0, 1, 2, 3, 4, 5])] 60 49 _ _ _ ?_
          repeat' (first | (intro hh; exfalso; omega) | (refine And.intro (by first | assumption | omega) ?_) | (refine And.intro rfl ?_) | (refine And.intro ?_ ?_) | (intro qq hq1 hq2 hq3; have hq4 := hq2 (by omega) (by omega); subst hq4) | (intro hh) | omega | exact trivial)
          all_goals exact hq
        | succ n ih =>
          intro b z s hb h0 hq
          simp only [ff_am] at hq
          rw [← hWv b] at hq
          refine hkut [(49, [0, 1, 2, 3, 4, 5])] 60 49 _ _ _ ?_
          split at hq
          · (repeat' (first | (intro hh; exfalso; omega) | (refine And.intro (by first | assumption | omega) ?_) | (refine And.intro rfl ?_) | (refine And.intro ?_ ?_) | (intro qq hq1 hq2 hq3; have hq4 := hq2 (by omega) (by omega); subst hq4) | (intro hh) | omega | exact trivial))
            all_goals exact ih _ _ _ (by omega) (by omega) hq
          · (repeat' (first | (intro hh; exfalso; omega) | (refine And.intro (by first | assumption | omega) ?_) | (refine And.intro rfl ?_) | (refine And.intro ?_ ?_) | (intro qq hq1 hq2 hq3; have hq4 := hq2 (by omega) (by omega); subst hq4) | (intro hh) | omega | exact trivial))
            all_goals exact ih _ _ _ (by omega) (by omega) hq
      refine hkut [(49, [0, 1, 2, 3, 4, 5])] 60 5 _ _ _ ?_
      repeat' (first | (intro hh; exfalso; omega) | (refine And.intro (by first | assumption | omega) ?_) | (refine And.intro rfl ?_) | (refine And.intro ?_ ?_) | (intro qq hq1 hq2 hq3; have hq4 := hq2 (by omega) (by omega); subst hq4) | (intro hh) | omega | exact trivial)
      all_goals exact loop 601 0 (-1) 0 (by omega) (by omega) hsp
  · have h1m : ¬ ((0 ≤ c ∧ c < M 0 13) ∧ (0 ≤ d ∧ d ≤ 363)) := h1
    rw [if_neg h1] at hsp
    refine hkut [] 60 5 _ _ _ ?_
    repeat' (first | (intro hh; exfalso; omega) | (refine And.intro (by first | assumption | omega) ?_) | (refine And.intro rfl ?_) | (refine And.intro ?_ ?_) | (intro qq hq1 hq2 hq3; have hq4 := hq2 (by omega) (by omega); subst hq4) | (intro hh) | omega | exact trivial)
    all_goals exact hsp
theorem so_X6_since : ez_Sound LM yX6_since cX6_since 7 (some .int) 4 sp_X6_since := ez_sound (E := e_X6_since) (prog := p_X6_since) LM_ok (by decide +kernel) rfl (fun _ h => h) fo_X6 co_X6_ok (List.forall_mem_cons.mpr ⟨k_X6_154 (by decide), List.forall_mem_cons.mpr ⟨k_X6_92 (by decide), List.forall_mem_cons.mpr ⟨k_X6_242 (by decide), fun _ h => absurd h List.not_mem_nil⟩⟩⟩) dp_X6_since b_X6_since
def sp_X6_choir : ez_Sp := fun as M Q => match as with | [.inr (.inr q), .inl c, .inl l, .inl f, .inl t] => q = 0 ∧ ff_Inv (ff_N M) ∧ (∀ M' : ez_M, ff_N M' = op_choir_s (ff_N M) c l f t → Q (some (.inl (op_choir (ff_N M) c l f t))) M') | _ => False
def e_X6_choir : ez_E := (fl_X6, co_X6, [(154, 6+1, 1, sp_X6_noChurch), (84, 0, 1, sp_X6_noDegree), (111, 0, 1, sp_X6_noYear), (150, 0, 2, sp_X6_noSpan)], 0, 6)
set_option maxHeartbeats 4000000 in
set_option maxRecDepth 100000 in
theorem b_X6_choir : ez_Body LM e_X6_choir p_X6_choir sp_X6_choir := by
  intro as M Q has hM hsp
  unfold sp_X6_choir at hsp
  split at hsp
  rotate_left
  · exact hsp.elim
  rename_i q c l f t
  have g_c : -2147483648 ≤ c ∧ c ≤ 2147483647 := ez_hd (ez_tl (has))
  have g_l : -2147483648 ≤ l ∧ l ≤ 2147483647 := ez_hd (ez_tl (ez_tl (has)))
  have g_f : -2147483648 ≤ f ∧ f ≤ 2147483647 := ez_hd (ez_tl (ez_tl (ez_tl (has))))
  have g_t : -2147483648 ≤ t ∧ t ≤ 2147483647 := ez_hd (ez_tl (ez_tl (ez_tl (ez_tl (has)))))
  obtain ⟨rfl, hI, hsp⟩ := hsp
  refine ⟨Nat.le_of_ble_eq_true rfl, fun cut hcut hkut => ?_⟩
  suffices hgo : ∀ M' : ez_M, ff_N M' = ff_N M → cut 5 [(0, .inr (.inr 0)), (1, .inl c), (2, .inl l), (3, .inl f), (4, .inl t)] [] M' by
    refine hkut [(5, [0, 1, 2, 3, 4])] 60 0 _ _ _ ?_
    exact hgo _ (ff_N_th M)
  clear hM
  intro M hth
  rw [← hth] at hI hsp
  clear hth
  have hn := ff_n_N hI
  have hx : 0 ≤ c → ff_N (ez_up (ez_up (ez_up M 7 (11 * c + 8).toNat l) 7 (11 * c + 9).toNat f) 7 (11 * c + 10).toNat t) = ez_up (ez_up (ez_up (ff_N M) 5 (11 * c + 9).toNat f) 5 (11 * c + 10).toNat t) 5 (11 * c + 8).toNat l := by
    intro h
    rw [ff_N_told, ff_N_told, ff_N_told]
    have a : ¬ (11 * c + 8).toNat = (11 * c + 9).toNat := by omega
    have b : ¬ (11 * c + 8).toNat = (11 * c + 10).toNat := by omega
    generalize (11 * c + 8).toNat = x at a b
    generalize (11 * c + 9).toNat = y at a
    generalize (11 * c + 10).toNat = z at b
    funext i j
    simp only [ez_up]
    grind
  unfold op_choir op_choir_s at hsp
  refine hkut [] 100 5 _ _ _ ?_
  by_cases h1 : (0 ≤ c ∧ c < ff_N M 1 4) ∧ (0 ≤ l ∧ l ≤ 359) ∧ (0 ≤ f ∧ f ≤ 599) ∧ (0 ≤ t ∧ t ≤ 599)
  · have h1m : (0 ≤ c ∧ c < M 0 13) ∧ (0 ≤ l ∧ l ≤ 359) ∧ (0 ≤ f ∧ f ≤ 599) ∧ (0 ≤ t ∧ t ≤ 599) := h1
    by_cases h2 : 0 ≤ t - f ∧ t - f ≤ 60
    · by_cases h3 : ff_N M 5 (11 * c + 4).toNat < f
      · have h3m : M 7 (11 * c + 4).toNat < f := h3
        rw [if_pos ⟨h1, h2, h3⟩, if_pos h1, if_pos h2, if_pos h3] at hsp
        have hsp := hsp _ (hx h1.1.1)
        repeat' (first | (intro hh; exfalso; omega) | (refine And.intro (by first | assumption | omega) ?_) | (refine And.intro rfl ?_) | (refine And.intro ?_ ?_) | (intro qq hq1 hq2 hq3; have hq4 := hq2 (by omega) (by omega); subst hq4) | (intro hh) | omega | exact trivial)
        all_goals exact hsp
      · have h3m : ¬ M 7 (11 * c + 4).toNat < f := h3
        rw [if_neg (fun z => h3 z.2.2), if_pos h1, if_pos h2, if_neg h3] at hsp
        have hsp := hsp M rfl
        repeat' (first | (intro hh; exfalso; omega) | (refine And.intro (by first | assumption | omega) ?_) | (refine And.intro rfl ?_) | (refine And.intro ?_ ?_) | (intro qq hq1 hq2 hq3; have hq4 := hq2 (by omega) (by omega); subst hq4) | (intro hh) | omega | exact trivial)
        all_goals exact hsp
    · rw [if_neg (fun z => h2 z.2.1), if_pos h1, if_neg h2] at hsp
      have hsp := hsp M rfl
      repeat' (first | (intro hh; exfalso; omega) | (refine And.intro (by first | assumption | omega) ?_) | (refine And.intro rfl ?_) | (refine And.intro ?_ ?_) | (intro qq hq1 hq2 hq3; have hq4 := hq2 (by omega) (by omega); subst hq4) | (intro hh) | omega | exact trivial)
      all_goals exact hsp
  · have h1m : ¬ ((0 ≤ c ∧ c < M 0 13) ∧ (0 ≤ l ∧ l ≤ 359) ∧ (0 ≤ f ∧ f ≤ 599) ∧ (0 ≤ t ∧ t ≤ 599)) := h1
    rw [if_neg (fun z => h1 z.1), if_neg h1] at hsp
    have hsp := hsp M rfl
    repeat' (first | (intro hh; exfalso; omega) | (refine And.intro (by first | assumption | omega) ?_) | (refine And.intro rfl ?_) | (refine And.intro ?_ ?_) | (intro qq hq1 hq2 hq3; have hq4 := hq2 (by omega) (by omega); subst hq4) | (intro hh) | omega | exact trivial)
    all_goals exact hsp
theorem so_X6_choir : ez_Sound LM yX6_choir cX6_choir 6 (some .int) 2 sp_X6_choir := ez_sound (E := e_X6_choir) (prog := p_X6_choir) LM_ok (by decide +kernel) rfl (fun _ h => h) fo_X6 co_X6_ok (List.forall_mem_cons.mpr ⟨k_X6_154 (by decide), List.forall_mem_cons.mpr ⟨k_X6_84 (by decide), List.forall_mem_cons.mpr ⟨k_X6_111 (by decide), List.forall_mem_cons.mpr ⟨k_X6_150 (by decide), fun _ h => absurd h List.not_mem_nil⟩⟩⟩⟩) dp_X6_choir b_X6_choir
theorem ff_line_N2 (M : ez_M) (c y : Int) : ff_hit (ff_N M) 2 c y = ff_nr (ff_line (ff_N M) 2 c y) (M 7 (11 * c + 1).toNat) (M 7 (11 * c + 2).toNat) := rfl
def sp_X6_dated : ez_Sp := fun as M Q => match as with | [.inr (.inr q), .inl c, .inl w] => q = 0 ∧ ff_Inv (ff_N M) ∧ (∀ M' : ez_M, ff_N M' = ff_N M → Q (some (.inl (op_dated (ff_N M) c w))) M') | _ => False
def e_X6_dated : ez_E := (fl_X6, co_X6, [(154, 6+1, 1, sp_X6_noChurch), (168, 6+1, 3, sp_X6_lineOf), (174, 6+1, 3, sp_X6_isNear)], 0, 5)
set_option maxHeartbeats 4000000 in
set_option maxRecDepth 100000 in
theorem b_X6_dated : ez_Body LM e_X6_dated p_X6_dated sp_X6_dated := by
  intro as M Q has hM hsp
  unfold sp_X6_dated at hsp
  split at hsp
  rotate_left
  · exact hsp.elim
  rename_i q c w
  have g_c : -2147483648 ≤ c ∧ c ≤ 2147483647 := ez_hd (ez_tl (has))
  have g_w : -2147483648 ≤ w ∧ w ≤ 2147483647 := ez_hd (ez_tl (ez_tl (has)))
  obtain ⟨rfl, hI, hsp⟩ := hsp
  refine ⟨Nat.le_of_ble_eq_true rfl, fun cut hcut hkut => ?_⟩
  suffices hgo : ∀ M' : ez_M, ff_N M' = ff_N M → cut 5 [(0, .inr (.inr 0)), (1, .inl c), (2, .inl w)] [] M' by
    refine hkut [(5, [0, 1, 2])] 60 0 _ _ _ ?_
    exact hgo _ (ff_N_th M)
  clear hM
  intro M hth
  rw [← hth] at hI hsp
  clear hth
  have hn := ff_n_N hI
  unfold op_dated at hsp
  by_cases h1 : 0 ≤ c ∧ c < ff_N M 1 4
  · have h1m : 0 ≤ c ∧ c < M 0 13 := h1
    simp only [if_pos h1] at hsp
    have loop : ∀ (n : Nat) (y m : Int) (N : ez_M), y + n = 600 → 0 ≤ y → 0 ≤ m → m ≤ y → 0 ≤ N 0 25 → N 0 25 ≤ y → ((m = 0 ∧ N 0 26 = -9 ∧ N 0 27 = -9) ∨ (0 < m ∧ 0 ≤ N 0 26 ∧ 0 ≤ N 0 27 ∧ N 0 27 < y)) → ff_N N = ff_N M → (∀ M' : ez_M, ff_N M' = ff_N M → Q (some (.inl (if 0 ≤ w ∧ w ≤ 3 then ff_dt (ff_hit (ff_N M) 2 c) w n y m (N 0 26) (N 0 27) (N 0 25) else -2))) M') → cut 37 [(0, .inr (.inr 0)), (1, .inl c), (2, .inl w), (3, .inl m), (4, .inl y)] [] N := by
      intro n
      induction n with
      | zero =>
        intro y m N hy h0 hm0 hm1 hs0 hs1 hz hX hq
        have hq := hq N hX
        simp only [ff_dt] at hq
        refine hkut [(37, [0, 1, 2, 3, 4])] 60 37 _ _ _ ?_
        by_cases hw : 0 ≤ w ∧ w ≤ 3
        · rw [if_pos hw] at hq
          have hw4 : w = 0 ∨ w = 1 ∨ w = 2 ∨ w = 3 := by omega
          rcases hw4 with rfl | rfl | rfl | rfl
          · rw [if_pos rfl] at hq
            repeat' (first | (intro hh; exfalso; omega) | (refine And.intro (by first | assumption | omega) ?_) | (refine And.intro rfl ?_) | (refine And.intro ?_ ?_) | (intro qq hq1 hq2 hq3; have hq4 := hq2 (by omega) (by omega); subst hq4) | (intro hh) | omega | exact trivial)
            all_goals exact hq
          · rw [if_neg (by decide), if_pos rfl] at hq
            repeat' (first | (intro hh; exfalso; omega) | (refine And.intro (by first | assumption | omega) ?_) | (refine And.intro rfl ?_) | (refine And.intro ?_ ?_) | (intro qq hq1 hq2 hq3; have hq4 := hq2 (by omega) (by omega); subst hq4) | (intro hh) | omega | exact trivial)
            all_goals exact hq
          · rw [if_neg (by decide), if_neg (by decide), if_pos rfl] at hq
            repeat' (first | (intro hh; exfalso; omega) | (refine And.intro (by first | assumption | omega) ?_) | (refine And.intro rfl ?_) | (refine And.intro ?_ ?_) | (intro qq hq1 hq2 hq3; have hq4 := hq2 (by omega) (by omega); subst hq4) | (intro hh) | omega | exact trivial)
            all_goals exact hq
          · rw [if_neg (by decide), if_neg (by decide), if_neg (by decide)] at hq
            repeat' (first | (intro hh; exfalso; omega) | (refine And.intro (by first | assumption | omega) ?_) | (refine And.intro rfl ?_) | (refine And.intro ?_ ?_) | (intro qq hq1 hq2 hq3; have hq4 := hq2 (by omega) (by omega); subst hq4) | (intro hh) | omega | exact trivial)
            all_goals exact hq
        · rw [if_neg hw] at hq
          repeat' (first | (intro hh; exfalso; omega) | (refine And.intro (by first | assumption | omega) ?_) | (refine And.intro rfl ?_) | (refine And.intro ?_ ?_) | (intro qq hq1 hq2 hq3; have hq4 := hq2 (by omega) (by omega); subst hq4) | (intro hh) | omega | exact trivial)
          all_goals exact hq
      | succ n ih =>
        intro y m N hy h0 hm0 hm1 hs0 hs1 hz hX hq
        have hIN : ff_Inv (ff_N N) := by rw [hX]; exact hI
        have h13 : N 0 13 = M 0 13 := congrFun (congrFun hX 1) 4
        have hl := ff_line_r hIN (r := 2) (c := c) (y := y) (by omega) (by show c < N 0 13; omega) (by omega) (by omega)
        have hc := ff_ch_N hIN (c := c) (by omega) (by omega)
        unfold ff_ch at hc
        simp only [ff_dt] at hq
        have hpe : ff_hit (ff_N M) 2 c y = ff_nr (ff_line (ff_N N) 2 c y) (N 7 (11 * c + 1).toNat) (N 7 (11 * c + 2).toNat) := by
          rw [← hX]
          rfl
        have hu : ∀ v, ez_up N 0 25 v 0 26 = N 0 26 ∧ ez_up N 0 25 v 0 27 = N 0 27 := fun v => by simp [ez_up]
        have hu1 := hu (N 0 25 + 1)
        have hu0 := hu (N 0 25 + 0)
        have ih2 := fun (s f : Int) (hs : s = N 0 25 + 1 ∨ s = N 0 25 + 0) (hf : 0 ≤ f) (hq : ∀ M' : ez_M, ff_N M' = ff_N M → Q (some (.inl (if 0 ≤ w ∧ w ≤ 3 then ff_dt (ff_hit (ff_N M) 2 c) w n (y + 1) (m + 1) f y s else -2))) M') => ih (y + 1) (m + 1) (ez_up (ez_up (ez_up N 0 25 s) 0 26 f) 0 27 y) (by omega) (by omega) (by omega) (by omega) (by simp [ez_up]; omega) (by simp [ez_up]; omega) (Or.inr (by simp [ez_up]; omega)) (by rw [ff_N_fld _ 27 _ (by decide), ff_N_fld _ 26 _ (by decide), ff_N_fld _ 25 _ (by decide), hX]) (by simp only [ez_up]; exact hq)
        refine hkut [(37, [0, 1, 2, 3, 4])] 100 37 _ _ _ ?_
        cases hp : ff_hit (ff_N M) 2 c y
        · have hpf : ¬ (ff_hit (ff_N M) 2 c y = true) := by rw [hp]; decide
          rw [if_neg hpf] at hq
          have ih := ih (y + 1) m N (by omega) (by omega) (by omega) (by omega) (by omega) (by omega) (by omega) hX hq
          rw [hpe] at hp
          repeat' (first | (intro hh; exfalso; omega) | (refine And.intro (by first | assumption | omega) ?_) | (refine And.intro rfl ?_) | (refine And.intro ?_ ?_) | (intro qq hq1 hq2 hq3; have hq4 := hq2 (by omega) (by omega); subst hq4) | (intro hh) | omega | exact trivial)
          all_goals first | exact ih | (rename_i hz; rw [hp] at hz; cases hz; done) | (exfalso; simp_all; done)
        · rw [if_pos hp] at hq
          rw [hpe] at hp
          by_cases hm : m = 0
          · rw [if_pos hm, if_pos (Or.inl hm)] at hq
            have ih := ih2 _ _ (Or.inl rfl) h0 hq
            repeat' (first | (intro hh; exfalso; omega) | (refine And.intro (by first | assumption | omega) ?_) | (refine And.intro rfl ?_) | (refine And.intro ?_ ?_) | (intro qq hq1 hq2 hq3; have hq4 := hq2 (by omega) (by omega); subst hq4) | (intro hh) | omega | exact trivial)
            all_goals first | exact ih | (rename_i hz; rw [hp] at hz; cases hz; done) | (exfalso; simp_all; done)
          · rw [if_neg hm] at hq
            by_cases hsy : N 0 27 < y - 1
            · rw [if_pos (Or.inr hsy)] at hq
              have ih := ih2 _ _ (Or.inl rfl) (by omega) hq
              rw [← hu1.1] at ih
              repeat' (first | (intro hh; exfalso; omega) | (refine And.intro (by first | assumption | omega) ?_) | (refine And.intro rfl ?_) | (refine And.intro ?_ ?_) | (intro qq hq1 hq2 hq3; have hq4 := hq2 (by omega) (by omega); subst hq4) | (intro hh) | omega | exact trivial)
              all_goals first | exact ih | (rename_i hz; rw [hp] at hz; cases hz; done) | (exfalso; simp_all; done)
            · have hno : ¬ (m = 0 ∨ N 0 27 < y - 1) := by omega
              have h25 : N 0 25 = N 0 25 + 0 := by omega
              rw [if_neg hno, h25] at hq
              have ih := ih2 _ _ (Or.inr rfl) (by omega) hq
              rw [← hu0.1] at ih
              repeat' (first | (intro hh; exfalso; omega) | (refine And.intro (by first | assumption | omega) ?_) | (refine And.intro rfl ?_) | (refine And.intro ?_ ?_) | (intro qq hq1 hq2 hq3; have hq4 := hq2 (by omega) (by omega); subst hq4) | (intro hh) | omega | exact trivial)
              all_goals first | exact ih | (rename_i hz; rw [hp] at hz; cases hz; done) | (exfalso; simp_all; done)
    have hl := loop 600 0 0 (ez_up (ez_up (ez_up M 0 25 0) 0 26 (-9)) 0 27 (-9)) (by omega) (by omega) (by omega) (by omega) (by simp [ez_up]) (by simp [ez_up]) (Or.inl (by simp [ez_up])) (by rw [ff_N_fld _ 27 _ (by decide), ff_N_fld _ 26 _ (by decide), ff_N_fld _ 25 _ (by decide)]) (by
      simp only [ez_up]
      intro M' hM'
      have := hsp M' hM'
      exact this)
    refine hkut [(37, [0, 1, 2, 3, 4])] 60 5 _ _ _ ?_
    repeat' (first | (intro hh; exfalso; omega) | (refine And.intro (by first | assumption | omega) ?_) | (refine And.intro rfl ?_) | (refine And.intro ?_ ?_) | (intro qq hq1 hq2 hq3; have hq4 := hq2 (by omega) (by omega); subst hq4) | (intro hh) | omega | exact trivial)
    all_goals exact hl
  · have h1m : ¬ (0 ≤ c ∧ c < M 0 13) := h1
    simp only [if_neg h1] at hsp
    have hsp := hsp M rfl
    refine hkut [] 60 5 _ _ _ ?_
    repeat' (first | (intro hh; exfalso; omega) | (refine And.intro (by first | assumption | omega) ?_) | (refine And.intro rfl ?_) | (refine And.intro ?_ ?_) | (intro qq hq1 hq2 hq3; have hq4 := hq2 (by omega) (by omega); subst hq4) | (intro hh) | omega | exact trivial)
    all_goals exact hsp
theorem so_X6_dated : ez_Sound LM yX6_dated cX6_dated 5 (some .int) 4 sp_X6_dated := ez_sound (E := e_X6_dated) (prog := p_X6_dated) LM_ok (by decide +kernel) rfl (fun _ h => h) fo_X6 co_X6_ok (List.forall_mem_cons.mpr ⟨k_X6_154 (by decide), List.forall_mem_cons.mpr ⟨k_X6_168 (by decide), List.forall_mem_cons.mpr ⟨k_X6_174 (by decide), fun _ h => absurd h List.not_mem_nil⟩⟩⟩) dp_X6_dated b_X6_dated
