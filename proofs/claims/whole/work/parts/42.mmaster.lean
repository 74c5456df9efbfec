/-! ===== the fewest, downward ===== -/
def ff_fd (g : Int → Bool) : Nat → Int → Int
  | 0, b => b
  | n + 1, b => if g n = true ∧ ff_pop n ≤ ff_pop b then ff_fd g n n else ff_fd g n b
def ff_bf (g : Int → Bool) (k r : Int) : Prop := (r = 63 ∧ ∀ t : Int, 0 ≤ t → t < k → g t = false) ∨ (0 ≤ r ∧ r < k ∧ g r = true ∧ ∀ t : Int, 0 ≤ t → t < k → g t = true → ff_pop r < ff_pop t ∨ (ff_pop r = ff_pop t ∧ r ≤ t))
theorem ff_pop_63 : ff_pop 63 = 6 := by decide +kernel
theorem ff_pop_lt {t : Int} (h0 : 0 ≤ t) (h1 : t < 63) : ff_pop t < 6 := by
  have key : ∀ k : Fin 63, ff_pop (k.val : Int) < 6 := by decide +kernel
  have := key ⟨t.toNat, by omega⟩
  rw [show ((t.toNat : Nat) : Int) = t by omega] at this
  exact this
theorem ff_bf_fw (S : ff_S) : ∀ (n : Nat) (s f : Int), s + n = 63 → 0 ≤ s → ff_bf (ff_sufS S) s f → ff_bf (ff_sufS S) 63 (ff_fw S n s f)
  | 0, s, f, hs, _, h => by
    have : s = 63 := by omega
    rw [← this]
    exact h
  | n + 1, s, f, hs, h0, h => by
    have hp := ff_pop_lt h0 (by omega)
    simp only [ff_fw]
    by_cases hc : ff_pop s < ff_pop f ∧ ff_sufS S s = true
    · rw [if_pos hc]
      refine ff_bf_fw S n (s + 1) s (by omega) (by omega) (Or.inr ⟨h0, by omega, hc.2, fun t ht0 ht1 hg => ?_⟩)
      by_cases ht : t = s
      · subst ht
        right
        exact ⟨rfl, by omega⟩
      · left
        rcases h with h | h
        · have := h.2 t ht0 (by omega)
          rw [this] at hg
          cases hg
        · have := h.2.2.2 t ht0 (by omega) hg
          omega
    · rw [if_neg hc]
      refine ff_bf_fw S n (s + 1) f (by omega) (by omega) ?_
      rcases h with h | h
      · left
        refine ⟨h.1, fun t ht0 ht1 => ?_⟩
        by_cases ht : t = s
        · subst ht
          cases hg : ff_sufS S t
          · rfl
          · exfalso
            apply hc
            rw [h.1, ff_pop_63]
            exact ⟨hp, hg⟩
        · exact h.2 t ht0 (by omega)
      · right
        refine ⟨h.1, by omega, h.2.2.1, fun t ht0 ht1 hg => ?_⟩
        by_cases ht : t = s
        · subst ht
          have : ¬ ff_pop t < ff_pop f := fun z => hc ⟨z, hg⟩
          omega
        · exact h.2.2.2 t ht0 (by omega) hg
theorem ff_fd_r (g : Int → Bool) : ∀ (n : Nat) (b : Int), (ff_fd g n b = b ∧ ∀ t : Int, 0 ≤ t → t < n → g t = true → ff_pop b < ff_pop t) ∨ (0 ≤ ff_fd g n b ∧ ff_fd g n b < n ∧ g (ff_fd g n b) = true ∧ ff_pop (ff_fd g n b) ≤ ff_pop b ∧ ∀ t : Int, 0 ≤ t → t < n → g t = true → ff_pop (ff_fd g n b) < ff_pop t ∨ (ff_pop (ff_fd g n b) = ff_pop t ∧ ff_fd g n b ≤ t))
  | 0, b => Or.inl ⟨rfl, fun t h0 h1 => by omega⟩
  | n + 1, b => by
    simp only [ff_fd]
    by_cases hc : g n = true ∧ ff_pop n ≤ ff_pop b
    · rw [if_pos hc]
      right
      have ih := ff_fd_r g n n
      generalize ff_fd g n n = r at ih
      rcases ih with ⟨h1, h2⟩ | ⟨h1, h2, h3, h4, h5⟩
      · subst h1
        refine ⟨by omega, by omega, hc.1, hc.2, fun t ht0 ht1 hg => ?_⟩
        by_cases ht : t = n
        · subst ht
          right
          exact ⟨rfl, by omega⟩
        · left
          exact h2 t ht0 (by omega) hg
      · refine ⟨h1, by omega, h3, by omega, fun t ht0 ht1 hg => ?_⟩
        by_cases ht : t = n
        · subst ht
          omega
        · exact h5 t ht0 (by omega) hg
    · rw [if_neg hc]
      have ih := ff_fd_r g n b
      generalize ff_fd g n b = r at ih
      rcases ih with ⟨h1, h2⟩ | ⟨h1, h2, h3, h4, h5⟩
      · left
        refine ⟨h1, fun t ht0 ht1 hg => ?_⟩
        by_cases ht : t = n
        · subst ht
          have : ¬ ff_pop (n : Int) ≤ ff_pop b := fun z => hc ⟨hg, z⟩
          omega
        · exact h2 t ht0 (by omega) hg
      · right
        refine ⟨h1, by omega, h3, h4, fun t ht0 ht1 hg => ?_⟩
        by_cases ht : t = n
        · subst ht
          have : ¬ ff_pop (n : Int) ≤ ff_pop b := fun z => hc ⟨hg, z⟩
          left
          omega
        · exact h5 t ht0 (by omega) hg
theorem ff_fd_fw (S : ff_S) : ff_fd (ff_sufS S) 63 63 = ff_fw S 63 0 63 := by
  have h1 := ff_bf_fw S 63 0 63 (by omega) (by omega) (Or.inl ⟨rfl, fun t h0 h1 => by omega⟩)
  have h2 := ff_fd_r (ff_sufS S) 63 63
  have h2 : ff_bf (ff_sufS S) 63 (ff_fd (ff_sufS S) 63 63) := by
    generalize ff_fd (ff_sufS S) 63 63 = r at h2
    rcases h2 with ⟨a, b⟩ | ⟨a, b, c, d, e⟩
    · left
      refine ⟨a, fun t h0 h1 => ?_⟩
      cases hg : ff_sufS S t
      · rfl
      · have := b t h0 (by omega) hg
        have := ff_pop_lt h0 h1
        rw [ff_pop_63] at *
        omega
    · right
      exact ⟨a, by omega, c, fun t h0 h1 => e t h0 (by omega)⟩
  generalize ff_fd (ff_sufS S) 63 63 = r1 at h2
  generalize ff_fw S 63 0 63 = r2 at h1
  rcases h1 with ⟨a1, b1⟩ | ⟨a1, b1, c1, d1⟩ <;> rcases h2 with ⟨a2, b2⟩ | ⟨a2, b2, c2, d2⟩
  · omega
  · have := b1 r1 a2 b2
    rw [this] at c2
    cases c2
  · have := b2 r2 a1 b1
    rw [this] at c1
    cases c1
  · have e1 := d1 r1 a2 b2 c2
    have e2 := d2 r2 a1 b1 c1
    omega
def ff_bi (b : Bool) : Int := if b = true then 1 else 0
def sp_X6_fewest : ez_Sp := fun as M Q => match as with | [.inr (.inr q)] => q = 0 ∧ ff_Inv (ff_N M) ∧ (∀ M' : ez_M, ff_N M' = ff_N M → Q (some (.inl (op_fewest (ff_N M)))) M') | _ => False
def e_X6_fewest : ez_E := (fl_X6, co_X6, [(185, 6+1, 1, sp_X6_explained), (199, 0, 1, sp_X6_bits)], 0, 6)
set_option maxHeartbeats 4000000 in
set_option maxRecDepth 100000 in
theorem b_X6_fewest : ez_Body LM e_X6_fewest p_X6_fewest sp_X6_fewest := by
  intro as M Q has hM hsp
  unfold sp_X6_fewest at hsp
  split at hsp
  rotate_left
  · exact hsp.elim
  rename_i q
  obtain ⟨rfl, hI, hsp⟩ := hsp
  refine ⟨Nat.le_of_ble_eq_true rfl, fun cut hcut hkut => ?_⟩
  suffices hgo : ∀ M' : ez_M, ff_N M' = ff_N M → cut 5 [(0, .inr (.inr 0))] [] M' by
    refine hkut [(5, [0])] 60 0 _ _ _ ?_
    exact hgo _ (ff_N_th M)
  clear hM
  intro M hth
  rw [← hth] at hI hsp
  clear hth
  have hn := ff_n_N hI
  unfold op_fewest at hsp
  rw [← ff_fd_fw] at hsp
  generalize hg : ff_sufS (ff_N M) = g at hsp
  have hgv : ∀ s, ff_al (ff_sufp (fun j => ff_rules (ff_N M) (j : Int)) s) (M 0 13).toNat 0 = g s := fun s => by rw [← hg]; rfl
  have outer : ∀ (n : Nat) (s b : Int) (N : ez_M), s + 1 = n → n ≤ 63 → 0 ≤ b → b ≤ 63 → ff_N N = ff_N M → (∀ M' : ez_M, ff_N M' = ff_N M → Q (some (.inl (ff_fd g n b))) M') → cut 11 [(0, .inr (.inr 0)), (1, .inl b), (2, .inl s)] [] N := by
    intro n
    induction n with
    | zero =>
      intro s b N hs hn2 hb0 hb1 hX hq
      have hq := hq N hX
      refine hkut [(11, [0, 1, 2]), (20, [0, 1, 2, 3, 4])] 60 11 _ _ _ ?_
      repeat' (first | (intro hh; exfalso; omega) | (refine And.intro (by first | assumption | omega) ?_) | (refine And.intro rfl ?_) | (refine And.intro ?_ ?_) | (intro qq hq1 hq2 hq3; have hq4 := hq2 (by omega) (by omega); subst hq4) | (intro hh) | omega | exact trivial)
      all_goals exact hq
    | succ n ih =>
      intro s b N hs hn2 hb0 hb1 hX hq
      obtain rfl : s = (n : Int) := by omega
      simp only [ff_fd] at hq
      have fin : ∀ (N : ez_M), ff_N N = ff_N M → cut 65 [(0, .inr (.inr 0)), (1, .inl b), (2, .inl (n : Int)), (3, .inl (ff_bi (g n)))] [] N := by
        intro N hX
        refine hkut [(11, [0, 1, 2])] 60 65 _ _ _ ?_
        unfold ff_bi
        cases hc : g n
        · rw [if_neg (by decide)]
          rw [hc] at hq
          simp only [Bool.false_eq_true, false_and, if_false] at hq
          have ih := ih (n + (-1)) b N (by omega) (by omega) hb0 hb1 hX hq
          repeat' (first | (intro hh; exfalso; omega) | (refine And.intro (by first | assumption | omega) ?_) | (refine And.intro rfl ?_) | (refine And.intro ?_ ?_) | (intro qq hq1 hq2 hq3; have hq4 := hq2 (by omega) (by omega); subst hq4) | (intro hh) | omega | exact trivial)
          all_goals exact ih
        · rw [if_pos rfl]
          rw [hc] at hq
          simp only [true_and] at hq
          by_cases hp : ff_pop (n : Int) ≤ ff_pop b
          · simp only [if_pos hp] at hq
            have ih := ih (n + (-1)) n N (by omega) (by omega) (by omega) (by omega) hX hq
            repeat' (first | (intro hh; exfalso; omega) | (refine And.intro (by first | assumption | omega) ?_) | (refine And.intro rfl ?_) | (refine And.intro ?_ ?_) | (intro qq hq1 hq2 hq3; have hq4 := hq2 (by omega) (by omega); subst hq4) | (intro hh) | omega | exact trivial)
            all_goals exact ih
          · simp only [if_neg hp] at hq
            have ih := ih (n + (-1)) b N (by omega) (by omega) hb0 hb1 hX hq
            repeat' (first | (intro hh; exfalso; omega) | (refine And.intro (by first | assumption | omega) ?_) | (refine And.intro rfl ?_) | (refine And.intro ?_ ?_) | (intro qq hq1 hq2 hq3; have hq4 := hq2 (by omega) (by omega); subst hq4) | (intro hh) | omega | exact trivial)
            all_goals exact ih
      have inner : ∀ (k : Nat) (y : Int) (o : Bool) (N : ez_M), y + k = M 0 13 → 0 ≤ y → ff_N N = ff_N M → (o && ff_al (ff_sufp (fun j => ff_rules (ff_N M) (j : Int)) n) k y) = g n → cut 20 [(0, .inr (.inr 0)), (1, .inl b), (2, .inl (n : Int)), (3, .inl (ff_bi o)), (4, .inl y)] [] N := by
        intro k
        induction k with
        | zero =>
          intro y o N hy h0 hX ho
          have h13 : N 0 13 = M 0 13 := congrFun (congrFun hX 1) 4
          simp only [ff_al, Bool.and_true] at ho
          subst ho
          have fin := fin N hX
          refine hkut [(20, [0, 1, 2, 3, 4]), (65, [0, 1, 2, 3])] 60 20 _ _ _ ?_
          repeat' (first | (intro hh; exfalso; omega) | (refine And.intro (by first | assumption | omega) ?_) | (refine And.intro rfl ?_) | (refine And.intro ?_ ?_) | (intro qq hq1 hq2 hq3; have hq4 := hq2 (by omega) (by omega); subst hq4) | (intro hh) | omega | exact trivial)
          all_goals exact fin
        | succ k ihk =>
          intro y o N hy h0 hX ho
          have h13 : N 0 13 = M 0 13 := congrFun (congrFun hX 1) 4
          have hIN : ff_Inv (ff_N N) := by rw [hX]; exact hI
          simp only [ff_al] at ho
          rw [← Bool.and_assoc] at ho
          have hpe : ff_sufp (fun j => ff_rules (ff_N M) (j : Int)) n y = decide (ff_rules (ff_N N) y = 0 ∨ ¬ ez_and (ff_rules (ff_N N) y) n = 0) := by
            rw [hX]
            unfold ff_sufp
            show decide (ff_rules (ff_N M) ((y.toNat : Nat) : Int) = 0 ∨ ¬ ez_and (ff_rules (ff_N M) ((y.toNat : Nat) : Int)) n = 0) = _
            rw [show ((y.toNat : Nat) : Int) = y by omega]
          rw [hpe] at ho
          have ihk := fun K hK => ihk (y + 1) _ K (by omega) (by omega) hK ho
          refine hkut [(20, [0, 1, 2, 3, 4]), (65, [0, 1, 2, 3])] 60 20 _ _ _ ?_
          by_cases hr0 : ff_rules (ff_N N) y = 0
          · rw [show decide (ff_rules (ff_N N) y = 0 ∨ ¬ ez_and (ff_rules (ff_N N) y) n = 0) = true from decide_eq_true (Or.inl hr0), Bool.and_true] at ihk
            cases o
            · have ihk : ∀ K : ez_M, ff_N K = ff_N M → cut 20 [(0, .inr (.inr 0)), (1, .inl b), (2, .inl (n : Int)), (3, .inl 0), (4, .inl (y + 1))] [] K := ihk
              change ez_wpk _ _ _ _ _ _ _ _ [(0, .inr (.inr 0)), (1, .inl b), (2, .inl (n : Int)), (3, .inl 0), (4, .inl y)] _ _
              repeat' (first | (intro hh; exfalso; omega) | (refine And.intro (by first | assumption | omega) ?_) | (refine And.intro rfl ?_) | (refine And.intro ?_ ?_) | (intro qq hq1 hq2 hq3; have hq4 := hq2 (by omega) (by omega); subst hq4) | (intro hh) | omega | exact trivial)
              all_goals exact ihk _ (by rw [← hX]; assumption)
            · have ihk : ∀ K : ez_M, ff_N K = ff_N M → cut 20 [(0, .inr (.inr 0)), (1, .inl b), (2, .inl (n : Int)), (3, .inl 1), (4, .inl (y + 1))] [] K := ihk
              change ez_wpk _ _ _ _ _ _ _ _ [(0, .inr (.inr 0)), (1, .inl b), (2, .inl (n : Int)), (3, .inl 1), (4, .inl y)] _ _
              repeat' (first | (intro hh; exfalso; omega) | (refine And.intro (by first | assumption | omega) ?_) | (refine And.intro rfl ?_) | (refine And.intro ?_ ?_) | (intro qq hq1 hq2 hq3; have hq4 := hq2 (by omega) (by omega); subst hq4) | (intro hh) | omega | exact trivial)
              all_goals exact ihk _ (by rw [← hX]; assumption)
          · by_cases ha : ez_and (ff_rules (ff_N N) y) n = 0
            · rw [show decide (ff_rules (ff_N N) y = 0 ∨ ¬ ez_and (ff_rules (ff_N N) y) n = 0) = false from decide_eq_false (by omega), Bool.and_false] at ihk
              have ihk : ∀ K : ez_M, ff_N K = ff_N M → cut 20 [(0, .inr (.inr 0)), (1, .inl b), (2, .inl (n : Int)), (3, .inl 0), (4, .inl (y + 1))] [] K := ihk
              cases o
              · change ez_wpk _ _ _ _ _ _ _ _ [(0, .inr (.inr 0)), (1, .inl b), (2, .inl (n : Int)), (3, .inl 0), (4, .inl y)] _ _
                repeat' (first | (intro hh; exfalso; omega) | (refine And.intro (by first | assumption | omega) ?_) | (refine And.intro rfl ?_) | (refine And.intro ?_ ?_) | (intro qq hq1 hq2 hq3; have hq4 := hq2 (by omega) (by omega); subst hq4) | (intro hh) | omega | exact trivial)
                all_goals exact ihk _ (by rw [← hX]; assumption)
              · change ez_wpk _ _ _ _ _ _ _ _ [(0, .inr (.inr 0)), (1, .inl b), (2, .inl (n : Int)), (3, .inl 1), (4, .inl y)] _ _
                repeat' (first | (intro hh; exfalso; omega) | (refine And.intro (by first | assumption | omega) ?_) | (refine And.intro rfl ?_) | (refine And.intro ?_ ?_) | (intro qq hq1 hq2 hq3; have hq4 := hq2 (by omega) (by omega); subst hq4) | (intro hh) | omega | exact trivial)
                all_goals exact ihk _ (by rw [← hX]; assumption)
            · rw [show decide (ff_rules (ff_N N) y = 0 ∨ ¬ ez_and (ff_rules (ff_N N) y) n = 0) = true from decide_eq_true (Or.inr ha), Bool.and_true] at ihk
              cases o
              · have ihk : ∀ K : ez_M, ff_N K = ff_N M → cut 20 [(0, .inr (.inr 0)), (1, .inl b), (2, .inl (n : Int)), (3, .inl 0), (4, .inl (y + 1))] [] K := ihk
                change ez_wpk _ _ _ _ _ _ _ _ [(0, .inr (.inr 0)), (1, .inl b), (2, .inl (n : Int)), (3, .inl 0), (4, .inl y)] _ _
                repeat' (first | (intro hh; exfalso; omega) | (refine And.intro (by first | assumption | omega) ?_) | (refine And.intro rfl ?_) | (refine And.intro ?_ ?_) | (intro qq hq1 hq2 hq3; have hq4 := hq2 (by omega) (by omega); subst hq4) | (intro hh) | omega | exact trivial)
                all_goals exact ihk _ (by rw [← hX]; assumption)
              · have ihk : ∀ K : ez_M, ff_N K = ff_N M → cut 20 [(0, .inr (.inr 0)), (1, .inl b), (2, .inl (n : Int)), (3, .inl 1), (4, .inl (y + 1))] [] K := ihk
                change ez_wpk _ _ _ _ _ _ _ _ [(0, .inr (.inr 0)), (1, .inl b), (2, .inl (n : Int)), (3, .inl 1), (4, .inl y)] _ _
                repeat' (first | (intro hh; exfalso; omega) | (refine And.intro (by first | assumption | omega) ?_) | (refine And.intro rfl ?_) | (refine And.intro ?_ ?_) | (intro qq hq1 hq2 hq3; have hq4 := hq2 (by omega) (by omega); subst hq4) | (intro hh) | omega | exact trivial)
                all_goals exact ihk _ (by rw [← hX]; assumption)
      have h0 := inner (M 0 13).toNat 0 true N (by omega) (by omega) hX (by rw [Bool.true_and]; exact hgv n)
      have h0 : cut 20 [(0, .inr (.inr 0)), (1, .inl b), (2, .inl (n : Int)), (3, .inl 1), (4, .inl 0)] [] N := h0
      refine hkut [(11, [0, 1, 2]), (20, [0, 1, 2, 3, 4])] 60 11 _ _ _ ?_
      repeat' (first | (intro hh; exfalso; omega) | (refine And.intro (by first | assumption | omega) ?_) | (refine And.intro rfl ?_) | (refine And.intro ?_ ?_) | (intro qq hq1 hq2 hq3; have hq4 := hq2 (by omega) (by omega); subst hq4) | (intro hh) | omega | exact trivial)
      all_goals exact h0
  have ho := outer 63 62 63 M (by omega) (by omega) (by omega) (by omega) rfl hsp
  refine hkut [(11, [0, 1, 2])] 60 5 _ _ _ ?_
  exact ho
theorem so_X6_fewest : ez_Sound LM yX6_fewest cX6_fewest 6 (some .int) 7 sp_X6_fewest := ez_sound (E := e_X6_fewest) (prog := p_X6_fewest) LM_ok (by decide +kernel) rfl (fun _ h => h) fo_X6 co_X6_ok (List.forall_mem_cons.mpr ⟨k_X6_185 (by decide), List.forall_mem_cons.mpr ⟨k_X6_199 (by decide), fun _ h => absurd h List.not_mem_nil⟩⟩) dp_X6_fewest b_X6_fewest
def sp_X6_middle : ez_Sp := fun as M Q => match as with | [.inr (.inr q), .inl c] => q = 0 ∧ (0 ≤ c ∧ c ≤ 9) ∧ (0 ≤ M 7 (11 * c + 3).toNat ∧ M 7 (11 * c + 3).toNat ≤ 599 ∧ 0 ≤ M 7 (11 * c + 4).toNat ∧ M 7 (11 * c + 4).toNat ≤ 599) ∧ Q (some (.inl (ff_mid (M 7) c))) M | _ => False
def e_X6_middle : ez_E := (fl_X6, co_X6, [], 0, 2)
set_option maxHeartbeats 4000000 in
set_option maxRecDepth 100000 in
theorem b_X6_middle : ez_Body LM e_X6_middle p_X6_middle sp_X6_middle := by
  intro as M Q has hM hsp
  unfold sp_X6_middle at hsp
  split at hsp
  rotate_left
  · exact hsp.elim
  rename_i q c
  have g_c : -2147483648 ≤ c ∧ c ≤ 2147483647 := ez_hd (ez_tl (has))
  obtain ⟨rfl, hv, hw, hsp⟩ := hsp
  unfold ff_mid at hsp
  refine ⟨Nat.le_of_ble_eq_true rfl, fun cut hcut hkut => hcut [] 60 0 _ _ _ ?_⟩
  repeat' (first | (intro hh; exfalso; omega) | (refine And.intro (by first | assumption | omega) ?_) | (refine And.intro rfl ?_) | (refine And.intro ?_ ?_) | (intro qq hq1 hq2 hq3; have hq4 := hq2 (by omega) (by omega); subst hq4) | (intro hh) | omega | exact trivial)
  all_goals exact hsp
theorem so_X6_middle : ez_Sound LM yX6_middle cX6_middle 2 (some .int) 0 sp_X6_middle := ez_sound (E := e_X6_middle) (prog := p_X6_middle) LM_ok (by decide +kernel) rfl (fun _ h => h) fo_X6 co_X6_ok (fun _ h => absurd h List.not_mem_nil) dp_X6_middle b_X6_middle
def sp_X6_aside : ez_Sp := fun as M Q => match as with | [.inr (.inr q), .inl c] => q = 0 ∧ (0 ≤ c ∧ c ≤ 9) ∧ (-100000 ≤ M 7 (11 * c + 1).toNat ∧ M 7 (11 * c + 1).toNat ≤ 100000) ∧ Q (some (.inl (ff_aside (M 7 (11 * c + 1).toNat)))) M | _ => False
def e_X6_aside : ez_E := (fl_X6, co_X6, [], 0, 3)
set_option maxHeartbeats 4000000 in
set_option maxRecDepth 100000 in
theorem b_X6_aside : ez_Body LM e_X6_aside p_X6_aside sp_X6_aside := by
  intro as M Q has hM hsp
  unfold sp_X6_aside at hsp
  split at hsp
  rotate_left
  · exact hsp.elim
  rename_i q c
  have g_c : -2147483648 ≤ c ∧ c ≤ 2147483647 := ez_hd (ez_tl (has))
  obtain ⟨rfl, hv, hw, hsp⟩ := hsp
  unfold ff_aside at hsp
  refine ⟨Nat.le_of_ble_eq_true rfl, fun cut hcut hkut => hcut [] 60 0 _ _ _ ?_⟩
  repeat' (first | (intro hh; exfalso; omega) | (refine And.intro (by first | assumption | omega) ?_) | (refine And.intro rfl ?_) | (refine And.intro ?_ ?_) | (intro qq hq1 hq2 hq3; have hq4 := hq2 (by omega) (by omega); subst hq4) | (intro hh) | omega | exact trivial)
  all_goals exact ez_ret hsp (by omega)
theorem so_X6_aside : ez_Sound LM yX6_aside cX6_aside 3 (some .int) 0 sp_X6_aside := ez_sound (E := e_X6_aside) (prog := p_X6_aside) LM_ok (by decide +kernel) rfl (fun _ h => h) fo_X6 co_X6_ok (fun _ h => absurd h List.not_mem_nil) dp_X6_aside b_X6_aside
theorem k_X6_220 {d : Nat} (h : 0 < d) : ez_CallOK LM RX6 d (220, 6+1, 1, sp_X6_middle) := ez_callV (y := yX6_middle) (bytes := cX6_middle) so_X6_middle h (by decide) q_1011 q_78 ⟨by decide +kernel, by decide +kernel, by decide +kernel⟩ (Or.inl q_1008) q_1010 q_68 (T := TX6) (N := 28) rfl
def sp_X6_master : ez_Sp := fun as M Q => match as with | [.inr (.inr q), .inl x, .inl y] => q = 0 ∧ ff_Inv (ff_N M) ∧ (∀ M' : ez_M, ff_N M' = ff_N M → Q (some (.inl (op_master (ff_N M) x y))) M') | _ => False
def e_X6_master : ez_E := (fl_X6, co_X6, [(69, 0, 3, sp_X6_in), (220, 6+1, 1, sp_X6_middle), (88, 0, 2, sp_X6_offOf), (199, 0, 1, sp_X6_bits)], 0, 9)
set_option maxHeartbeats 4000000 in
set_option maxRecDepth 100000 in
theorem b_X6_master : ez_Body LM e_X6_master p_X6_master sp_X6_master := by
  intro as M Q has hM hsp
  unfold sp_X6_master at hsp
  split at hsp
  rotate_left
  · exact hsp.elim
  rename_i q x y
  have g_x : -2147483648 ≤ x ∧ x ≤ 2147483647 := ez_hd (ez_tl (has))
  have g_y : -2147483648 ≤ y ∧ y ≤ 2147483647 := ez_hd (ez_tl (ez_tl (has)))
  obtain ⟨rfl, hI, hsp⟩ := hsp
  refine ⟨Nat.le_of_ble_eq_true rfl, fun cut hcut hkut => ?_⟩
  suffices hgo : ∀ M' : ez_M, ff_N M' = ff_N M → cut 5 [(0, .inr (.inr 0)), (1, .inl x), (2, .inl y)] [] M' by
    refine hkut [(5, [0, 1, 2])] 60 0 _ _ _ ?_
    exact hgo _ (ff_N_th M)
  clear hM
  intro M hth
  rw [← hth] at hI hsp
  clear hth
  have hn := ff_n_N hI
  have hsp := hsp M rfl
  unfold op_master at hsp
  by_cases h1 : (0 ≤ x ∧ x ≤ 180) ∧ (0 ≤ y ∧ y ≤ 599)
  · rw [if_pos h1] at hsp
    have hP := ff_shl_n hn
    generalize hPe : ez_shl 1 (M 0 13) = P at hP
    have hPx : ez_shl 1 (ff_N M 1 4) = P := hPe
    rw [hPx] at hsp
    generalize hg : ff_prs (ff_N M) x y = g at hsp
    have hgv : ∀ s, ff_al (fun a => ff_al (fun b => decide (ff_on s a = true ∧ ff_on s b = true → ff_lkp (ff_N M) x y a b = true)) a.toNat 0) (M 0 13).toNat 0 = g s := fun s => by rw [← hg]; rfl
    have outer : ∀ (n : Nat) (s b : Int), s + n = P → 0 ≤ s → 0 ≤ b → b ≤ 1024 → Q (some (.inl (ff_ms g n s b))) M → cut 37 [(0, .inr (.inr 0)), (1, .inl x), (2, .inl y), (3, .inl b), (4, .inl s)] [] M := by
      intro n
      induction n with
      | zero =>
        intro s b hs h0 hb0 hb1 hq
        refine hkut [(37, [0, 1, 2, 3, 4]), (54, [0, 1, 2, 3, 4, 5, 6])] 60 37 _ _ _ ?_
        repeat' (first | (intro hh; exfalso; omega) | (refine And.intro (by first | assumption | omega) ?_) | (refine And.intro rfl ?_) | (refine And.intro ?_ ?_) | (intro qq hq1 hq2 hq3; have hq4 := hq2 (by omega) (by omega); subst hq4) | (intro hh) | omega | exact trivial)
        all_goals exact hq
      | succ n ih =>
        intro s b hs h0 hb0 hb1 hq
        simp only [ff_ms] at hq
        have fin : cut 179 [(0, .inr (.inr 0)), (1, .inl x), (2, .inl y), (3, .inl b), (4, .inl s), (5, .inl (ff_bi (g s)))] [] M := by
          refine hkut [(37, [0, 1, 2, 3, 4])] 60 179 _ _ _ ?_
          unfold ff_bi
          cases hc : g s
          · rw [if_neg (by decide)]
            rw [hc] at hq
            simp only [Bool.false_eq_true, false_and, if_false] at hq
            have ih := ih (s + 1) b (by omega) (by omega) hb0 hb1 hq
            repeat' (first | (intro hh; exfalso; omega) | (refine And.intro (by first | assumption | omega) ?_) | (refine And.intro rfl ?_) | (refine And.intro ?_ ?_) | (intro qq hq1 hq2 hq3; have hq4 := hq2 (by omega) (by omega); subst hq4) | (intro hh) | omega | exact trivial)
            all_goals exact ih
          · rw [if_pos rfl]
            rw [hc] at hq
            simp only [true_and] at hq
            by_cases hp : ff_pop b < ff_pop s
            · rw [if_pos hp] at hq
              have ih := ih (s + 1) s (by omega) (by omega) (by omega) (by omega) hq
              repeat' (first | (intro hh; exfalso; omega) | (refine And.intro (by first | assumption | omega) ?_) | (refine And.intro rfl ?_) | (refine And.intro ?_ ?_) | (intro qq hq1 hq2 hq3; have hq4 := hq2 (by omega) (by omega); subst hq4) | (intro hh) | omega | exact trivial)
              all_goals exact ih
            · rw [if_neg hp] at hq
              have ih := ih (s + 1) b (by omega) (by omega) hb0 hb1 hq
              repeat' (first | (intro hh; exfalso; omega) | (refine And.intro (by first | assumption | omega) ?_) | (refine And.intro rfl ?_) | (refine And.intro ?_ ?_) | (intro qq hq1 hq2 hq3; have hq4 := hq2 (by omega) (by omega); subst hq4) | (intro hh) | omega | exact trivial)
              all_goals exact ih
        have inner : ∀ (c : Int) (z : Bool), 0 ≤ c → c < M 0 13 → cut 54 [(0, .inr (.inr 0)), (1, .inl x), (2, .inl y), (3, .inl b), (4, .inl s), (5, .inl (ff_bi z)), (6, .inl (c + 1))] [] M → ∀ (k : Nat) (o : Int) (w : Bool), o + k = c → 0 ≤ o → (w && ff_al (fun b => decide (ff_on s c = true ∧ ff_on s b = true → ff_lkp (ff_N M) x y c b = true)) k o) = z → cut 66 [(0, .inr (.inr 0)), (1, .inl x), (2, .inl y), (3, .inl b), (4, .inl s), (5, .inl (ff_bi w)), (6, .inl c), (7, .inl o)] [] M := by
          intro c z hc0 hc1 hc2 k
          have hcc := ff_ch_N hI (c := c) hc0 hc1
          have hcm := ff_mid_r hcc
          unfold ff_ch at hcc
          induction k with
          | zero =>
            intro o w ho h0 hw
            simp only [ff_al, Bool.and_true] at hw
            subst hw
            refine hkut [(66, [0, 1, 2, 3, 4, 5, 6, 7]), (54, [0, 1, 2, 3, 4, 5, 6])] 60 66 _ _ _ ?_
            repeat' (first | (intro hh; exfalso; omega) | (refine And.intro (by first | assumption | omega) ?_) | (refine And.intro rfl ?_) | (refine And.intro ?_ ?_) | (intro qq hq1 hq2 hq3; have hq4 := hq2 (by omega) (by omega); subst hq4) | (intro hh) | omega | exact trivial)
            all_goals exact hc2
          | succ k ihk =>
            intro o w ho h0 hw
            simp only [ff_al] at hw
            rw [← Bool.and_assoc] at hw
            have hoo := ff_ch_N hI (c := o) (by omega) (by omega)
            have hom := ff_mid_r hoo
            unfold ff_ch at hoo
            have ihk := ihk (o + 1) _ (by omega) (by omega) hw
            refine hkut [(66, [0, 1, 2, 3, 4, 5, 6, 7]), (54, [0, 1, 2, 3, 4, 5, 6])] 80 66 _ _ _ ?_
            by_cases hs1 : ez_and (ez_shr s c) 1 = 1
            · by_cases hs2 : ez_and (ez_shr s o) 1 = 1
              · have hon : ff_on s c = true ∧ ff_on s o = true := ⟨decide_eq_true hs1, decide_eq_true hs2⟩
                have hdl : decide (ff_on s c = true ∧ ff_on s o = true → ff_lkp (ff_N M) x y c o = true) = ff_lkp (ff_N M) x y c o := by
                  rw [Bool.eq_iff_iff, decide_eq_true_eq]
                  exact ⟨fun h => h hon, fun h _ => h⟩
                rw [hdl] at ihk
                by_cases hlk : ff_off (M 7 (11 * c + 1).toNat) (M 7 (11 * o + 1).toNat) ≤ x ∧ ((ff_mid (M 7) c - ff_mid (M 7) o).natAbs : Int) ≤ y
                · have el : ff_lkp (ff_N M) x y c o = true := decide_eq_true hlk
                  rw [el, Bool.and_true] at ihk
                  cases w
                  · have ihk : cut 66 [(0, .inr (.inr 0)), (1, .inl x), (2, .inl y), (3, .inl b), (4, .inl s), (5, .inl 0), (6, .inl c), (7, .inl (o + 1))] [] M := ihk
                    change ez_wpk _ _ _ _ _ _ _ _ [(0, .inr (.inr 0)), (1, .inl x), (2, .inl y), (3, .inl b), (4, .inl s), (5, .inl 0), (6, .inl c), (7, .inl o)] _ _
                    repeat' (first | (intro hh; exfalso; omega) | (refine And.intro (by first | assumption | omega) ?_) | (refine And.intro rfl ?_) | (refine And.intro ?_ ?_) | (intro qq hq1 hq2 hq3; have hq4 := hq2 (by omega) (by omega); subst hq4) | (intro hh) | omega | exact trivial)
                    all_goals exact ihk
                  · have ihk : cut 66 [(0, .inr (.inr 0)), (1, .inl x), (2, .inl y), (3, .inl b), (4, .inl s), (5, .inl 1), (6, .inl c), (7, .inl (o + 1))] [] M := ihk
                    change ez_wpk _ _ _ _ _ _ _ _ [(0, .inr (.inr 0)), (1, .inl x), (2, .inl y), (3, .inl b), (4, .inl s), (5, .inl 1), (6, .inl c), (7, .inl o)] _ _
                    repeat' (first | (intro hh; exfalso; omega) | (refine And.intro (by first | assumption | omega) ?_) | (refine And.intro rfl ?_) | (refine And.intro ?_ ?_) | (intro qq hq1 hq2 hq3; have hq4 := hq2 (by omega) (by omega); subst hq4) | (intro hh) | omega | exact trivial)
                    all_goals exact ihk
                · have el : ff_lkp (ff_N M) x y c o = false := decide_eq_false hlk
                  rw [el, Bool.and_false] at ihk
                  have ihk : cut 66 [(0, .inr (.inr 0)), (1, .inl x), (2, .inl y), (3, .inl b), (4, .inl s), (5, .inl 0), (6, .inl c), (7, .inl (o + 1))] [] M := ihk
                  cases w
                  · change ez_wpk _ _ _ _ _ _ _ _ [(0, .inr (.inr 0)), (1, .inl x), (2, .inl y), (3, .inl b), (4, .inl s), (5, .inl 0), (6, .inl c), (7, .inl o)] _ _
                    repeat' (first | (intro hh; exfalso; omega) | (refine And.intro (by first | assumption | omega) ?_) | (refine And.intro rfl ?_) | (refine And.intro ?_ ?_) | (intro qq hq1 hq2 hq3; have hq4 := hq2 (by omega) (by omega); subst hq4) | (intro hh) | omega | exact trivial)
                    all_goals exact ihk
                  · change ez_wpk _ _ _ _ _ _ _ _ [(0, .inr (.inr 0)), (1, .inl x), (2, .inl y), (3, .inl b), (4, .inl s), (5, .inl 1), (6, .inl c), (7, .inl o)] _ _
                    repeat' (first | (intro hh; exfalso; omega) | (refine And.intro (by first | assumption | omega) ?_) | (refine And.intro rfl ?_) | (refine And.intro ?_ ?_) | (intro qq hq1 hq2 hq3; have hq4 := hq2 (by omega) (by omega); subst hq4) | (intro hh) | omega | exact trivial)
                    all_goals exact ihk
              · have hon : ¬ (ff_on s c = true ∧ ff_on s o = true) := fun h => hs2 (of_decide_eq_true h.2)
                have hdl : decide (ff_on s c = true ∧ ff_on s o = true → ff_lkp (ff_N M) x y c o = true) = true := decide_eq_true (fun h => absurd h hon)
                rw [hdl, Bool.and_true] at ihk
                repeat' (first | (intro hh; exfalso; omega) | (refine And.intro (by first | assumption | omega) ?_) | (refine And.intro rfl ?_) | (refine And.intro ?_ ?_) | (intro qq hq1 hq2 hq3; have hq4 := hq2 (by omega) (by omega); subst hq4) | (intro hh) | omega | exact trivial)
                all_goals exact ihk
            · have hon : ¬ (ff_on s c = true ∧ ff_on s o = true) := fun h => hs1 (of_decide_eq_true h.1)
              have hdl : decide (ff_on s c = true ∧ ff_on s o = true → ff_lkp (ff_N M) x y c o = true) = true := decide_eq_true (fun h => absurd h hon)
              rw [hdl, Bool.and_true] at ihk
              repeat' (first | (intro hh; exfalso; omega) | (refine And.intro (by first | assumption | omega) ?_) | (refine And.intro rfl ?_) | (refine And.intro ?_ ?_) | (intro qq hq1 hq2 hq3; have hq4 := hq2 (by omega) (by omega); subst hq4) | (intro hh) | omega | exact trivial)
              all_goals exact ihk
        have mid : ∀ (k : Nat) (c : Int) (w : Bool), c + k = M 0 13 → 0 ≤ c → (w && ff_al (fun a => ff_al (fun b => decide (ff_on s a = true ∧ ff_on s b = true → ff_lkp (ff_N M) x y a b = true)) a.toNat 0) k c) = g s → cut 54 [(0, .inr (.inr 0)), (1, .inl x), (2, .inl y), (3, .inl b), (4, .inl s), (5, .inl (ff_bi w)), (6, .inl c)] [] M := by
          intro k
          induction k with
          | zero =>
            intro c w hc h0 hw
            simp only [ff_al, Bool.and_true] at hw
            subst hw
            refine hkut [(66, [0, 1, 2, 3, 4, 5, 6, 7]), (54, [0, 1, 2, 3, 4, 5, 6]), (179, [0, 1, 2, 3, 4, 5])] 60 54 _ _ _ ?_
            repeat' (first | (intro hh; exfalso; omega) | (refine And.intro (by first | assumption | omega) ?_) | (refine And.intro rfl ?_) | (refine And.intro ?_ ?_) | (intro qq hq1 hq2 hq3; have hq4 := hq2 (by omega) (by omega); subst hq4) | (intro hh) | omega | exact trivial)
            all_goals exact fin
          | succ k ihk =>
            intro c w hc h0 hw
            simp only [ff_al] at hw
            rw [← Bool.and_assoc] at hw
            have ihk := ihk (c + 1) _ (by omega) (by omega) hw
            have hin := inner c _ h0 (by omega) ihk c.toNat 0 w (by omega) (by omega) rfl
            refine hkut [(66, [0, 1, 2, 3, 4, 5, 6, 7]), (54, [0, 1, 2, 3, 4, 5, 6]), (179, [0, 1, 2, 3, 4, 5])] 60 54 _ _ _ ?_
            repeat' (first | (intro hh; exfalso; omega) | (refine And.intro (by first | assumption | omega) ?_) | (refine And.intro rfl ?_) | (refine And.intro ?_ ?_) | (intro qq hq1 hq2 hq3; have hq4 := hq2 (by omega) (by omega); subst hq4) | (intro hh) | omega | exact trivial)
            all_goals exact hin
        have hm := mid (M 0 13).toNat 0 true (by omega) (by omega) (by rw [Bool.true_and]; exact hgv s)
        have hm : cut 54 [(0, .inr (.inr 0)), (1, .inl x), (2, .inl y), (3, .inl b), (4, .inl s), (5, .inl 1), (6, .inl 0)] [] M := hm
        refine hkut [(37, [0, 1, 2, 3, 4]), (54, [0, 1, 2, 3, 4, 5, 6])] 60 37 _ _ _ ?_
        repeat' (first | (intro hh; exfalso; omega) | (refine And.intro (by first | assumption | omega) ?_) | (refine And.intro rfl ?_) | (refine And.intro ?_ ?_) | (intro qq hq1 hq2 hq3; have hq4 := hq2 (by omega) (by omega); subst hq4) | (intro hh) | omega | exact trivial)
        all_goals exact hm
    have ho := outer (P - 1).toNat 1 0 (by omega) (by omega) (by omega) (by omega) hsp
    refine hkut [(37, [0, 1, 2, 3, 4])] 60 5 _ _ _ ?_
    repeat' (first | (intro hh; exfalso; omega) | (refine And.intro (by first | assumption | omega) ?_) | (refine And.intro rfl ?_) | (refine And.intro ?_ ?_) | (intro qq hq1 hq2 hq3; have hq4 := hq2 (by omega) (by omega); subst hq4) | (intro hh) | omega | exact trivial)
    all_goals exact ho
  · rw [if_neg h1] at hsp
    refine hkut [] 60 5 _ _ _ ?_
    repeat' (first | (intro hh; exfalso; omega) | (refine And.intro (by first | assumption | omega) ?_) | (refine And.intro rfl ?_) | (refine And.intro ?_ ?_) | (intro qq hq1 hq2 hq3; have hq4 := hq2 (by omega) (by omega); subst hq4) | (intro hh) | omega | exact trivial)
    all_goals exact hsp
theorem so_X6_master : ez_Sound LM yX6_master cX6_master 9 (some .int) 1 sp_X6_master := ez_sound (E := e_X6_master) (prog := p_X6_master) LM_ok (by decide +kernel) rfl (fun _ h => h) fo_X6 co_X6_ok (List.forall_mem_cons.mpr ⟨k_X6_69 (by decide), List.forall_mem_cons.mpr ⟨k_X6_220 (by decide), List.forall_mem_cons.mpr ⟨k_X6_88 (by decide), List.forall_mem_cons.mpr ⟨k_X6_199 (by decide), fun _ h => absurd h List.not_mem_nil⟩⟩⟩⟩) dp_X6_master b_X6_master
