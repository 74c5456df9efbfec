theorem ff_gnd_N {M : ez_M} (hI : ff_Inv (ff_N M)) (c : Int) : ff_nd (M 0 7) (M 3) (M 4) (ff_mid (M 7) c) = ff_gnd (ff_N M) c := by
  have hb := ff_bk_N hI
  rw [← ff_nd_N M hb.1.1]
  rfl
theorem k_X6_223 {d : Nat} (h : 0 < d) : ez_CallOK LM RX6 d (223, 6+1, 1, sp_X6_aside) := ez_callV (y := yX6_aside) (bytes := cX6_aside) so_X6_aside h (by decide) q_1015 q_78 ⟨by decide +kernel, by decide +kernel, by decide +kernel⟩ (Or.inl q_1012) q_1014 q_69 (T := TX6) (N := 28) rfl
def sp_X6_goesBy : ez_Sp := fun as M Q => match as with | [.inr (.inr q)] => q = 0 ∧ ff_Inv (ff_N M) ∧ (∀ j : Nat, (j : Int) < M 0 13 → 0 ≤ M 16 j ∧ M 16 j < M 0 13) ∧ Q (some (.inl (ff_so (ff_gnd (ff_N M)) (fun k => ff_gln (ff_N M) (M 16 k.toNat)) (M 0 13).toNat 0))) M | _ => False
def e_X6_goesBy : ez_E := (fl_X6, co_X6, [(220, 6+1, 1, sp_X6_middle), (147, 6+1, 1, sp_X6_needleOf), (223, 6+1, 1, sp_X6_aside)], 0, 6)
set_option maxHeartbeats 4000000 in
set_option maxRecDepth 100000 in
theorem b_X6_goesBy : ez_Body LM e_X6_goesBy p_X6_goesBy sp_X6_goesBy := by
  intro as M Q has hM hsp
  unfold sp_X6_goesBy at hsp
  split at hsp
  rotate_left
  · exact hsp.elim
  rename_i q
  obtain ⟨rfl, hI, ht, hsp⟩ := hsp
  have hn := ff_n_N hI
  have hb := ff_bk_N hI
  refine ⟨Nat.le_of_ble_eq_true rfl, fun cut hcut hkut => ?_⟩
  generalize hnd : ff_gnd (ff_N M) = nd at hsp
  generalize hln : (fun k : Int => ff_gln (ff_N M) (M 16 k.toNat)) = ln at hsp
  have hnv : ∀ k, ff_nd (M 0 7) (M 3) (M 4) (ff_mid (M 7) k) = nd k := fun k => by rw [← hnd]; exact ff_gnd_N hI k
  have hlv : ∀ k, ff_aside (M 7 (11 * M 16 k.toNat + 1).toNat) = ln k := fun k => by rw [← hln]; rfl
  have inner : ∀ (n : Nat) (a b z r : Int), b + n = a → 0 ≤ b → a < M 0 13 → -1000 ≤ z - n → z + n ≤ 1000 → z + ff_si nd ln a n b = r → cut 4 [(0, .inr (.inr 0)), (1, .inl r), (2, .inl (a + 1))] [] M → cut 14 [(0, .inr (.inr 0)), (1, .inl z), (2, .inl a), (3, .inl b)] [] M := by
    intro n
    induction n with
    | zero =>
      intro a b z r hb2 h0 ha hz0 hz1 hr hc
      simp only [ff_si, Int.add_zero] at hr
      subst hr
      refine hkut [(14, [0, 1, 2, 3]), (4, [0, 1, 2])] 60 14 _ _ _ ?_
      repeat' (first | (intro hh; exfalso; omega) | (refine And.intro (by first | assumption | omega) ?_) | (refine And.intro rfl ?_) | (refine And.intro ?_ ?_) | (intro qq hq1 hq2 hq3; have hq4 := hq2 (by omega) (by omega); subst hq4) | (intro hh) | omega | exact trivial)
      all_goals exact hc
    | succ n ih =>
      intro a b z r hb2 h0 ha hz0 hz1 hr hc
      simp only [ff_si] at hr
      have hca := ff_ch_N hI (c := a) (by omega) (by omega)
      have hcb := ff_ch_N hI (c := b) (by omega) (by omega)
      have hma := ff_mid_r hca
      have hmb := ff_mid_r hcb
      have hna := ff_nd_r hb (y := ff_mid (M 7) a) hma.1 hma.2
      have hnb := ff_nd_r hb (y := ff_mid (M 7) b) hmb.1 hmb.2
      have hta := ht a.toNat (by omega)
      have htb := ht b.toNat (by omega)
      have hda := ff_ch_N hI (c := M 16 a.toNat) hta.1 hta.2
      have hdb := ff_ch_N hI (c := M 16 b.toNat) htb.1 htb.2
      unfold ff_ch at hca hcb hda hdb
      have haa : -1000 ≤ ff_aside (M 7 (11 * M 16 a.toNat + 1).toNat) ∧ ff_aside (M 7 (11 * M 16 a.toNat + 1).toNat) ≤ 1000 := by
        unfold ff_aside
        split <;> omega
      have hab : -1000 ≤ ff_aside (M 7 (11 * M 16 b.toNat + 1).toNat) ∧ ff_aside (M 7 (11 * M 16 b.toNat + 1).toNat) ≤ 1000 := by
        unfold ff_aside
        split <;> omega
      have hm := ff_sgm (nd a) (nd b) (ln a) (ln b)
      have ih := ih a (b + 1) (z + ff_sg (nd a) (nd b) * ff_sg (ln a) (ln b)) r (by omega) (by omega) ha (by omega) (by omega) (by omega) hc
      rw [← hnv a, ← hnv b, ← hlv a, ← hlv b] at ih hm
      generalize hA1 : ff_nd (M 0 7) (M 3) (M 4) (ff_mid (M 7) a) = A1 at ih hm hna
      generalize hB1 : ff_nd (M 0 7) (M 3) (M 4) (ff_mid (M 7) b) = B1 at ih hm hnb
      generalize hA2 : ff_aside (M 7 (11 * M 16 a.toNat + 1).toNat) = A2 at ih hm haa
      generalize hB2 : ff_aside (M 7 (11 * M 16 b.toNat + 1).toNat) = B2 at ih hm hab
      unfold ff_sg at ih hm
      refine hkut [(14, [0, 1, 2, 3]), (4, [0, 1, 2])] 100 14 _ _ _ ?_
      by_cases h1 : A1 = B1
      · rw [if_pos h1, Int.zero_mul] at ih hm
        subst hA1 hB1 hA2 hB2
        repeat' (first | (intro hh; exfalso; omega) | (refine And.intro (by first | assumption | omega) ?_) | (refine And.intro rfl ?_) | (refine And.intro ?_ ?_) | (intro qq hq1 hq2 hq3; have hq4 := hq2 (by omega) (by omega); subst hq4) | (intro hh) | omega | exact trivial)
        all_goals exact ih
      · by_cases h2 : A2 = B2
        · rw [if_pos h2, Int.mul_zero] at ih hm
          subst hA1 hB1 hA2 hB2
          repeat' (first | (intro hh; exfalso; omega) | (refine And.intro (by first | assumption | omega) ?_) | (refine And.intro rfl ?_) | (refine And.intro ?_ ?_) | (intro qq hq1 hq2 hq3; have hq4 := hq2 (by omega) (by omega); subst hq4) | (intro hh) | omega | exact trivial)
          all_goals exact ih
        · rw [if_neg h1, if_neg h2] at ih hm
          by_cases h3 : A1 < B1
          · rw [if_pos h3] at ih hm
            by_cases h4 : A2 < B2
            · rw [if_pos h4] at ih hm
              subst hA1 hB1 hA2 hB2
              repeat' (first | (intro hh; exfalso; omega) | (refine And.intro (by first | assumption | omega) ?_) | (refine And.intro rfl ?_) | (refine And.intro ?_ ?_) | (intro qq hq1 hq2 hq3; have hq4 := hq2 (by omega) (by omega); subst hq4) | (intro hh) | omega | exact trivial)
              all_goals exact ih
            · rw [if_neg h4] at ih hm
              subst hA1 hB1 hA2 hB2
              repeat' (first | (intro hh; exfalso; omega) | (refine And.intro (by first | assumption | omega) ?_) | (refine And.intro rfl ?_) | (refine And.intro ?_ ?_) | (intro qq hq1 hq2 hq3; have hq4 := hq2 (by omega) (by omega); subst hq4) | (intro hh) | omega | exact trivial)
              all_goals exact ih
          · rw [if_neg h3] at ih hm
            by_cases h4 : A2 < B2
            · rw [if_pos h4] at ih hm
              subst hA1 hB1 hA2 hB2
              repeat' (first | (intro hh; exfalso; omega) | (refine And.intro (by first | assumption | omega) ?_) | (refine And.intro rfl ?_) | (refine And.intro ?_ ?_) | (intro qq hq1 hq2 hq3; have hq4 := hq2 (by omega) (by omega); subst hq4) | (intro hh) | omega | exact trivial)
              all_goals exact ih
            · rw [if_neg h4] at ih hm
              subst hA1 hB1 hA2 hB2
              repeat' (first | (intro hh; exfalso; omega) | (refine And.intro (by first | assumption | omega) ?_) | (refine And.intro rfl ?_) | (refine And.intro ?_ ?_) | (intro qq hq1 hq2 hq3; have hq4 := hq2 (by omega) (by omega); subst hq4) | (intro hh) | omega | exact trivial)
              all_goals exact ih
  have outer : ∀ (n : Nat) (a z : Int), a + n = M 0 13 → 0 ≤ a → -(10 * a) ≤ z → z ≤ 10 * a → Q (some (.inl (z + ff_so nd ln n a))) M → cut 4 [(0, .inr (.inr 0)), (1, .inl z), (2, .inl a)] [] M := by
    intro n
    induction n with
    | zero =>
      intro a z ha h0 hz0 hz1 hq
      simp only [ff_so, Int.add_zero] at hq
      refine hkut [(14, [0, 1, 2, 3]), (4, [0, 1, 2])] 60 4 _ _ _ ?_
      repeat' (first | (intro hh; exfalso; omega) | (refine And.intro (by first | assumption | omega) ?_) | (refine And.intro rfl ?_) | (refine And.intro ?_ ?_) | (intro qq hq1 hq2 hq3; have hq4 := hq2 (by omega) (by omega); subst hq4) | (intro hh) | omega | exact trivial)
      all_goals exact hq
    | succ n ih =>
      intro a z ha h0 hz0 hz1 hq
      simp only [ff_so] at hq
      have hr := ff_si_r nd ln a a.toNat 0
      have ih := ih (a + 1) (z + ff_si nd ln a a.toNat 0) (by omega) (by omega) (by omega) (by omega) (ez_ret hq (by omega))
      have hi := inner a.toNat a 0 z _ (by omega) (by omega) (by omega) (by omega) (by omega) rfl ih
      refine hkut [(14, [0, 1, 2, 3]), (4, [0, 1, 2])] 60 4 _ _ _ ?_
      repeat' (first | (intro hh; exfalso; omega) | (refine And.intro (by first | assumption | omega) ?_) | (refine And.intro rfl ?_) | (refine And.intro ?_ ?_) | (intro qq hq1 hq2 hq3; have hq4 := hq2 (by omega) (by omega); subst hq4) | (intro hh) | omega | exact trivial)
      all_goals exact hi
  refine hkut [(4, [0, 1, 2])] 60 0 _ _ _ ?_
  exact outer (M 0 13).toNat 0 0 (by omega) (by omega) (by omega) (by omega) (ez_ret hsp (by omega))
theorem so_X6_goesBy : ez_Sound LM yX6_goesBy cX6_goesBy 6 (some .int) 1 sp_X6_goesBy := ez_sound (E := e_X6_goesBy) (prog := p_X6_goesBy) LM_ok (by decide +kernel) rfl (fun _ h => h) fo_X6 co_X6_ok (List.forall_mem_cons.mpr ⟨k_X6_220 (by decide), List.forall_mem_cons.mpr ⟨k_X6_147 (by decide), List.forall_mem_cons.mpr ⟨k_X6_223 (by decide), fun _ h => absurd h List.not_mem_nil⟩⟩⟩) dp_X6_goesBy b_X6_goesBy
theorem k_X6_226 {d : Nat} (h : 1 < d) : ez_CallOK LM RX6 d (226, 6+1, 0, sp_X6_goesBy) := ez_callV (y := yX6_goesBy) (bytes := cX6_goesBy) so_X6_goesBy h (by decide) q_1007 q_78 ⟨by decide +kernel, by decide +kernel, by decide +kernel⟩ (Or.inl q_1004) q_1006 q_67 (T := TX6) (N := 28) rfl
def sp_X6_goesNow : ez_Sp := fun as M Q => match as with | [.inr (.inr q)] => q = 0 ∧ ff_Inv (ff_N M) ∧ ∀ N : ez_M, ff_N N = ff_N M → Q (some (.inl (ff_goes (ff_N M)))) N | _ => False
def e_X6_goesNow : ez_E := (fl_X6, co_X6, [(226, 6+1, 0, sp_X6_goesBy)], 0, 2)
set_option maxHeartbeats 4000000 in
set_option maxRecDepth 100000 in
theorem b_X6_goesNow : ez_Body LM e_X6_goesNow p_X6_goesNow sp_X6_goesNow := by
  intro as M Q has hM hsp
  unfold sp_X6_goesNow at hsp
  split at hsp
  rotate_left
  · exact hsp.elim
  rename_i q
  obtain ⟨rfl, hI, hsp⟩ := hsp
  have hn := ff_n_N hI
  refine ⟨Nat.le_of_ble_eq_true rfl, fun cut hcut hkut => ?_⟩
  have loop : ∀ (n j : Nat) (N : ez_M), j + n = 10 → ff_N N = ff_N M → (∀ i : Nat, i < j → N 16 i = i) → cut 2 [(0, .inr (.inr 0)), (1, .inl (j : Int))] [] N := by
    intro n
    induction n with
    | zero =>
      intro j N hj hX ht
      have h13 : N 0 13 = M 0 13 := congrFun (congrFun hX 1) 4
      have hIN : ff_Inv (ff_N N) := by rw [hX]; exact hI
      have he : ff_so (ff_gnd (ff_N N)) (fun k => ff_gln (ff_N N) (N 16 k.toNat)) (N 0 13).toNat 0 = ff_goes (ff_N M) := by
        rw [hX, h13]
        unfold ff_goes
        show ff_so _ _ (M 0 13).toNat 0 = ff_so _ _ (M 0 13).toNat 0
        refine ff_so_congr (N := M 0 13) (fun k hk0 hk1 => ⟨rfl, ?_⟩) _ 0 (by omega) (by omega)
        show ff_gln _ (N 16 k.toNat) = _
        rw [ht _ (by omega), show ((k.toNat : Nat) : Int) = k by omega]
      have ht2 : ∀ i : Nat, (i : Int) < N 0 13 → 0 ≤ N 16 i ∧ N 16 i < N 0 13 := fun i hi => by
        rw [ht i (by omega)]
        omega
      have hsp := hsp N hX
      rw [← he] at hsp
      refine hkut [(2, [0, 1])] 60 2 _ _ _ ?_
      repeat' (first | (intro hh; exfalso; omega) | (refine And.intro (by first | assumption | omega) ?_) | (refine And.intro rfl ?_) | (refine And.intro ?_ ?_) | (intro qq hq1 hq2 hq3; have hq4 := hq2 (by omega) (by omega); subst hq4) | (intro hh) | omega | exact trivial)
      all_goals first | exact ht2 | exact hsp
    | succ n ih =>
      intro j N hj hX ht
      have ih := ih (j + 1) (ez_up N 16 j j) (by omega) (by rw [ff_N_scr _ 16 _ _ (by omega), hX]) (fun i hi => by
        by_cases hij : i = j
        · subst hij
          simp [ez_up]
        · simp [ez_up, hij]
          exact ht i (by omega))
      refine hkut [(2, [0, 1])] 60 2 _ _ _ ?_
      repeat' (first | (intro hh; exfalso; omega) | (refine And.intro (by first | assumption | omega) ?_) | (refine And.intro rfl ?_) | (refine And.intro ?_ ?_) | (intro qq hq1 hq2 hq3; have hq4 := hq2 (by omega) (by omega); subst hq4) | (intro hh) | omega | exact trivial)
      all_goals exact ih
  refine hkut [(2, [0, 1])] 60 0 _ _ _ ?_
  exact loop 10 0 M (by omega) rfl (fun i hi => by omega)
theorem so_X6_goesNow : ez_Sound LM yX6_goesNow cX6_goesNow 2 (some .int) 2 sp_X6_goesNow := ez_sound (E := e_X6_goesNow) (prog := p_X6_goesNow) LM_ok (by decide +kernel) rfl (fun _ h => h) fo_X6 co_X6_ok (List.forall_mem_cons.mpr ⟨k_X6_226 (by decide), fun _ h => absurd h List.not_mem_nil⟩) dp_X6_goesNow b_X6_goesNow
theorem k_X6_229 {d : Nat} (h : 2 < d) : ez_CallOK LM RX6 d (229, 6+1, 0, sp_X6_goesNow) := ez_callV (y := yX6_goesNow) (bytes := cX6_goesNow) so_X6_goesNow h (by decide) q_1003 q_78 ⟨by decide +kernel, by decide +kernel, by decide +kernel⟩ (Or.inl q_1000) q_1002 q_66 (T := TX6) (N := 28) rfl
def sp_X6_goes : ez_Sp := fun as M Q => match as with | [.inr (.inr q)] => q = 0 ∧ ff_Inv (ff_N M) ∧ (∀ M' : ez_M, ff_N M' = ff_N M → Q (some (.inl (op_goes (ff_N M)))) M') | _ => False
def e_X6_goes : ez_E := (fl_X6, co_X6, [(229, 6+1, 0, sp_X6_goesNow)], 0, 1)
set_option maxHeartbeats 4000000 in
set_option maxRecDepth 100000 in
theorem b_X6_goes : ez_Body LM e_X6_goes p_X6_goes sp_X6_goes := by
  intro as M Q has hM hsp
  unfold sp_X6_goes at hsp
  split at hsp
  rotate_left
  · exact hsp.elim
  rename_i q
  obtain ⟨rfl, hI, hsp⟩ := hsp
  refine ⟨Nat.le_of_ble_eq_true rfl, fun cut hcut hkut => ?_⟩
  suffices hgo : ∀ M' : ez_M, ff_N M' = ff_N M → cut 5 [(0, .inr (.inr 0))] [] M' by
    refine hkut [(5, [0])] 60 0 _ _ _ ?_
    exact hgo _ (ff_N_th M)
  clear hM
  intro M hth
  rw [← hth] at hI hsp
  clear hth
  have hn := ff_n_N hI
  unfold op_goes at hsp
  refine hkut [] 60 5 _ _ _ ?_
  repeat' (first | (intro hh; exfalso; omega) | (refine And.intro (by first | assumption | omega) ?_) | (refine And.intro rfl ?_) | (refine And.intro ?_ ?_) | (intro qq hq1 hq2 hq3; have hq4 := hq2 (by omega) (by omega); subst hq4) | (intro hh) | omega | exact trivial)
  all_goals exact hsp _ (by assumption)
theorem so_X6_goes : ez_Sound LM yX6_goes cX6_goes 1 (some .int) 3 sp_X6_goes := ez_sound (E := e_X6_goes) (prog := p_X6_goes) LM_ok (by decide +kernel) rfl (fun _ h => h) fo_X6 co_X6_ok (List.forall_mem_cons.mpr ⟨k_X6_229 (by decide), fun _ h => absurd h List.not_mem_nil⟩) dp_X6_goes b_X6_goes
