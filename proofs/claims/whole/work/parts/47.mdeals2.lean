def sp_X6_layDeals : ez_Sp := fun as M Q => match as with | [.inr (.inr q)] => q = 0 ∧ (0 ≤ M 0 19 ∧ M 0 19 ≤ 10) ∧ (∀ j : Nat, (j : Int) < M 0 19 → 0 ≤ M 13 j ∧ M 13 j ≤ 1023) ∧ (∀ N : ez_M, (∀ i, ¬ i = 14 → N i = M i) → (∀ t h : Nat, t < 2 ^ (M 0 19).toNat → h < 11 → N 14 (11 * t + h) = ff_W (fun m e => (M 13 m).toNat.testBit e) (M 0 19).toNat (ff_pc t) t h) → Q none N) | _ => False
def e_X6_layDeals : ez_E := (fl_X6, co_X6, [(199, 0, 1, sp_X6_bits)], 3, 7)
set_option maxHeartbeats 4000000 in
set_option maxRecDepth 100000 in
theorem b_X6_layDeals : ez_Body LM e_X6_layDeals p_X6_layDeals sp_X6_layDeals := by
  intro as M Q has hM hsp
  unfold sp_X6_layDeals at hsp
  split at hsp
  rotate_left
  · exact hsp.elim
  rename_i q
  obtain ⟨rfl, hn, hl, hsp⟩ := hsp
  have hnn : (((M 0 19).toNat : Nat) : Int) = M 0 19 := by omega
  have hn10 : (M 0 19).toNat ≤ 10 := by omega
  generalize hnd : (M 0 19).toNat = n at hsp hnn hn10
  generalize hLd : (fun m e : Nat => (M 13 m).toNat.testBit e) = L at hsp
  have hLv : ∀ m e : Nat, (M 13 m).toNat.testBit e = L m e := fun m e => by rw [← hLd]
  have h2 := ff_p10 hn10
  have hP := ff_shl_n (n := M 0 19) hn
  rw [hnd] at hP
  refine ⟨Nat.le_of_ble_eq_true rfl, fun cut hcut hkut => ?_⟩
  generalize hB : ez_up (ff_zn M 11264) 14 0 1 = B
  have hBi : ∀ i, ¬ i = 14 → B i = M i := fun i hi => by
    rw [← hB]
    funext j
    simp [ez_up, ff_zn, hi]
  have sets : ∀ (m s : Nat), s + m = 2 ^ n → cut 31 [(0, .inr (.inr 0)), (1, .inl (s : Int))] [] (ff_tn B (2 ^ n) (ff_gp L n s 0)) := by
    intro m
    induction m with
    | zero =>
      intro s hs
      have h19 : ff_tn B (2 ^ n) (ff_gp L n s 0) 0 19 = M 0 19 := by rw [ff_tn_ne _ _ _ (by decide), hBi 0 (by decide)]
      have hsp := hsp (ff_tn B (2 ^ n) (ff_gp L n s 0)) (fun i hi => by rw [ff_tn_ne _ _ _ hi, hBi i hi]) (fun t h ht hh => by rw [ff_tn_at ht hh, ff_gp_le L hn10 ht (by omega)])
      refine hkut [(31, [0, 1]), (48, [0, 1, 2, 3])] 60 31 _ _ _ ?_
      generalize ff_tn B (2 ^ n) (ff_gp L n s 0) = N at h19 hsp ⊢
      rw [← h19] at hP
      repeat' (first | (intro hh; exfalso; omega) | (refine And.intro (by first | assumption | omega) ?_) | (refine And.intro rfl ?_) | (refine And.intro ?_ ?_) | (intro qq hq1 hq2 hq3; have hq4 := hq2 (by omega) (by omega); subst hq4) | (intro hh) | omega | exact trivial)
      all_goals exact hsp
    | succ m ih =>
      intro s hs
      have ih := ih (s + 1) (by omega)
      have ees : ∀ (d e : Nat), e + d = n → cut 48 [(0, .inr (.inr 0)), (1, .inl (s : Int)), (2, .inl (ff_pop s)), (3, .inl (e : Int))] [] (ff_tn B (2 ^ n) (ff_gp L n s e)) := by
        intro d
        induction d with
        | zero =>
          intro e he
          have h19 : ff_tn B (2 ^ n) (ff_gp L n s e) 0 19 = M 0 19 := by rw [ff_tn_ne _ _ _ (by decide), hBi 0 (by decide)]
          have he2 : e = n := by omega
          have hnx : ff_tn B (2 ^ n) (ff_gp L n s e) = ff_tn B (2 ^ n) (ff_gp L n (s + 1) 0) := ff_tn_congr (fun t h _ _ => by rw [he2]; exact ff_gp_next L n s t h)
          rw [← hnx] at ih
          refine hkut [(31, [0, 1]), (48, [0, 1, 2, 3])] 60 48 _ _ _ ?_
          generalize ff_tn B (2 ^ n) (ff_gp L n s e) = N at h19 ih ⊢
          repeat' (first | (intro hh; exfalso; omega) | (refine And.intro (by first | assumption | omega) ?_) | (refine And.intro rfl ?_) | (refine And.intro ?_ ?_) | (intro qq hq1 hq2 hq3; have hq4 := hq2 (by omega) (by omega); subst hq4) | (intro hh) | omega | exact trivial)
          all_goals exact ih
        | succ d ihd =>
          intro e he
          have ihd := ihd (e + 1) (by omega)
          have hb := ez_tb (x := (s : Int)) (k := e) (by omega) (by omega) (by omega)
          unfold ff_b at hb
          rw [Int.toNat_natCast] at hb
          by_cases hbit : s.testBit e = true
          · rw [if_pos hbit] at hb
            have h19 : ff_tn B (2 ^ n) (ff_gp L n s e) 0 19 = M 0 19 := by rw [ff_tn_ne _ _ _ (by decide), hBi 0 (by decide)]
            have hsame : ff_tn B (2 ^ n) (ff_gp L n s e) = ff_tn B (2 ^ n) (ff_gp L n s (e + 1)) := ff_tn_congr (fun t h ht _ => by
              rw [ff_gp_same L hn10 ht (by omega)]
              rintro ⟨hz1, hz2⟩
              have := ff_bit_off (t := t) (e := e) (by omega) (by omega) hz1
              rw [hz2, hbit] at this
              cases this)
            rw [← hsame] at ihd
            refine hkut [(31, [0, 1]), (48, [0, 1, 2, 3]), (86, [0, 1, 2, 3, 4, 5, 6])] 60 48 _ _ _ ?_
            generalize ff_tn B (2 ^ n) (ff_gp L n s e) = N at h19 ihd ⊢
            repeat' (first | (intro hh; exfalso; omega) | (refine And.intro (by first | assumption | omega) ?_) | (refine And.intro rfl ?_) | (refine And.intro ?_ ?_) | (intro qq hq1 hq2 hq3; have hq4 := hq2 (by omega) (by omega); subst hq4) | (intro hh) | omega | exact trivial)
            all_goals exact ihd
          · rw [if_neg hbit] at hb
            have hon := ff_bit_on (t := s) (e := e) (by omega) (by omega) hbit
            have hpe : 2 ^ e < 2 ^ n := Nat.pow_lt_pow_right (by decide) (by omega)
            have hp0 : 0 < 2 ^ e := Nat.pow_pos (by decide)
            have hT : s + 2 ^ e < 2 ^ n := by
              rw [← hon.1]
              exact Nat.or_lt_two_pow (by omega) hpe
            have hpq := ff_pc_sub (t := s + 2 ^ e) (e := e) (by omega) (by omega) hon.2.1
            rw [show s + 2 ^ e - 2 ^ e = s by omega] at hpq
            have hpl := ff_pc_le hn10 hT
            have hps9 : ff_pc s + 1 ≤ 10 := by omega
            have hpop : ff_pop (s : Int) = (ff_pc s : Int) := ff_pop_pc (by omega)
            have hshe := ff_shl_n (n := (e : Int)) ⟨by omega, by omega⟩
            have hor : ez_or (s : Int) (ez_shl 1 (e : Int)) = ((s + 2 ^ e : Nat) : Int) := by
              rw [hshe.1, Int.toNat_natCast, ez_or_n (by omega) (by omega), hon.1]
            have hlr := hl (ff_pc s) (by omega)
            have hlk := ez_tb (x := M 13 (ff_pc s)) (k := e) (by omega) (by omega) (by omega)
            unfold ff_b at hlk
            rw [hLv] at hlk
            generalize hTd : s + 2 ^ e = T at hT hor hpl hpq
            have row : ∀ (lk : Nat), lk ≤ 1 → (lk = if L (ff_pc s) e = true then 1 else 0) → ∀ (k u : Nat), u + k + lk = 11 → cut 86 [(0, .inr (.inr 0)), (1, .inl (s : Int)), (2, .inl (ff_pop s)), (3, .inl (e : Int)), (4, .inl (lk : Int)), (5, .inl (T : Int)), (6, .inl (u : Int))] [] (ff_tn B (2 ^ n) (fun t h => if t = T ∧ lk ≤ h ∧ h < u + lk then ff_gp L n s (e + 1) t h else ff_gp L n s e t h)) := by
              intro lk hlk1 hlk2 k
              induction k with
              | zero =>
                intro u hu
                have hfin : ff_tn B (2 ^ n) (fun t h => if t = T ∧ lk ≤ h ∧ h < u + lk then ff_gp L n s (e + 1) t h else ff_gp L n s e t h) = ff_tn B (2 ^ n) (ff_gp L n s (e + 1)) := ff_tn_congr (fun t h ht hh => by
                  by_cases hc : t = T ∧ lk ≤ h ∧ h < u + lk
                  · rw [if_pos hc]
                  · rw [if_neg hc]
                    by_cases htT : t = T
                    · have hh0 : h < lk := by omega
                      obtain rfl : h = 0 := by omega
                      have hL1 : L (ff_pc s) e = true := by
                        by_cases hz : L (ff_pc s) e = true
                        · exact hz
                        · rw [if_neg hz] at hlk2
                          omega
                      rw [htT, ← hTd, ff_gp_add L hn10 (by omega) (by omega) hbit 0, if_pos hL1]
                      exact (Int.add_zero _).symm
                    · rw [ff_gp_same L hn10 ht (by omega)]
                      rintro ⟨hz1, hz2⟩
                      have := ff_pc_sub (t := t) (e := e) (by omega) (by omega) hz1
                      omega)
                rw [hfin]
                refine hkut [(48, [0, 1, 2, 3]), (86, [0, 1, 2, 3, 4, 5, 6])] 60 86 _ _ _ ?_
                generalize ff_tn B (2 ^ n) (ff_gp L n s (e + 1)) = N at ihd ⊢
                repeat' (first | (intro hh; exfalso; omega) | (refine And.intro (by first | assumption | omega) ?_) | (refine And.intro rfl ?_) | (refine And.intro ?_ ?_) | (intro qq hq1 hq2 hq3; have hq4 := hq2 (by omega) (by omega); subst hq4) | (intro hh) | omega | exact trivial)
                all_goals exact ihd
              | succ k ihk =>
                intro u hu
                have ihk := ihk (u + 1) (by omega)
                have hsT : ¬ s = T := by omega
                have hsrc : ff_tn B (2 ^ n) (fun t h => if t = T ∧ lk ≤ h ∧ h < u + lk then ff_gp L n s (e + 1) t h else ff_gp L n s e t h) 14 (11 * s + u) = ff_W L n (ff_pc s) s u := by
                  rw [ff_tn_at (by omega) (by omega), if_neg (fun z => hsT z.1), ff_gp_le L hn10 (by omega) (by omega)]
                have hold : ff_tn B (2 ^ n) (fun t h => if t = T ∧ lk ≤ h ∧ h < u + lk then ff_gp L n s (e + 1) t h else ff_gp L n s e t h) 14 (11 * T + (u + lk)) = ff_gp L n s e T (u + lk) := by
                  rw [ff_tn_at hT (by omega), if_neg (by omega)]
                have hnew : ff_gp L n s (e + 1) T (u + lk) = ff_gp L n s e T (u + lk) + ff_W L n (ff_pc s) s u := by
                  rw [← hTd, ff_gp_add L hn10 (by omega) (by omega) hbit (u + lk)]
                  by_cases hz : L (ff_pc s) e = true
                  · rw [if_pos hz] at hlk2 ⊢
                    subst hlk2
                    rfl
                  · rw [if_neg hz] at hlk2 ⊢
                    subst hlk2
                    rfl
                have hup : ez_up (ff_tn B (2 ^ n) (fun t h => if t = T ∧ lk ≤ h ∧ h < u + lk then ff_gp L n s (e + 1) t h else ff_gp L n s e t h)) 14 (11 * T + (u + lk)) (ff_gp L n s e T (u + lk) + ff_W L n (ff_pc s) s u) = ff_tn B (2 ^ n) (fun t h => if t = T ∧ lk ≤ h ∧ h < u + 1 + lk then ff_gp L n s (e + 1) t h else ff_gp L n s e t h) := by
                  rw [ff_tn_up hT (by omega)]
                  refine ff_tn_congr (fun t h _ _ => ?_)
                  by_cases hc : t = T ∧ h = u + lk
                  · rw [if_pos hc, if_pos ⟨hc.1, by omega, by omega⟩, hc.1, hc.2, hnew]
                  · rw [if_neg hc]
                    by_cases hc2 : t = T ∧ lk ≤ h ∧ h < u + lk
                    · rw [if_pos hc2, if_pos ⟨hc2.1, hc2.2.1, by omega⟩]
                    · rw [if_neg hc2, if_neg (by omega)]
                have hg1 := ff_gp_r L (s := s) (e := e) hn10 hT (u + lk)
                have hw1 := ff_W_r L hn10 (ff_pc s) s u (by omega) rfl
                have hfa := ff_fa_r (ff_pc s) (by omega)
                rw [← hup, ← hsrc, ← hold] at ihk
                rw [← hold] at hg1
                rw [← hsrc] at hw1
                have i1 : 11 * T + (u + lk) = (11 * (T : Int) + (u : Int) + (lk : Int)).toNat := by omega
                have i2 : 11 * s + u = (11 * (s : Int) + (u : Int)).toNat := by omega
                rw [i1, i2] at ihk
                rw [i1] at hg1
                rw [i2] at hw1
                refine hkut [(48, [0, 1, 2, 3]), (86, [0, 1, 2, 3, 4, 5, 6])] 80 86 _ _ _ ?_
                generalize ff_tn B (2 ^ n) (fun t h => if t = T ∧ lk ≤ h ∧ h < u + lk then ff_gp L n s (e + 1) t h else ff_gp L n s e t h) = N at ihk hg1 hw1 ⊢
                repeat' (first | (intro hh; exfalso; omega) | (refine And.intro (by first | assumption | omega) ?_) | (refine And.intro rfl ?_) | (refine And.intro ?_ ?_) | (intro qq hq1 hq2 hq3; have hq4 := hq2 (by omega) (by omega); subst hq4) | (intro hh) | omega | exact trivial)
                all_goals exact ihk
            have h19 : ff_tn B (2 ^ n) (ff_gp L n s e) 0 19 = M 0 19 := by rw [ff_tn_ne _ _ _ (by decide), hBi 0 (by decide)]
            have h13 : ff_tn B (2 ^ n) (ff_gp L n s e) 13 (ff_pc s) = M 13 (ff_pc s) := by rw [ff_tn_ne _ _ _ (by decide), hBi 13 (by decide)]
            rw [← h13] at hlk
            have hpt : (ff_pop (s : Int)).toNat = ff_pc s := by omega
            rw [← hpt] at hlk
            have hstart : ∀ lk : Nat, ff_tn B (2 ^ n) (fun t h => if t = T ∧ lk ≤ h ∧ h < 0 + lk then ff_gp L n s (e + 1) t h else ff_gp L n s e t h) = ff_tn B (2 ^ n) (ff_gp L n s e) := fun lk => ff_tn_congr (fun t h _ _ => by rw [if_neg (by omega)])
            rw [hpt] at hlk
            have hor1 : 0 ≤ ez_or (s : Int) (ez_shl 1 (e : Int)) := by omega
            by_cases hL1 : L (ff_pc s) e = true
            · rw [if_pos hL1] at hlk
              have hr := row 1 (by omega) (by rw [if_pos hL1]) 10 0 (by omega)
              rw [hstart 1] at hr
              have hr : ∀ x y : Int, x = 1 → y = (T : Int) → cut 86 [(0, .inr (.inr 0)), (1, .inl (s : Int)), (2, .inl (ff_pop s)), (3, .inl (e : Int)), (4, .inl x), (5, .inl y), (6, .inl 0)] [] (ff_tn B (2 ^ n) (ff_gp L n s e)) := fun x y hx hy => by
                subst hx
                subst hy
                exact hr
              rw [← hpt] at hlk
              have hr := hr _ _ hlk hor
              refine hkut [(31, [0, 1]), (48, [0, 1, 2, 3]), (86, [0, 1, 2, 3, 4, 5, 6])] 60 48 _ _ _ ?_
              generalize ff_tn B (2 ^ n) (ff_gp L n s e) = N at h19 hr hlk ⊢
              repeat' (first | (intro hh; exfalso; omega) | (refine And.intro (by first | assumption | omega) ?_) | (refine And.intro rfl ?_) | (refine And.intro ?_ ?_) | (intro qq hq1 hq2 hq3; have hq4 := hq2 (by omega) (by omega); subst hq4) | (intro hh) | omega | exact trivial)
              all_goals exact hr
            · rw [if_neg hL1] at hlk
              have hr := row 0 (by omega) (by rw [if_neg hL1]) 11 0 (by omega)
              rw [hstart 0] at hr
              have hr : ∀ x y : Int, x = 0 → y = (T : Int) → cut 86 [(0, .inr (.inr 0)), (1, .inl (s : Int)), (2, .inl (ff_pop s)), (3, .inl (e : Int)), (4, .inl x), (5, .inl y), (6, .inl 0)] [] (ff_tn B (2 ^ n) (ff_gp L n s e)) := fun x y hx hy => by
                subst hx
                subst hy
                exact hr
              rw [← hpt] at hlk
              have hr := hr _ _ hlk hor
              refine hkut [(31, [0, 1]), (48, [0, 1, 2, 3]), (86, [0, 1, 2, 3, 4, 5, 6])] 60 48 _ _ _ ?_
              generalize ff_tn B (2 ^ n) (ff_gp L n s e) = N at h19 hr hlk ⊢
              repeat' (first | (intro hh; exfalso; omega) | (refine And.intro (by first | assumption | omega) ?_) | (refine And.intro rfl ?_) | (refine And.intro ?_ ?_) | (intro qq hq1 hq2 hq3; have hq4 := hq2 (by omega) (by omega); subst hq4) | (intro hh) | omega | exact trivial)
              all_goals exact hr
      have h0 := ees n 0 (by omega)
      have h19 : ff_tn B (2 ^ n) (ff_gp L n s 0) 0 19 = M 0 19 := by rw [ff_tn_ne _ _ _ (by decide), hBi 0 (by decide)]
      refine hkut [(31, [0, 1]), (48, [0, 1, 2, 3])] 60 31 _ _ _ ?_
      generalize ff_tn B (2 ^ n) (ff_gp L n s 0) = N at h19 h0 ⊢
      rw [← h19] at hP
      repeat' (first | (intro hh; exfalso; omega) | (refine And.intro (by first | assumption | omega) ?_) | (refine And.intro rfl ?_) | (refine And.intro ?_ ?_) | (intro qq hq1 hq2 hq3; have hq4 := hq2 (by omega) (by omega); subst hq4) | (intro hh) | omega | exact trivial)
      all_goals exact h0
  have zer : ∀ (m k : Nat), k + m = 11264 → cut 2 [(0, .inr (.inr 0)), (1, .inl (k : Int))] [] (ff_zn M k) := by
    intro m
    induction m with
    | zero =>
      intro k hk
      obtain rfl : k = 11264 := by omega
      have h0 := sets (2 ^ n) 0 (by omega)
      have hz := ff_tn_0 M L hn10
      rw [hB] at hz
      rw [← hz, ← hB] at h0
      refine hkut [(2, [0, 1]), (31, [0, 1])] 60 2 _ _ _ ?_
      repeat' (first | (intro hh; exfalso; omega) | (refine And.intro (by first | assumption | omega) ?_) | (refine And.intro rfl ?_) | (refine And.intro ?_ ?_) | (intro qq hq1 hq2 hq3; have hq4 := hq2 (by omega) (by omega); subst hq4) | (intro hh) | omega | exact trivial)
      all_goals exact h0
    | succ m ih =>
      intro k hk
      have ih := ih (k + 1) (by omega)
      rw [← ff_zn_s] at ih
      refine hkut [(2, [0, 1]), (31, [0, 1])] 60 2 _ _ _ ?_
      repeat' (first | (intro hh; exfalso; omega) | (refine And.intro (by first | assumption | omega) ?_) | (refine And.intro rfl ?_) | (refine And.intro ?_ ?_) | (intro qq hq1 hq2 hq3; have hq4 := hq2 (by omega) (by omega); subst hq4) | (intro hh) | omega | exact trivial)
      all_goals exact ih
  have h0 := zer 11264 0 (by omega)
  have e : ff_zn M 0 = M := by
    funext i j
    simp [ff_zn]
  rw [e] at h0
  refine hkut [(2, [0, 1])] 60 0 _ _ _ ?_
  exact h0
theorem so_X6_layDeals : ez_Sound LM yX6_layDeals cX6_layDeals 7 none 1 sp_X6_layDeals := ez_sound (E := e_X6_layDeals) (prog := p_X6_layDeals) LM_ok (by decide +kernel) rfl (fun _ h => h) fo_X6 co_X6_ok (List.forall_mem_cons.mpr ⟨k_X6_199 (by decide), fun _ h => absurd h List.not_mem_nil⟩) dp_X6_layDeals b_X6_layDeals
