theorem ff_erase_lt {o : List Int} {a x : Nat} (h : x < a) : (o.eraseIdx a).getD x 0 = o.getD x 0 := by
  rw [List.getD_eq_getElem?_getD, List.getD_eq_getElem?_getD, List.getElem?_eraseIdx, if_pos h]
theorem ff_erase_ge {o : List Int} {a x : Nat} (h : a ≤ x) : (o.eraseIdx a).getD x 0 = o.getD (x + 1) 0 := by
  rw [List.getD_eq_getElem?_getD, List.getD_eq_getElem?_getD, List.getElem?_eraseIdx, if_neg (by omega)]
theorem ff_rng_at : ∀ (n : Nat) (k : Int) (i : Nat), i < n → (ff_rng n k).getD i 0 = k + i
  | 0, _, i, h => by omega
  | n + 1, k, i, h => by
    cases i with
    | zero => simp [ff_rng]
    | succ i =>
      have := ff_rng_at n (k + 1) i (by omega)
      simp only [ff_rng, List.getD_cons_succ]
      omega
def sp_X6_luck : ez_Sp := fun as M Q => match as with | [.inr (.inr q), .inl up] => q = 0 ∧ ff_Inv (ff_N M) ∧ (up = 0 ∨ up = 1) ∧ (∀ M' : ez_M, ff_N M' = ff_N M → Q (some (.inr (.inl (op_luck (ff_N M) up)))) M') | _ => False
def e_X6_luck : ez_E := (fl_X6, co_X6, [(69, 0, 3, sp_X6_in), (229, 6+1, 0, sp_X6_goesNow), (226, 6+1, 0, sp_X6_goesBy), (190, 0, 3, sp_X6_told)], 2, 10)
set_option maxHeartbeats 4000000 in
set_option maxRecDepth 100000 in
theorem b_X6_luck : ez_Body LM e_X6_luck p_X6_luck sp_X6_luck := by
  intro as M Q has hM hsp
  unfold sp_X6_luck at hsp
  split at hsp
  rotate_left
  · exact hsp.elim
  rename_i q up
  have g_up : -2147483648 ≤ up ∧ up ≤ 2147483647 := ez_hd (ez_tl (has))
  obtain ⟨rfl, hI, hup, hsp⟩ := hsp
  refine ⟨Nat.le_of_ble_eq_true rfl, fun cut hcut hkut => ?_⟩
  suffices hgo : ∀ M' : ez_M, ff_N M' = ff_N M → cut 5 [(0, .inr (.inr 0)), (1, .inl up)] [] M' by
    refine hkut [(5, [0, 1])] 60 0 _ _ _ ?_
    exact hgo _ (ff_N_th M)
  clear hM
  intro M hth
  rw [← hth] at hI hsp
  clear hth
  have hn := ff_n_N hI
  unfold op_luck at hsp
  by_cases h1 : 1 ≤ ff_N M 1 4 ∧ ff_N M 1 4 ≤ 6
  · have h1m : 1 ≤ M 0 13 ∧ M 0 13 ≤ 6 := h1
    simp only [if_pos h1] at hsp
    have hFr : 1 ≤ ff_fa (ff_N M 1 4).toNat ∧ ff_fa (ff_N M 1 4).toNat ≤ 3628800 := ff_fa_r _ (by omega)
    generalize hF : ff_fa (ff_N M 1 4).toNat = F at hsp hFr
    generalize hA : ff_cn (ff_lp (ff_N M)) F.toNat 0 = A at hsp
    have loop : ∀ (n : Nat) (w a : Int) (N : ez_M), ff_N N = ff_N M → w + n = F → 0 ≤ w → 0 ≤ a → a ≤ w → a + ff_cn (ff_lp (ff_N M)) n w = A → cut 60 [(0, .inr (.inr 0)), (1, .inl up), (2, .inl (ff_goes (ff_N M))), (3, .inl F), (4, .inl a), (5, .inl w)] [] N := by
      intro n
      induction n with
      | zero =>
        intro w a N hX hw h0 ha0 ha1 he
        simp only [ff_cn, Int.add_zero] at he
        have hsp := hsp N hX
        refine hkut [(60, [0, 1, 2, 3, 4, 5]), (69, [0, 1, 2, 3, 4, 5, 6])] 60 60 _ _ _ ?_
        subst he
        repeat' (first | (intro hh; exfalso; omega) | (refine And.intro (by first | assumption | omega) ?_) | (refine And.intro rfl ?_) | (refine And.intro ?_ ?_) | (intro qq hq1 hq2 hq3; have hq4 := hq2 (by omega) (by omega); subst hq4) | (intro hh) | omega | exact trivial)
        all_goals exact hsp
      | succ n ih =>
        intro w a N hX hw h0 ha0 ha1 he
        have hw0 : 0 ≤ w := h0
        have fin : ∀ (K : ez_M) (j r : Int), ff_N K = ff_N M → j = M 0 13 → (∀ i : Nat, (i : Int) < M 0 13 → K 16 i = (ff_per (ff_N M 1 4).toNat w).getD i 0) → cut 100 [(0, .inr (.inr 0)), (1, .inl up), (2, .inl (ff_goes (ff_N M))), (3, .inl F), (4, .inl a), (5, .inl w), (6, .inl r), (7, .inl j)] [] K := by
          intro K j r hK hj ht
          have h13 : K 0 13 = M 0 13 := congrFun (congrFun hK 1) 4
          have hIK : ff_Inv (ff_N K) := by rw [hK]; exact hI
          have hv : ff_so (ff_gnd (ff_N K)) (fun k => ff_gln (ff_N K) (K 16 k.toNat)) (K 0 13).toNat 0 = ff_sp (ff_N M) w := by
            rw [hK, h13]
            unfold ff_sp
            show ff_so _ _ (M 0 13).toNat 0 = ff_so _ _ (M 0 13).toNat 0
            refine ff_so_congr (N := M 0 13) (fun k hk0 hk1 => ⟨rfl, ?_⟩) _ 0 (by omega) (by omega)
            show ff_gln _ (K 16 k.toNat) = _
            rw [ht _ (by omega)]
          have ht2 : ∀ i : Nat, (i : Int) < K 0 13 → 0 ≤ K 16 i ∧ K 16 i < K 0 13 := fun i hi => by
            rw [h13] at hi ⊢
            rw [ht i hi]
            have := ff_per_r (n := (ff_N M 1 4).toNat) (w := w) (k := i) (by show i < (M 0 13).toNat; omega)
            have e : (((ff_N M 1 4).toNat : Nat) : Int) = M 0 13 := by show (((M 0 13).toNat : Nat) : Int) = M 0 13; omega
            omega
          simp only [ff_cn, ff_lp, decide_eq_true_eq] at he
          refine hkut [(60, [0, 1, 2, 3, 4, 5])] 60 100 _ _ _ ?_
          split at he
          · have ih := ih (w + 1) (a + 1) K hK (by omega) (by omega) (by omega) (by omega) (by omega)
            repeat' (first | (intro hh; exfalso; omega) | (refine And.intro (by first | assumption | omega) ?_) | (refine And.intro rfl ?_) | (refine And.intro ?_ ?_) | (intro qq hq1 hq2 hq3; have hq4 := hq2 (by omega) (by omega); subst hq4) | (intro hh) | omega | exact trivial)
            all_goals first | exact ht2 | exact ih
          · have ih := ih (w + 1) (a + 0) K hK (by omega) (by omega) (by omega) (by omega) (by omega)
            repeat' (first | (intro hh; exfalso; omega) | (refine And.intro (by first | assumption | omega) ?_) | (refine And.intro rfl ?_) | (refine And.intro ?_ ?_) | (intro qq hq1 hq2 hq3; have hq4 := hq2 (by omega) (by omega); subst hq4) | (intro hh) | omega | exact trivial)
            all_goals first | exact ht2 | exact ih
        have rem : ∀ (d : Int) (o : List Int) (at' : Nat) (j r : Int) (T : Nat → Int), d ≤ 6 → 0 ≤ j → j + d = M 0 13 → (at' : Int) < d → (∀ K : ez_M, ff_N K = ff_N M → K 16 = T → (∀ x : Nat, (x : Int) + 1 < d → K 15 x = (o.eraseIdx at').getD x 0) → cut 100 [(0, .inr (.inr 0)), (1, .inl up), (2, .inl (ff_goes (ff_N M))), (3, .inl F), (4, .inl a), (5, .inl w), (6, .inl r), (7, .inl (j + 1))] [] K) → ∀ (n : Nat) (i : Int) (K : ez_M), i + 1 + n = d → (at' : Int) ≤ i → ff_N K = ff_N M → K 16 = T → (∀ x : Nat, (x : Int) < i → K 15 x = (o.eraseIdx at').getD x 0) → (∀ x : Nat, i ≤ (x : Int) → (x : Int) < d → K 15 x = o.getD x 0) → cut 151 [(0, .inr (.inr 0)), (1, .inl up), (2, .inl (ff_goes (ff_N M))), (3, .inl F), (4, .inl a), (5, .inl w), (6, .inl r), (7, .inl j), (9, .inl i)] [] K := by
          intro d o at' j r T hd6 hj0 hjd hat hc n
          induction n with
          | zero =>
            intro i K hi hai hK hT h15 h15b
            have h13 : K 0 13 = M 0 13 := congrFun (congrFun hK 1) 4
            have hc := hc K hK hT (fun x hx => h15 x (by omega))
            refine hkut [(151, [0, 1, 2, 3, 4, 5, 6, 7, 9]), (100, [0, 1, 2, 3, 4, 5, 6, 7])] 60 151 _ _ _ ?_
            repeat' (first | (intro hh; exfalso; omega) | (refine And.intro (by first | assumption | omega) ?_) | (refine And.intro rfl ?_) | (refine And.intro ?_ ?_) | (intro qq hq1 hq2 hq3; have hq4 := hq2 (by omega) (by omega); subst hq4) | (intro hh) | omega | exact trivial)
            all_goals exact hc
          | succ n ihn =>
            intro i K hi hai hK hT h15 h15b
            have h13 : K 0 13 = M 0 13 := congrFun (congrFun hK 1) 4
            have hv := h15b (i + 1).toNat (by omega) (by omega)
            have ihn := ihn (i + 1) (ez_up K 15 i.toNat (K 15 (i + 1).toNat)) (by omega) (by omega) (by rw [ff_N_scr _ 15 _ _ (by omega), hK]) (by rw [ez_up_ne 16 (by decide)]; exact hT) (fun x hx => by
              by_cases hxi : x = i.toNat
              · subst hxi
                rw [ff_erase_ge (by omega), show i.toNat + 1 = (i + 1).toNat by omega, ← hv]
                simp [ez_up]
              · simp only [ez_up, hxi, and_false, if_false]
                exact h15 x (by omega)) (fun x hx1 hx2 => by
              have hxi : ¬ x = i.toNat := by omega
              simp only [ez_up, hxi, and_false, if_false]
              exact h15b x (by omega) hx2)
            refine hkut [(151, [0, 1, 2, 3, 4, 5, 6, 7, 9]), (100, [0, 1, 2, 3, 4, 5, 6, 7])] 60 151 _ _ _ ?_
            repeat' (first | (intro hh; exfalso; omega) | (refine And.intro (by first | assumption | omega) ?_) | (refine And.intro rfl ?_) | (refine And.intro ?_ ?_) | (intro qq hq1 hq2 hq3; have hq4 := hq2 (by omega) (by omega); subst hq4) | (intro hh) | omega | exact trivial)
            all_goals exact ihn
        have place : ∀ (d : Nat) (j r : Int) (o : List Int) (K : ez_M), j + d = M 0 13 → 0 ≤ j → 0 ≤ r → r ≤ 3628800 → o.length = d → ff_N K = ff_N M → (∀ x : Nat, x < d → K 15 x = o.getD x 0) → (∀ i : Nat, (i : Int) < j → K 16 i = (ff_per (ff_N M 1 4).toNat w).getD i 0) → (∀ i : Nat, i < d → (ff_pl d o r).getD i 0 = (ff_per (ff_N M 1 4).toNat w).getD (j.toNat + i) 0) → cut 100 [(0, .inr (.inr 0)), (1, .inl up), (2, .inl (ff_goes (ff_N M))), (3, .inl F), (4, .inl a), (5, .inl w), (6, .inl r), (7, .inl j)] [] K := by
          intro d
          induction d with
          | zero =>
            intro j r o K hj h0 hr0 hr1 ho hK h15 h16 hpl
            exact fin K j r hK (by omega) (fun i hi => h16 i (by omega))
          | succ d ihd =>
            intro j r o K hj h0 hr0 hr1 ho hK h15 h16 hpl
            have h13 : K 0 13 = M 0 13 := congrFun (congrFun hK 1) 4
            have hdn : ((d + 1 : Nat) : Int) = K 0 13 - j := by omega
            have hm0 := Int.emod_nonneg r (by omega : ((d + 1 : Nat) : Int) ≠ 0)
            have hm1 := Int.emod_lt_of_pos r (by omega : 0 < ((d + 1 : Nat) : Int))
            have hd0 := Int.ediv_nonneg hr0 (by omega : 0 ≤ ((d + 1 : Nat) : Int))
            have hd1 := Int.ediv_le_self ((d + 1 : Nat) : Int) hr0
            have hat : ((r % ((d + 1 : Nat) : Int)).toNat : Int) = r % ((d + 1 : Nat) : Int) := by omega
            have hlt : (r % ((d + 1 : Nat) : Int)).toNat < o.length := by omega
            have hp0 := hpl 0 (by omega)
            simp only [ff_pl, List.getD_cons_zero, Nat.add_zero] at hp0
            have hx := h15 (r % ((d + 1 : Nat) : Int)).toNat (by omega)
            have ihd2 := fun (K : ez_M) (hK : ff_N K = ff_N M) (h15 : ∀ x : Nat, x < d → K 15 x = (o.eraseIdx (r % ((d + 1 : Nat) : Int)).toNat).getD x 0) (h16 : ∀ i : Nat, (i : Int) < j + 1 → K 16 i = (ff_per (ff_N M 1 4).toNat w).getD i 0) => ihd (j + 1) (r / ((d + 1 : Nat) : Int)) (o.eraseIdx (r % ((d + 1 : Nat) : Int)).toNat) K (by omega) (by omega) hd0 (by omega) (by rw [List.length_eraseIdx_of_lt hlt]; omega) hK h15 h16 (fun i hi => by
              have := hpl (i + 1) (by omega)
              simp only [ff_pl, List.getD_cons_succ] at this
              rw [this, show (j + 1).toNat + i = j.toNat + (i + 1) by omega])
            have hrem := rem ((d + 1 : Nat) : Int) o (r % ((d + 1 : Nat) : Int)).toNat j (r / ((d + 1 : Nat) : Int)) (ez_up K 16 j.toNat (K 15 (r % ((d + 1 : Nat) : Int)).toNat) 16) (by omega) h0 hj (by omega) (fun K2 hK2 hT h15 => ihd2 K2 hK2 (fun x hx => h15 x (by omega)) (fun i hi => by
              rw [hT]
              by_cases hij : i = j.toNat
              · subst hij
                rw [← hp0, ← hx]
                simp [ez_up]
              · simp only [ez_up, hij, and_false, if_false]
                exact h16 i (by omega))) (d - (r % ((d + 1 : Nat) : Int)).toNat) (r % ((d + 1 : Nat) : Int)) (ez_up K 16 j.toNat (K 15 (r % ((d + 1 : Nat) : Int)).toNat)) (by omega) (by omega) (by rw [ff_N_scr _ 16 _ _ (by omega), hK]) rfl (fun x hx => by
              rw [ff_erase_lt (by omega), ez_up_ne 15 (by decide)]
              exact h15 x (by omega)) (fun x hx1 hx2 => by
              rw [ez_up_ne 15 (by decide)]
              exact h15 x (by omega))
            rw [hdn] at hrem hm0 hm1 hd0 hd1
            refine hkut [(151, [0, 1, 2, 3, 4, 5, 6, 7, 9]), (100, [0, 1, 2, 3, 4, 5, 6, 7])] 60 100 _ _ _ ?_
            repeat' (first | (intro hh; exfalso; omega) | (refine And.intro (by first | assumption | omega) ?_) | (refine And.intro rfl ?_) | (refine And.intro ?_ ?_) | (intro qq hq1 hq2 hq3; have hq4 := hq2 (by omega) (by omega); subst hq4) | (intro hh) | omega | exact trivial)
            all_goals exact hrem
        have lay : ∀ (n : Nat) (j : Int) (K : ez_M), j + n = M 0 13 → 0 ≤ j → ff_N K = ff_N M → (∀ x : Nat, (x : Int) < j → K 15 x = x) → cut 69 [(0, .inr (.inr 0)), (1, .inl up), (2, .inl (ff_goes (ff_N M))), (3, .inl F), (4, .inl a), (5, .inl w), (6, .inl j)] [] K := by
          intro n
          induction n with
          | zero =>
            intro j K hj h0 hK h15
            have h13 : K 0 13 = M 0 13 := congrFun (congrFun hK 1) 4
            have en : (ff_N M 1 4).toNat = (M 0 13).toNat := rfl
            have hp := place (M 0 13).toNat 0 w (ff_rng (M 0 13).toNat 0) K (by omega) (by omega) hw0 (by omega) (ff_rng_len _ _) hK (fun x hx => by
              rw [ff_rng_at _ _ _ hx, h15 x (by omega)]
              omega) (fun i hi => by omega) (fun i hi => by
              rw [en, show (0 : Int).toNat + i = i by simp]
              rfl)
            refine hkut [(69, [0, 1, 2, 3, 4, 5, 6]), (100, [0, 1, 2, 3, 4, 5, 6, 7])] 60 69 _ _ _ ?_
            repeat' (first | (intro hh; exfalso; omega) | (refine And.intro (by first | assumption | omega) ?_) | (refine And.intro rfl ?_) | (refine And.intro ?_ ?_) | (intro qq hq1 hq2 hq3; have hq4 := hq2 (by omega) (by omega); subst hq4) | (intro hh) | omega | exact trivial)
            all_goals exact hp
          | succ n ihn =>
            intro j K hj h0 hK h15
            have h13 : K 0 13 = M 0 13 := congrFun (congrFun hK 1) 4
            have ihn := ihn (j + 1) (ez_up K 15 j.toNat j) (by omega) (by omega) (by rw [ff_N_scr _ 15 _ _ (by omega), hK]) (fun x hx => by
              by_cases hxj : x = j.toNat
              · subst hxj
                simp [ez_up]
                omega
              · simp only [ez_up, hxj, and_false, if_false]
                exact h15 x (by omega))
            refine hkut [(69, [0, 1, 2, 3, 4, 5, 6]), (100, [0, 1, 2, 3, 4, 5, 6, 7])] 60 69 _ _ _ ?_
            repeat' (first | (intro hh; exfalso; omega) | (refine And.intro (by first | assumption | omega) ?_) | (refine And.intro rfl ?_) | (refine And.intro ?_ ?_) | (intro qq hq1 hq2 hq3; have hq4 := hq2 (by omega) (by omega); subst hq4) | (intro hh) | omega | exact trivial)
            all_goals exact ihn
        have hl := lay (M 0 13).toNat 0 N (by omega) (by omega) hX (fun x hx => by omega)
        refine hkut [(60, [0, 1, 2, 3, 4, 5]), (69, [0, 1, 2, 3, 4, 5, 6])] 60 60 _ _ _ ?_
        repeat' (first | (intro hh; exfalso; omega) | (refine And.intro (by first | assumption | omega) ?_) | (refine And.intro rfl ?_) | (refine And.intro ?_ ?_) | (intro qq hq1 hq2 hq3; have hq4 := hq2 (by omega) (by omega); subst hq4) | (intro hh) | omega | exact trivial)
        all_goals exact hl
    have fl : ∀ (N : ez_M), ff_N N = ff_N M → ∀ (n : Nat) (i f : Int), i + n = M 0 13 + 1 → 2 ≤ i → f = ff_fa (i - 1).toNat → cut 34 [(0, .inr (.inr 0)), (1, .inl up), (2, .inl (ff_goes (ff_N M))), (3, .inl f), (4, .inl i)] [] N := by
      intro N hX n
      have h13 : N 0 13 = M 0 13 := congrFun (congrFun hX 1) 4
      induction n with
      | zero =>
        intro i f hi h2 he
        have hfF : f = F := by
          rw [he, show i - 1 = M 0 13 by omega]
          exact hF
        subst hfF
        have hl := loop f.toNat 0 0 N hX (by omega) (by omega) (by omega) (by omega) (by rw [hA]; omega)
        refine hkut [(60, [0, 1, 2, 3, 4, 5])] 60 34 _ _ _ ?_
        repeat' (first | (intro hh; exfalso; omega) | (refine And.intro (by first | assumption | omega) ?_) | (refine And.intro rfl ?_) | (refine And.intro ?_ ?_) | (intro qq hq1 hq2 hq3; have hq4 := hq2 (by omega) (by omega); subst hq4) | (intro hh) | omega | exact trivial)
        all_goals exact hl
      | succ n ih =>
        intro i f hi h2 he
        have hf2 : f * i = ff_fa (i + 1 - 1).toNat := by
          rw [he, show (i + 1 - 1).toNat = (i - 1).toNat + 1 by omega]
          simp only [ff_fa]
          rw [show (((i - 1).toNat + 1 : Nat) : Int) = i by omega, Int.mul_comm]
        have hb := ff_fa_r (i + 1 - 1).toNat (by omega)
        have ih := ih (i + 1) (f * i) (by omega) (by omega) hf2
        rw [← hf2] at hb
        refine hkut [(34, [0, 1, 2, 3, 4])] 60 34 _ _ _ ?_
        repeat' (first | (intro hh; exfalso; omega) | (refine And.intro (by first | assumption | omega) ?_) | (refine And.intro rfl ?_) | (refine And.intro ?_ ?_) | (intro qq hq1 hq2 hq3; have hq4 := hq2 (by omega) (by omega); subst hq4) | (intro hh) | omega | exact trivial)
        all_goals exact ih
    refine hkut [(34, [0, 1, 2, 3, 4])] 60 5 _ _ _ ?_
    repeat' (first | (intro hh; exfalso; omega) | (refine And.intro (by first | assumption | omega) ?_) | (refine And.intro rfl ?_) | (refine And.intro ?_ ?_) | (intro qq hq1 hq2 hq3; have hq4 := hq2 (by omega) (by omega); subst hq4) | (intro hh) | omega | exact trivial)
    all_goals exact fl _ (by assumption) (M 0 13 - 1).toNat 2 1 (by omega) (by omega) rfl
  · have h1m : ¬ (1 ≤ M 0 13 ∧ M 0 13 ≤ 6) := h1
    simp only [if_neg h1] at hsp
    have hsp := hsp M rfl
    refine hkut [] 60 5 _ _ _ ?_
    repeat' (first | (intro hh; exfalso; omega) | (refine And.intro (by first | assumption | omega) ?_) | (refine And.intro rfl ?_) | (refine And.intro ?_ ?_) | (intro qq hq1 hq2 hq3; have hq4 := hq2 (by omega) (by omega); subst hq4) | (intro hh) | omega | exact trivial)
    all_goals exact hsp
theorem so_X6_luck : ez_Sound LM yX6_luck cX6_luck 10 (some .long) 3 sp_X6_luck := ez_sound (E := e_X6_luck) (prog := p_X6_luck) LM_ok (by decide +kernel) rfl (fun _ h => h) fo_X6 co_X6_ok (List.forall_mem_cons.mpr ⟨k_X6_69 (by decide), List.forall_mem_cons.mpr ⟨k_X6_229 (by decide), List.forall_mem_cons.mpr ⟨k_X6_226 (by decide), List.forall_mem_cons.mpr ⟨k_X6_190 (by decide), fun _ h => absurd h List.not_mem_nil⟩⟩⟩⟩) dp_X6_luck b_X6_luck
