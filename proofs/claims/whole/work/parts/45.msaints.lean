/-! ===== the model's saints ===== -/
theorem ff_cn_shift (p : Int → Bool) : ∀ (n : Nat) (y d : Int), ff_cn p n (y + d) = ff_cn (fun k => p (k + d)) n y
  | 0, _, _ => rfl
  | n + 1, y, d => by
    have ih := ff_cn_shift p n (y + 1) d
    simp only [ff_cn]
    rw [show y + d + 1 = y + 1 + d by omega, ih]
theorem ff_cn_congr {p q : Int → Bool} : ∀ (n : Nat) (y : Int), (∀ k : Nat, k < n → p (y + k) = q (y + k)) → ff_cn p n y = ff_cn q n y
  | 0, _, _ => rfl
  | n + 1, y, h => by
    have h0 := h 0 (by omega)
    rw [show y + ((0 : Nat) : Int) = y by omega] at h0
    simp only [ff_cn]
    have ih := ff_cn_congr (p := p) (q := q) n (y + 1) (fun k hk => by
      have h2 := h (k + 1) (by omega)
      rw [show y + ((k + 1 : Nat) : Int) = y + 1 + (k : Int) by omega] at h2
      exact h2)
    rw [h0, ih]
theorem ff_cn_slr (kn p : Int → Bool) (h : ∀ x, p x = true → kn x = true) : ∀ (n : Nat) (c : Int), ff_cn p n c = ff_cn (fun k => p ((ff_slr kn n c).getD k.toNat 0)) (ff_slr kn n c).length 0
  | 0, _ => rfl
  | n + 1, c => by
    have ih := ff_cn_slr kn p h n (c + 1)
    simp only [ff_slr]
    by_cases hk : kn c = true
    · rw [if_pos hk]
      simp only [List.length_cons, ff_cn]
      have hs := ff_cn_shift (fun k => p ((c :: ff_slr kn n (c + 1)).getD k.toNat 0)) (ff_slr kn n (c + 1)).length 0 1
      rw [hs, ih]
      have e0 : (c :: ff_slr kn n (c + 1)).getD (0 : Int).toNat 0 = c := rfl
      rw [e0]
      congr 1
      refine ff_cn_congr _ _ (fun k hk => ?_)
      rw [show (0 + (k : Int) + 1).toNat = (0 + (k : Int)).toNat + 1 by omega, List.getD_cons_succ]
    · rw [if_neg hk]
      have hp : ¬ p c = true := fun z => hk (h c z)
      simp only [ff_cn]
      rw [if_neg hp, ih]
      omega
theorem ff_exl_1 (S : ff_S) (c : Int) : ff_exl S 1 c 1 3 4 = ff_by S c (S 5 (11 * c + 5).toNat) := by
  unfold ff_exl ff_by ff_yrs
  have e : (fun y => ff_nr (ff_line S 1 c y) (S 5 (11 * c + 1).toNat) (S 5 (11 * c + 2).toNat)) = ff_dhit S c (S 5 (11 * c + 5).toNat) := by
    funext y
    unfold ff_dhit ff_line
    rw [if_neg (by decide), if_pos rfl]
  rw [e]
theorem ff_by_9 (S : ff_S) (c : Int) (h : S 5 (11 * c + 5).toNat = -9) : ff_by S c (S 5 (11 * c + 5).toNat) = false := by
  unfold ff_by
  have : ∀ (n : Nat) (y : Int), ff_ex (ff_dhit S c (S 5 (11 * c + 5).toNat)) n y = false := by
    intro n
    induction n with
    | zero => intro y; rfl
    | succ n ih =>
      intro y
      simp only [ff_ex]
      rw [ih]
      unfold ff_dhit ff_rby ff_nr
      rw [if_pos h]
      simp
  exact this _ _
def ff_qo (S : ff_S) (k : Int) : Bool := ff_by S (ff_who S k.toNat) (ff_sd S k)
theorem ff_own_q (S : ff_S) : ff_own S = ff_cn (ff_qo S) (ff_ns S) 0 := by
  unfold ff_own
  rw [ff_cn_slr (ff_kn (S 5) 5) (fun c => ff_exl S 1 c 1 3 4) (fun x hx => by
    unfold ff_kn
    rw [decide_eq_true_eq]
    intro h9
    rw [ff_exl_1, ff_by_9 S x h9] at hx
    cases hx)]
  show ff_cn _ (ff_ns S) 0 = _
  refine ff_cn_congr _ _ (fun k hk => ?_)
  show ff_exl S 1 (ff_who S (0 + (k : Int)).toNat) 1 3 4 = _
  rw [ff_exl_1]
  rfl
theorem ff_mask_tb (S : ff_S) (c : Int) (h : 0 ≤ S 1 4 ∧ S 1 4 ≤ 10) {e : Nat} (he : e < ff_ns S) : (ff_mask S c).toNat.testBit e = ff_by S c (ff_sd S (e : Int)) := by
  have hn := ff_ns_r h
  have hb := ff_bits_tb (fun e => ff_by S c (ff_sd S e)) (ff_ns S) 0 0 (by omega) (by omega) (by decide) e
  rw [if_neg (by omega)] at hb
  simp only [Nat.zero_add, he, decide_true, Bool.true_and] at hb
  exact hb
theorem k_X6_205 {d : Nat} (h : 3 < d) : ez_CallOK LM RX6 d (205, 6+1, 2, sp_X6_isBy) := ez_callV (y := yX6_isBy) (bytes := cX6_isBy) so_X6_isBy h (by decide) q_978 q_78 ⟨by decide +kernel, by decide +kernel, by decide +kernel⟩ (Or.inl q_975) q_977 q_63 (T := TX6) (N := 28) rfl
def sp_X6_laySaints : ez_Sp := fun as M Q => match as with | [.inr (.inr q)] => q = 0 ∧ ff_Inv (ff_N M) ∧ ∀ N : ez_M, ff_N N = ff_N M → N 0 19 = ff_ns (ff_N M) → (∀ j : Nat, j < ff_ns (ff_N M) → N 13 j = ff_mask (ff_N M) (ff_who (ff_N M) j)) → Q (some (.inl (ff_own (ff_N M)))) N | _ => False
def e_X6_laySaints : ez_E := (fl_X6, co_X6, [(205, 6+1, 2, sp_X6_isBy)], 0, 4)
set_option maxHeartbeats 4000000 in
set_option maxRecDepth 100000 in
theorem b_X6_laySaints : ez_Body LM e_X6_laySaints p_X6_laySaints sp_X6_laySaints := by
  intro as M Q has hM hsp
  unfold sp_X6_laySaints at hsp
  split at hsp
  rotate_left
  · exact hsp.elim
  rename_i q
  obtain ⟨rfl, hI, hsp⟩ := hsp
  have hn := ff_n_N hI
  have hn4 : 0 ≤ ff_N M 1 4 ∧ ff_N M 1 4 ≤ 10 := hn
  have hns := ff_ns_r hn4
  rw [ff_own_q] at hsp
  refine ⟨Nat.le_of_ble_eq_true rfl, fun cut hcut hkut => ?_⟩
  have two : ∀ (n k : Nat) (z : Int) (N : ez_M), k + n = ff_ns (ff_N M) → 0 ≤ z → z ≤ k → ff_N N = ff_N M → N 0 19 = ff_ns (ff_N M) → (∀ j : Nat, j < ff_ns (ff_N M) → N 12 j = ff_who (ff_N M) j) → (∀ j : Nat, j < k → N 13 j = ff_mask (ff_N M) (ff_who (ff_N M) j)) → z + ff_cn (ff_qo (ff_N M)) n k = ff_cn (ff_qo (ff_N M)) (ff_ns (ff_N M)) 0 → cut 61 [(0, .inr (.inr 0)), (1, .inl z), (2, .inl (k : Int))] [] N := by
    intro n
    induction n with
    | zero =>
      intro k z N hk hz0 hz1 hX h19 hw hl he
      simp only [ff_cn, Int.add_zero] at he
      have hsp := hsp N hX h19 (fun j hj => hl j (by omega))
      rw [← he] at hsp
      refine hkut [(61, [0, 1, 2]), (78, [0, 1, 2, 3])] 60 61 _ _ _ ?_
      repeat' (first | (intro hh; exfalso; omega) | (refine And.intro (by first | assumption | omega) ?_) | (refine And.intro rfl ?_) | (refine And.intro ?_ ?_) | (intro qq hq1 hq2 hq3; have hq4 := hq2 (by omega) (by omega); subst hq4) | (intro hh) | omega | exact trivial)
      all_goals exact hsp
    | succ n ih =>
      intro k z N hk hz0 hz1 hX h19 hw hl he
      have hwk := ff_who_r (S := ff_N M) (k := k) (by omega) hn4.1
      have inner : ∀ (m o : Nat) (a : Int) (N : ez_M), o + m = ff_ns (ff_N M) → 0 ≤ a → a < 2 ^ o → ff_N N = ff_N M → N 0 19 = ff_ns (ff_N M) → (∀ j : Nat, j < ff_ns (ff_N M) → N 12 j = ff_who (ff_N M) j) → (∀ j : Nat, j < k → N 13 j = ff_mask (ff_N M) (ff_who (ff_N M) j)) → N 13 k = a → ff_bits (fun e => ff_by (ff_N M) (ff_who (ff_N M) k) (ff_sd (ff_N M) e)) m o a = ff_mask (ff_N M) (ff_who (ff_N M) k) → cut 78 [(0, .inr (.inr 0)), (1, .inl z), (2, .inl (k : Int)), (3, .inl (o : Int))] [] N := by
        intro m
        induction m with
        | zero =>
          intro o a N ho ha0 ha1 hX h19 hw hl hka hb
          simp only [ff_bits] at hb
          have hmr := ff_mask_r (ff_N M) (ff_who (ff_N M) k) hn4
          have hka2 : N 13 k = ff_mask (ff_N M) (ff_who (ff_N M) k) := by rw [hka, hb]
          have htb := ez_tb (x := N 13 k) (k := k) (by omega) (by omega) (by omega)
          unfold ff_b at htb
          rw [hka2, ff_mask_tb (ff_N M) _ hn4 (by omega), ← hka2] at htb
          simp only [ff_cn] at he
          have hqo : ff_qo (ff_N M) k = ff_by (ff_N M) (ff_who (ff_N M) k) (ff_sd (ff_N M) k) := by
            unfold ff_qo
            rw [Int.toNat_natCast]
          rw [hqo, ← htb] at he
          have hand := ez_and1 (ez_shr (N 13 k) k)
          have hand2 := ez_and1 (ez_shr (N 13 ((k : Nat) : Int).toNat) k)
          have hz2 : 0 ≤ z ∧ z ≤ 10 := by omega
          have ih := ih (k + 1) (z + ez_and (ez_shr (N 13 k) k) 1) N (by omega) (by omega) (by omega) hX h19 hw (fun j hj => by
            by_cases hjk : j = k
            · rw [hjk, hka2]
            · exact hl j (by omega)) (by
            rw [show ((k + 1 : Nat) : Int) = (k : Int) + 1 by omega]
            omega)
          refine hkut [(61, [0, 1, 2]), (78, [0, 1, 2, 3])] 60 78 _ _ _ ?_
          repeat' (first | (intro hh; exfalso; omega) | (refine And.intro (by first | assumption | omega) ?_) | (refine And.intro rfl ?_) | (refine And.intro ?_ ?_) | (intro qq hq1 hq2 hq3; have hq4 := hq2 (by omega) (by omega); subst hq4) | (intro hh) | omega | exact trivial)
          all_goals exact ih
        | succ m ihm =>
          intro o a N ho ha0 ha1 hX h19 hw hl hka hb
          have h7 : N 7 = M 7 := congrFun hX 5
          have h13 : N 0 13 = M 0 13 := congrFun (congrFun hX 1) 4
          have hIN : ff_Inv (ff_N N) := by rw [hX]; exact hI
          have hwo := ff_who_r (S := ff_N M) (k := o) (by omega) hn4.1
          have hwo2 : ff_who (ff_N M) o < M 0 13 := hwo.2.1
          have hwk2 : ff_who (ff_N M) k < M 0 13 := hwk.2.1
          have e1 : N 12 ((k : Nat) : Int).toNat = ff_who (ff_N M) k := hw k (by omega)
          have e2 : N 12 ((o : Nat) : Int).toNat = ff_who (ff_N M) o := hw o (by omega)
          have hsr := ff_sd_r hI (e := o) (by omega)
          have hsd : ff_sd (ff_N M) (o : Int) = N 7 (11 * N 12 ((o : Nat) : Int).toNat + 5).toNat := by
            rw [e2, h7]
            unfold ff_sd
            rw [Int.toNat_natCast]
            rfl
          have hpw : (2 : Int) ^ o ≤ 2 ^ 10 := by
            have := Nat.pow_le_pow_right (n := 2) (by decide) (show o ≤ 10 by omega)
            exact_mod_cast this
          have hp10 : (2 : Int) ^ 10 = 1024 := by decide
          have hbs := ff_bits_s ha0 ha1 (by omega) (ff_by (ff_N M) (ff_who (ff_N M) k) (ff_sd (ff_N M) o))
          have hshl := ff_shl_n (n := (o : Int)) ⟨by omega, by omega⟩
          simp only [ff_bits] at hb
          have ihm := fun (v : Int) (hv0 : 0 ≤ v) (hv1 : v < 2 ^ (o + 1)) (hb : ff_bits (fun e => ff_by (ff_N M) (ff_who (ff_N M) k) (ff_sd (ff_N M) e)) m ((o : Int) + 1) v = ff_mask (ff_N M) (ff_who (ff_N M) k)) => ihm (o + 1) v (ez_up N 13 k v) (by omega) hv0 hv1 (by rw [ff_N_scr _ 13 _ _ (by omega), hX]) (by rw [ez_up_ne 0 (by decide)]; exact h19) (by rw [ez_up_ne 12 (by decide)]; exact hw) (fun j hj => by
            have hjk : ¬ j = k := by omega
            simp only [ez_up, hjk, and_false, if_false]
            exact hl j hj) (by simp [ez_up]) hb
          refine hkut [(78, [0, 1, 2, 3])] 80 78 _ _ _ ?_
          cases hby : ff_by (ff_N M) (ff_who (ff_N M) k) (ff_sd (ff_N M) o)
          · simp only [hby, Bool.false_eq_true, if_false] at hb hbs
            have ihm := ihm a hbs.1 hbs.2 hb
            rw [← ez_or_0 ha0 (by omega), ← hka] at ihm
            rw [hsd, ← e1, ← hX] at hby
            rw [hsd] at hsr
            repeat' (first | (intro hh; exfalso; omega) | (refine And.intro (by first | assumption | omega) ?_) | (refine And.intro rfl ?_) | (refine And.intro ?_ ?_) | (intro qq hq1 hq2 hq3; have hq4 := hq2 (by omega) (by omega); subst hq4) | (intro hh) | omega | exact trivial)
            all_goals first | exact ihm | (rename_i hz; rw [hby] at hz; cases hz; done)
          · simp only [hby, if_true] at hb hbs
            have ihm := ihm _ hbs.1 hbs.2 hb
            rw [← hka] at ihm
            rw [hsd, ← e1, ← hX] at hby
            rw [hsd] at hsr
            repeat' (first | (intro hh; exfalso; omega) | (refine And.intro (by first | assumption | omega) ?_) | (refine And.intro rfl ?_) | (refine And.intro ?_ ?_) | (intro qq hq1 hq2 hq3; have hq4 := hq2 (by omega) (by omega); subst hq4) | (intro hh) | omega | exact trivial)
            all_goals first | exact ihm | (rename_i hz; rw [hby] at hz; cases hz; done)
      have h0 := inner (ff_ns (ff_N M)) 0 0 (ez_up N 13 k 0) (by omega) (by omega) (by decide) (by rw [ff_N_scr _ 13 _ _ (by omega), hX]) (by rw [ez_up_ne 0 (by decide)]; exact h19) (by rw [ez_up_ne 12 (by decide)]; exact hw) (fun j hj => by
        have hjk : ¬ j = k := by omega
        simp only [ez_up, hjk, and_false, if_false]
        exact hl j hj) (by simp [ez_up]) rfl
      refine hkut [(61, [0, 1, 2]), (78, [0, 1, 2, 3])] 60 61 _ _ _ ?_
      repeat' (first | (intro hh; exfalso; omega) | (refine And.intro (by first | assumption | omega) ?_) | (refine And.intro rfl ?_) | (refine And.intro ?_ ?_) | (intro qq hq1 hq2 hq3; have hq4 := hq2 (by omega) (by omega); subst hq4) | (intro hh) | omega | exact trivial)
      all_goals exact h0
  have one : ∀ (n : Nat) (c : Int) (N : ez_M) (p : Nat), c + n = M 0 13 → 0 ≤ c → ff_N N = ff_N M → N 0 19 = (p : Int) → (p : Int) ≤ c → p + (ff_slr (ff_kn (ff_N M 5) 5) n c).length = ff_ns (ff_N M) → (∀ j, j < p → N 12 j = ff_who (ff_N M) j) → (ff_T (ff_N M)).drop p = ff_slr (ff_kn (ff_N M 5) 5) n c → cut 7 [(0, .inr (.inr 0)), (1, .inl c)] [] N := by
    intro n
    induction n with
    | zero =>
      intro c N p hc h0 hX hp hpc hl hE hd
      have h13 : N 0 13 = M 0 13 := congrFun (congrFun hX 1) 4
      simp only [ff_slr, List.length_nil, Nat.add_zero] at hl
      have h2 := two (ff_ns (ff_N M)) 0 0 N (by omega) (by omega) (by omega) hX (by omega) (fun j hj => hE j (by omega)) (fun j hj => by omega) (by rw [Int.zero_add]; rfl)
      refine hkut [(7, [0, 1]), (61, [0, 1, 2])] 60 7 _ _ _ ?_
      repeat' (first | (intro hh; exfalso; omega) | (refine And.intro (by first | assumption | omega) ?_) | (refine And.intro rfl ?_) | (refine And.intro ?_ ?_) | (intro qq hq1 hq2 hq3; have hq4 := hq2 (by omega) (by omega); subst hq4) | (intro hh) | omega | exact trivial)
      all_goals exact h2
    | succ n ih =>
      intro c N p hc h0 hX hp hpc hl hE hd
      have h13 : N 0 13 = M 0 13 := congrFun (congrFun hX 1) 4
      have h7 : N 7 = ff_N M 5 := congrFun hX 5
      simp only [ff_slr] at hl hd
      refine hkut [(7, [0, 1]), (61, [0, 1, 2])] 60 7 _ _ _ ?_
      by_cases hs : N 7 (11 * c + 5).toNat = -9
      · have hk : ¬ ff_kn (ff_N M 5) 5 c = true := by
          unfold ff_kn
          rw [← h7]
          simp [hs]
        rw [if_neg hk] at hl hd
        repeat' (first | (intro hh; exfalso; omega) | (refine And.intro (by first | assumption | omega) ?_) | (refine And.intro rfl ?_) | (refine And.intro ?_ ?_) | (intro qq hq1 hq2 hq3; have hq4 := hq2 (by omega) (by omega); subst hq4) | (intro hh) | omega | exact trivial)
        all_goals exact ih (c + 1) N p (by omega) (by omega) hX hp (by omega) hl hE hd
      · have hk : ff_kn (ff_N M 5) 5 c = true := by
          unfold ff_kn
          rw [← h7]
          simp [hs]
        rw [if_pos hk] at hl hd
        simp only [List.length_cons] at hl
        have hwho : ff_who (ff_N M) p = c := by
          have h1 : ((ff_T (ff_N M)).drop p)[0]? = some c := by rw [hd]; rfl
          rw [List.getElem?_drop, Nat.add_zero] at h1
          unfold ff_who
          rw [List.getD_eq_getElem?_getD, h1]
          rfl
        have hd2 : (ff_T (ff_N M)).drop (p + 1) = ff_slr (ff_kn (ff_N M 5) 5) n (c + 1) := by
          rw [← List.tail_drop, hd]
          rfl
        have h19 : ez_up N 12 (N 0 19).toNat c 0 19 = N 0 19 := by simp [ez_up]
        have key := ih (c + 1) (ez_up (ez_up N 12 (N 0 19).toNat c) 0 19 (ez_up N 12 (N 0 19).toNat c 0 19 + 1)) (p + 1) (by omega) (by omega) (by rw [ff_N_fld _ 19 _ (by decide), ff_N_scr _ 12 _ _ (by omega), hX]) (by rw [h19]; simp [ez_up, hp]) (by omega) (by omega) (by
          intro j hj
          by_cases hjp : j = p
          · subst hjp
            rw [hwho]
            simp [ez_up, hp]
          · have := hE j (by omega)
            simp [ez_up, hp, hjp, this]) hd2
        repeat' (first | (intro hh; exfalso; omega) | (refine And.intro (by first | assumption | omega) ?_) | (refine And.intro rfl ?_) | (refine And.intro ?_ ?_) | (intro qq hq1 hq2 hq3; have hq4 := hq2 (by omega) (by omega); subst hq4) | (intro hh) | omega | exact trivial)
        all_goals exact key
  have hl := one (M 0 13).toNat 0 (ez_up M 0 19 0) 0 (by omega) (by omega) (ff_N_fld M 19 0 (by decide)) (by simp [ez_up]) (by omega) (by rw [Nat.zero_add]; rfl) (fun j hj => absurd hj (by omega)) rfl
  refine hkut [(7, [0, 1])] 60 0 _ _ _ ?_
  repeat' (first | (intro hh; exfalso; omega) | (refine And.intro (by first | assumption | omega) ?_) | (refine And.intro rfl ?_) | (refine And.intro ?_ ?_) | (intro qq hq1 hq2 hq3; have hq4 := hq2 (by omega) (by omega); subst hq4) | (intro hh) | omega | exact trivial)
  all_goals exact hl
theorem so_X6_laySaints : ez_Sound LM yX6_laySaints cX6_laySaints 4 (some .int) 4 sp_X6_laySaints := ez_sound (E := e_X6_laySaints) (prog := p_X6_laySaints) LM_ok (by decide +kernel) rfl (fun _ h => h) fo_X6 co_X6_ok (List.forall_mem_cons.mpr ⟨k_X6_205 (by decide), fun _ h => absurd h List.not_mem_nil⟩) dp_X6_laySaints b_X6_laySaints
theorem k_X6_208 {d : Nat} (h : 4 < d) : ez_CallOK LM RX6 d (208, 6+1, 0, sp_X6_laySaints) := ez_callV (y := yX6_laySaints) (bytes := cX6_laySaints) so_X6_laySaints h (by decide) q_974 q_78 ⟨by decide +kernel, by decide +kernel, by decide +kernel⟩ (Or.inl q_971) q_973 q_62 (T := TX6) (N := 28) rfl
def sp_X6_own : ez_Sp := fun as M Q => match as with | [.inr (.inr q)] => q = 0 ∧ ff_Inv (ff_N M) ∧ (∀ M' : ez_M, ff_N M' = ff_N M → Q (some (.inl (op_own (ff_N M)))) M') | _ => False
def e_X6_own : ez_E := (fl_X6, co_X6, [(208, 6+1, 0, sp_X6_laySaints)], 0, 1)
set_option maxHeartbeats 4000000 in
set_option maxRecDepth 100000 in
theorem b_X6_own : ez_Body LM e_X6_own p_X6_own sp_X6_own := by
  intro as M Q has hM hsp
  unfold sp_X6_own at hsp
  split at hsp
  rotate_left
  · exact hsp.elim
  rename_i q
  obtain ⟨rfl, hI, hsp⟩ := hsp
  refine ⟨Nat.le_of_ble_eq_true rfl, fun cut hcut hkut => ?_⟩
  suffices hgo : ∀ M' : ez_M, ff_N M' = ff_N M → cut 5 [(0, .inr (.inr 0))] [] M' by
    refine hkut [(5, [0])] 60 0 _ _ _ ?_
    exact hgo _ (ff_N_th M)
  clear hM
  intro M hth
  rw [← hth] at hI hsp
  clear hth
  have hn := ff_n_N hI
  refine hkut [] 60 5 _ _ _ ?_
  refine And.intro rfl (And.intro hI ?_)
  intro N hX h1 h2
  exact hsp N hX
theorem so_X6_own : ez_Sound LM yX6_own cX6_own 1 (some .int) 5 sp_X6_own := ez_sound (E := e_X6_own) (prog := p_X6_own) LM_ok (by decide +kernel) rfl (fun _ h => h) fo_X6 co_X6_ok (List.forall_mem_cons.mpr ⟨k_X6_208 (by decide), fun _ h => absurd h List.not_mem_nil⟩) dp_X6_own b_X6_own
