/-! ===== goes and luck ===== -/
def ff_gnd (S : ff_S) (k : Int) : Int := ff_nd (S 1 3) (S 3) (S 4) (ff_mid (S 5) k)
def ff_gln (S : ff_S) (k : Int) : Int := ff_aside (S 5 (11 * k + 1).toNat)
def ff_goes (S : ff_S) : Int := ff_so (ff_gnd S) (ff_gln S) (S 1 4).toNat 0
def op_goes (S : ff_S) : Int := ff_goes S
def ff_rng : Nat → Int → List Int
  | 0, _ => []
  | n + 1, k => k :: ff_rng n (k + 1)
/-- the c places of o in the order that r tells -/
def ff_pl : Nat → List Int → Int → List Int
  | 0, _, _ => []
  | c + 1, o, r => o.getD (r % ((c + 1 : Nat) : Int)).toNat 0 :: ff_pl c (o.eraseIdx (r % ((c + 1 : Nat) : Int)).toNat) (r / ((c + 1 : Nat) : Int))
def ff_per (n : Nat) (w : Int) : List Int := ff_pl n (ff_rng n 0) w
def ff_sp (S : ff_S) (w : Int) : Int := ff_so (ff_gnd S) (fun k => ff_gln S ((ff_per (S 1 4).toNat w).getD k.toNat 0)) (S 1 4).toNat 0
def ff_lp (S : ff_S) (w : Int) : Bool := decide (ff_goes S ≤ ff_sp S w)
def op_luck (S : ff_S) (up : Int) : Int := if 1 ≤ S 1 4 ∧ S 1 4 ≤ 6 then ff_lt (ff_cn (ff_lp S) (ff_fa (S 1 4).toNat).toNat 0) (ff_fa (S 1 4).toNat) up else -3
theorem ff_rng_in : ∀ (n : Nat) (k x : Int), x ∈ ff_rng n k → k ≤ x ∧ x < k + n
  | 0, _, _, h => by cases h
  | n + 1, k, x, h => by
    rcases List.mem_cons.mp h with rfl | h
    · omega
    · have := ff_rng_in n (k + 1) x h
      omega
theorem ff_rng_len : ∀ (n : Nat) (k : Int), (ff_rng n k).length = n
  | 0, _ => rfl
  | n + 1, k => by simp only [ff_rng, List.length_cons, ff_rng_len n (k + 1)]
theorem ff_pl_in : ∀ (c : Nat) (o : List Int) (r x : Int), o.length = c → x ∈ ff_pl c o r → x ∈ o
  | 0, _, _, _, _, h => by cases h
  | c + 1, o, r, x, ho, h => by
    have h0 := Int.emod_nonneg r (by omega : ((c + 1 : Nat) : Int) ≠ 0)
    have h1 := Int.emod_lt_of_pos r (by omega : 0 < ((c + 1 : Nat) : Int))
    have hl : (r % ((c + 1 : Nat) : Int)).toNat < o.length := by omega
    rcases List.mem_cons.mp h with h | h
    · rw [List.getD_eq_getElem?_getD, List.getElem?_eq_getElem hl] at h
      rw [h]
      exact List.getElem_mem hl
    · have := ff_pl_in c _ _ x (by rw [List.length_eraseIdx_of_lt hl]; omega) h
      exact List.mem_of_mem_eraseIdx this
theorem ff_pl_len : ∀ (c : Nat) (o : List Int) (r : Int), (ff_pl c o r).length = c
  | 0, _, _ => rfl
  | c + 1, o, r => by simp only [ff_pl, List.length_cons, ff_pl_len c]
theorem ff_per_r {n : Nat} {w : Int} {k : Nat} (hk : k < n) : 0 ≤ (ff_per n w).getD k 0 ∧ (ff_per n w).getD k 0 < n := by
  have hl : k < (ff_per n w).length := by
    unfold ff_per
    rw [ff_pl_len]
    exact hk
  rw [List.getD_eq_getElem?_getD, List.getElem?_eq_getElem hl]
  have := ff_rng_in n 0 _ (ff_pl_in n _ w _ (ff_rng_len n 0) (List.getElem_mem hl))
  exact ⟨this.1, by simpa using this.2⟩
theorem ff_per_1 : ∀ w : Fin 1, ff_dxl 1 1 (w.val : Int) = ff_per 1 w.val := by decide +kernel
theorem ff_per_2 : ∀ w : Fin 2, ff_dxl 2 3 (w.val : Int) = ff_per 2 w.val := by decide +kernel
theorem ff_per_3 : ∀ w : Fin 6, ff_dxl 3 7 (w.val : Int) = ff_per 3 w.val := by decide +kernel
theorem ff_per_4 : ∀ w : Fin 24, ff_dxl 4 15 (w.val : Int) = ff_per 4 w.val := by decide +kernel
theorem ff_per_5 : ∀ w : Fin 120, ff_dxl 5 31 (w.val : Int) = ff_per 5 w.val := by decide +kernel
theorem ff_per_6 : ∀ w : Fin 720, ff_dxl 6 63 (w.val : Int) = ff_per 6 w.val := by decide +kernel
theorem ff_dxl_per {p : Int} {w : Int} (h1 : 1 ≤ p) (h6 : p ≤ 6) (hw0 : 0 ≤ w) (hw : w < ff_fa p.toNat) : ff_dxl p.toNat (ez_shl 1 p - 1) w = ff_per p.toNat w := by
  have hp : p = 1 ∨ p = 2 ∨ p = 3 ∨ p = 4 ∨ p = 5 ∨ p = 6 := by omega
  obtain ⟨k, rfl⟩ := Int.eq_ofNat_of_zero_le hw0
  rcases hp with rfl | rfl | rfl | rfl | rfl | rfl
  · have e : ez_shl 1 1 - 1 = 1 := by decide
    rw [e]
    exact ff_per_1 ⟨k, by have e : ff_fa (1 : Int).toNat = 1 := by decide
                          rw [e] at hw
                          omega⟩
  · have e : ez_shl 1 2 - 1 = 3 := by decide
    rw [e]
    exact ff_per_2 ⟨k, by have e : ff_fa (2 : Int).toNat = 2 := by decide
                          rw [e] at hw
                          omega⟩
  · have e : ez_shl 1 3 - 1 = 7 := by decide
    rw [e]
    exact ff_per_3 ⟨k, by have e : ff_fa (3 : Int).toNat = 6 := by decide
                          rw [e] at hw
                          omega⟩
  · have e : ez_shl 1 4 - 1 = 15 := by decide
    rw [e]
    exact ff_per_4 ⟨k, by have e : ff_fa (4 : Int).toNat = 24 := by decide
                          rw [e] at hw
                          omega⟩
  · have e : ez_shl 1 5 - 1 = 31 := by decide
    rw [e]
    exact ff_per_5 ⟨k, by have e : ff_fa (5 : Int).toNat = 120 := by decide
                          rw [e] at hw
                          omega⟩
  · have e : ez_shl 1 6 - 1 = 63 := by decide
    rw [e]
    exact ff_per_6 ⟨k, by have e : ff_fa (6 : Int).toNat = 720 := by decide
                          rw [e] at hw
                          omega⟩
theorem ff_X_dxm (p : Int) : ∀ (c : Nat) (left num : Int) (M : ez_M), ff_X (ff_dxm p c left num M) = ff_X M
  | 0, _, _, _ => rfl
  | c + 1, left, num, M => by
    simp only [ff_dxm]
    rw [ff_X_dxm p c, ff_X_scr M 19 _ _ (by decide)]
theorem ff_goes_so {M N : ez_M} (hN : N 16 3 = M 7 1) (hf : ∀ j : Nat, (j : Int) < M 7 1 → N 17 j = ff_gnd (ff_X M) j) (ln : Nat → Int) (hl : ∀ j : Nat, (j : Int) < M 7 1 → N 19 j = ln j) (h0 : 0 ≤ M 7 1) : ff_so (fun k => N 17 k.toNat) (fun k => N 19 k.toNat) (N 16 3).toNat 0 = ff_so (ff_gnd (ff_X M)) (fun k => ln k.toNat) (ff_X M 1 4).toNat 0 := by
  rw [hN]
  show _ = ff_so (ff_gnd (ff_X M)) (fun k => ln k.toNat) (M 7 1).toNat 0
  refine ff_so_congr (N := M 7 1) (fun k hk0 hk1 => ?_) _ 0 (by omega) (by omega)
  have a := hf k.toNat (by omega)
  have b := hl k.toNat (by omega)
  rw [show ((k.toNat : Nat) : Int) = k by omega] at a
  exact ⟨a, b⟩
theorem ff_goes_so2 {M : ez_M} (h0 : 0 ≤ M 7 1) : ff_so (ff_gnd (ff_X M)) (fun k => ff_gln (ff_X M) ((k.toNat : Nat) : Int)) (ff_X M 1 4).toNat 0 = ff_goes (ff_X M) := by
  unfold ff_goes
  show ff_so _ _ (M 7 1).toNat 0 = ff_so _ _ (M 7 1).toNat 0
  refine ff_so_congr (N := M 7 1) (fun k hk0 hk1 => ⟨rfl, ?_⟩) _ 0 (by omega) (by omega)
  show ff_gln _ ((k.toNat : Nat) : Int) = _
  rw [show ((k.toNat : Nat) : Int) = k by omega]
theorem k_X5_266 {d : Nat} (h : 0 < d) : ez_CallOK LX RX5 d (266, 2+1, 0, sp_X2_clearLines) := ez_callV (y := yX2_clearLines) (bytes := cX2_clearLines) so_X2_clearLines h (by decide) q_560 q_77 ⟨by decide +kernel, by decide +kernel, by decide +kernel⟩ (Or.inr ⟨"EastNearly", q_557⟩) q_559 q_36 (T := TX2) (N := 4) rfl
theorem k_X5_272 {d : Nat} (h : 0 < d) : ez_CallOK LX RX5 d (272, 0, 1, sp_X5_fromEast) := ez_callS (y := yX5_fromEast) (bytes := cX5_fromEast) so_X5_fromEast h (by decide) q_567 q_72 ⟨by decide +kernel, by decide +kernel, by decide +kernel⟩ (Or.inl q_565) q_566
theorem k_X5_275 {d : Nat} (h : 1 < d) : ez_CallOK LX RX5 d (275, 2+1, 2, sp_X2_addLine) := ez_callV (y := yX2_addLine) (bytes := cX2_addLine) so_X2_addLine h (by decide) q_571 q_77 ⟨by decide +kernel, by decide +kernel, by decide +kernel⟩ (Or.inr ⟨"EastNearly", q_568⟩) q_570 q_38 (T := TX2) (N := 4) rfl
theorem k_X5_202 {d : Nat} (h : 1 < d) : ez_CallOK LX RX5 d (202, 2+1, 0, sp_X2_score) := ez_callV (y := yX2_score) (bytes := cX2_score) so_X2_score h (by decide) q_576 q_77 ⟨by decide +kernel, by decide +kernel, by decide +kernel⟩ (Or.inr ⟨"EastNearly", q_573⟩) q_575 q_39 (T := TX2) (N := 4) rfl
def sp_X5_scoreAsBuilt : ez_Sp := fun as M Q => match as with | [.inr (.inr q)] => q = 0 ∧ ff_Inv (ff_X M) ∧ ∀ N : ez_M, ff_X N = ff_X M → N 16 3 = M 7 1 → (∀ j : Nat, (j : Int) < M 7 1 → N 17 j = ff_gnd (ff_X M) j ∧ N 18 j = ff_gln (ff_X M) j) → Q (some (.inl (ff_goes (ff_X M)))) N | _ => False
def e_X5_scoreAsBuilt : ez_E := (fl_X5, co_X5, [(266, 2+1, 0, sp_X2_clearLines), (269, 1+1, 1, sp_X1_middleYear), (123, 0+1, 1, sp_X0_needleIn), (139, 1+1, 2, sp_X1_get), (272, 0, 1, sp_X5_fromEast), (275, 2+1, 2, sp_X2_addLine), (202, 2+1, 0, sp_X2_score)], 0, 3)
set_option maxHeartbeats 4000000 in
set_option maxRecDepth 100000 in
theorem b_X5_scoreAsBuilt : ez_Body LX e_X5_scoreAsBuilt p_X5_scoreAsBuilt sp_X5_scoreAsBuilt := by
  intro as M Q has hM hsp
  unfold sp_X5_scoreAsBuilt at hsp
  split at hsp
  rotate_left
  · exact hsp.elim
  rename_i q
  obtain ⟨rfl, hI, hsp⟩ := hsp
  have hn := ff_n_X hI
  refine ⟨Nat.le_of_ble_eq_true rfl, fun cut hcut hkut => ?_⟩
  have loop : ∀ (n : Nat) (c : Int) (N : ez_M), c + n = M 7 1 → 0 ≤ c → ff_X N = ff_X M → N 16 3 = c → (∀ j : Nat, (j : Int) < c → N 17 j = ff_gnd (ff_X M) j ∧ N 18 j = ff_gln (ff_X M) j ∧ N 19 j = ff_gln (ff_X M) j) → cut 9 [(0, .inr (.inr 0)), (1, .inl c)] [] N := by
    intro n
    induction n with
    | zero =>
      intro c N hc h0 hX h16 hf
      have h71 : N 7 1 = M 7 1 := congrFun (congrFun hX 1) 4
      have hsp := hsp N hX (by omega) (fun j hj => ⟨(hf j (by omega)).1, (hf j (by omega)).2.1⟩)
      have he := ff_goes_so (M := M) (N := N) (by omega) (fun j hj => (hf j (by omega)).1) (fun j => ff_gln (ff_X M) j) (fun j hj => (hf j (by omega)).2.2) hn.1
      have he2 := ff_goes_so2 (M := M) hn.1
      rw [← he2, ← he] at hsp
      refine hkut [(9, [0, 1])] 60 9 _ _ _ ?_
      repeat' (first | (intro hh; exfalso; omega) | (refine And.intro (by first | assumption | omega) ?_) | (refine And.intro rfl ?_) | (refine And.intro ?_ ?_) | (intro qq hq1 hq2 hq3; have hq4 := hq2 (by omega) (by omega); subst hq4) | (intro hh) | omega | exact trivial)
      all_goals exact hsp
    | succ n ih =>
      intro c N hc h0 hX h16 hf
      have hIN : ff_Inv (ff_X N) := by rw [hX]; exact hI
      have h71 : N 7 1 = M 7 1 := congrFun (congrFun hX 1) 4
      have hb := ff_bk_X hIN
      have hch := ff_ch_X hIN (c := c) h0 (by omega)
      have hm := ff_mid_r hch
      unfold ff_ch at hch
      have h8 : N 8 = ff_X M 5 := congrFun hX 5
      have ha : ff_nd (N 3 4) (N 5) (N 6) (ff_mid (N 8) c) = ff_gnd (ff_X M) c := by
        rw [← ff_nd_X N hb.1.1, hX, h8]
        rfl
      have hbb : ff_aside (N 8 (11 * c + 1).toNat) = ff_gln (ff_X M) c := by
        rw [h8]
        rfl
      have ih := ih (c + 1) (ez_up (ez_up (ez_up (ez_up N 17 (N 16 3).toNat (ff_nd (N 3 4) (N 5) (N 6) (ff_mid (N 8) c))) 18 (N 16 3).toNat (ff_aside (N 8 (11 * c + 1).toNat))) 19 (N 16 3).toNat (ff_aside (N 8 (11 * c + 1).toNat))) 16 3 (N 16 3 + 1)) (by omega) (by omega) (by rw [ff_X_scr _ 16 _ _ (by decide), ff_X_scr _ 19 _ _ (by decide), ff_X_scr _ 18 _ _ (by decide), ff_X_scr _ 17 _ _ (by decide), hX]) (by simp [ez_up]; omega) (fun j hj => ?_)
      · refine hkut [(9, [0, 1])] 60 9 _ _ _ ?_
        repeat' (first | (intro hh; exfalso; omega) | (refine And.intro (by first | assumption | omega) ?_) | (refine And.intro rfl ?_) | (refine And.intro ?_ ?_) | (intro qq hq1 hq2 hq3; have hq4 := hq2 (by omega) (by omega); subst hq4) | (intro hh) | omega | exact trivial)
        all_goals exact ih
      · rw [ha, hbb, h16]
        by_cases hjc : (j : Int) < c
        · have := hf j hjc
          have hne : ¬ j = c.toNat := by omega
          simp [ez_up, hne, this]
        · have hje : j = c.toNat := by omega
          have hjc : (j : Int) = c := by omega
          rw [hjc, ← hje]
          simp [ez_up]
  refine hkut [(9, [0, 1])] 60 0 _ _ _ ?_
  have h16 : (ez_up M 16 3 0) 16 3 = 0 := by simp [ez_up]
  have hl := loop (M 7 1).toNat 0 (ez_up M 16 3 0) (by omega) (by omega) (ff_X_scr M 16 3 0 (by decide)) h16 (fun j hj => by omega)
  repeat' (first | (intro hh; exfalso; omega) | (refine And.intro (by first | assumption | omega) ?_) | (refine And.intro rfl ?_) | (refine And.intro ?_ ?_) | (intro qq hq1 hq2 hq3; have hq4 := hq2 (by omega) (by omega); subst hq4) | (intro hh) | omega | exact trivial)
  all_goals exact hl
theorem so_X5_scoreAsBuilt : ez_Sound LX yX5_scoreAsBuilt cX5_scoreAsBuilt 3 (some .int) 3 sp_X5_scoreAsBuilt := ez_sound (E := e_X5_scoreAsBuilt) (prog := p_X5_scoreAsBuilt) LX_ok (by decide +kernel) rfl (fun _ h => h) fo_X5 co_X5_ok (List.forall_mem_cons.mpr ⟨k_X5_266 (by decide), List.forall_mem_cons.mpr ⟨k_X5_269 (by decide), List.forall_mem_cons.mpr ⟨k_X5_123 (by decide), List.forall_mem_cons.mpr ⟨k_X5_139 (by decide), List.forall_mem_cons.mpr ⟨k_X5_272 (by decide), List.forall_mem_cons.mpr ⟨k_X5_275 (by decide), List.forall_mem_cons.mpr ⟨k_X5_202 (by decide), fun _ h => absurd h List.not_mem_nil⟩⟩⟩⟩⟩⟩⟩) dp_X5_scoreAsBuilt b_X5_scoreAsBuilt
theorem k_X5_195 {d : Nat} (h : 3 < d) : ez_CallOK LX RX5 d (195, 5+1, 0, sp_X5_scoreAsBuilt) := ez_callV (y := yX5_scoreAsBuilt) (bytes := cX5_scoreAsBuilt) so_X5_scoreAsBuilt h (by decide) q_556 q_72 ⟨by decide +kernel, by decide +kernel, by decide +kernel⟩ (Or.inl q_553) q_555 q_35 (T := TX5) (N := 10) rfl
def sp_X5_goes : ez_Sp := fun as M Q => match as with | [.inr (.inr q)] => q = 0 ∧ ff_Inv (ff_X M) ∧ (∀ M' : ez_M, ff_X M' = ff_X M → Q (some (.inl (op_goes (ff_X M)))) M') | _ => False
def e_X5_goes : ez_E := (fl_X5, co_X5, [(195, 5+1, 0, sp_X5_scoreAsBuilt)], 0, 1)
set_option maxHeartbeats 4000000 in
set_option maxRecDepth 100000 in
theorem b_X5_goes : ez_Body LX e_X5_goes p_X5_goes sp_X5_goes := by
  intro as M Q has hM hsp
  unfold sp_X5_goes at hsp
  split at hsp
  rotate_left
  · exact hsp.elim
  rename_i q
  obtain ⟨rfl, hI, hsp⟩ := hsp
  unfold op_goes at hsp
  refine ⟨Nat.le_of_ble_eq_true rfl, fun cut hcut hkut => hcut [] 60 0 _ _ _ ?_⟩
  refine And.intro rfl (And.intro hI ?_)
  intro N hX h1 h2
  exact hsp N hX
theorem so_X5_goes : ez_Sound LX yX5_goes cX5_goes 1 (some .int) 4 sp_X5_goes := ez_sound (E := e_X5_goes) (prog := p_X5_goes) LX_ok (by decide +kernel) rfl (fun _ h => h) fo_X5 co_X5_ok (List.forall_mem_cons.mpr ⟨k_X5_195 (by decide), fun _ h => absurd h List.not_mem_nil⟩) dp_X5_goes b_X5_goes
theorem k_X5_198 {d : Nat} (h : 1 < d) : ez_CallOK LX RX5 d (198, 2+1, 1, sp_X2_deal) := ez_callV (y := yX2_deal) (bytes := cX2_deal) so_X2_deal h (by decide) q_588 q_77 ⟨by decide +kernel, by decide +kernel, by decide +kernel⟩ (Or.inr ⟨"EastNearly", q_585⟩) q_587 q_40 (T := TX2) (N := 4) rfl
def sp_X5_luck : ez_Sp := fun as M Q => match as with | [.inr (.inr q), .inl up] => q = 0 ∧ ff_Inv (ff_X M) ∧ (up = 0 ∨ up = 1) ∧ (∀ M' : ez_M, ff_X M' = ff_X M → Q (some (.inr (.inl (op_luck (ff_X M) up)))) M') | _ => False
def e_X5_luck : ez_E := (fl_X5, co_X5, [(83, 0, 3, sp_X5_within), (195, 5+1, 0, sp_X5_scoreAsBuilt), (198, 2+1, 1, sp_X2_deal), (202, 2+1, 0, sp_X2_score), (159, 0, 3, sp_X5_inLeastTerms)], 2, 6)
set_option maxHeartbeats 4000000 in
set_option maxRecDepth 100000 in
theorem b_X5_luck : ez_Body LX e_X5_luck p_X5_luck sp_X5_luck := by
  intro as M Q has hM hsp
  unfold sp_X5_luck at hsp
  split at hsp
  rotate_left
  · exact hsp.elim
  rename_i q up
  have g_up : -2147483648 ≤ up ∧ up ≤ 2147483647 := ez_hd (ez_tl (has))
  obtain ⟨rfl, hI, hup, hsp⟩ := hsp
  have hn := ff_n_X hI
  unfold op_luck at hsp
  by_cases h1 : 1 ≤ ff_X M 1 4 ∧ ff_X M 1 4 ≤ 6
  · have h1m : 1 ≤ M 7 1 ∧ M 7 1 ≤ 6 := h1
    simp only [if_pos h1] at hsp
    refine ⟨Nat.le_of_ble_eq_true rfl, fun cut hcut hkut => ?_⟩
    have hFr : 1 ≤ ff_fa (ff_X M 1 4).toNat ∧ ff_fa (ff_X M 1 4).toNat ≤ 3628800 := ff_fa_r _ (by omega)
    generalize hF : ff_fa (ff_X M 1 4).toNat = F at hsp hFr
    generalize hA : ff_cn (ff_lp (ff_X M)) F.toNat 0 = A at hsp
    have loop : ∀ (n : Nat) (w a : Int) (N : ez_M), ff_X N = ff_X M → N 16 3 = M 7 1 → (∀ j : Nat, (j : Int) < M 7 1 → N 17 j = ff_gnd (ff_X M) j ∧ N 18 j = ff_gln (ff_X M) j) → w + n = F → 0 ≤ w → 0 ≤ a → a ≤ w → a + ff_cn (ff_lp (ff_X M)) n w = A → cut 59 [(0, .inr (.inr 0)), (1, .inl up), (2, .inl (ff_goes (ff_X M))), (3, .inl F), (4, .inl a), (5, .inl w)] [] N := by
      intro n
      induction n with
      | zero =>
        intro w a N hX h16 hf hw h0 ha0 ha1 he
        simp only [ff_cn, Int.add_zero] at he
        have hsp := hsp N hX
        refine hkut [(59, [0, 1, 2, 3, 4, 5])] 60 59 _ _ _ ?_
        subst he
        repeat' (first | (intro hh; exfalso; omega) | (refine And.intro (by first | assumption | omega) ?_) | (refine And.intro rfl ?_) | (refine And.intro ?_ ?_) | (intro qq hq1 hq2 hq3; have hq4 := hq2 (by omega) (by omega); subst hq4) | (intro hh) | omega | exact trivial)
        all_goals exact hsp
      | succ n ih =>
        intro w a N hX h16 hf hw h0 ha0 ha1 he
        have hdx : ff_dxl (N 16 3).toNat (ez_shl 1 (N 16 3) - 1) w = ff_per (N 16 3).toNat w := ff_dxl_per (by omega) (by omega) h0 (by
          rw [h16]
          have : ff_fa (M 7 1).toNat = F := hF
          omega)
        have hr16 := congrFun (ff_dxm_row (N 16 3) (N 16 3).toNat (ez_shl 1 (N 16 3) - 1) w N 16 (by decide)) 3
        have hr17 := ff_dxm_row (N 16 3) (N 16 3).toNat (ez_shl 1 (N 16 3) - 1) w N 17 (by decide)
        have hr18 := ff_dxm_row (N 16 3) (N 16 3).toNat (ez_shl 1 (N 16 3) - 1) w N 18 (by decide)
        have hrX := ff_X_dxm (N 16 3) (N 16 3).toNat (ez_shl 1 (N 16 3) - 1) w N
        have hr19 : ∀ j : Nat, (j : Int) < M 7 1 → ff_dxm (N 16 3) (N 16 3).toNat (ez_shl 1 (N 16 3) - 1) w N 19 j = ff_gln (ff_X M) ((ff_per (ff_X M 1 4).toNat w).getD j 0) := by
          intro j hj
          have h := ff_dxm_at (N 16 3) (N 16 3).toNat (ez_shl 1 (N 16 3) - 1) w N j (by omega) (by omega)
          rw [show (N 16 3 - ((N 16 3).toNat : Int)).toNat + j = j by omega, hdx, h16] at h
          have hq := ff_per_r (n := (M 7 1).toNat) (w := w) (k := j) (by omega)
          rw [(hf _ (by omega)).2] at h
          rw [h16, h]
          show ff_gln _ ((((ff_per (M 7 1).toNat w).getD j 0).toNat : Nat) : Int) = ff_gln _ ((ff_per (M 7 1).toNat w).getD j 0)
          rw [show ((((ff_per (M 7 1).toNat w).getD j 0).toNat : Nat) : Int) = (ff_per (M 7 1).toNat w).getD j 0 by omega]
        have hlr := ff_shl_n (n := N 16 3) ⟨by omega, by omega⟩
        have hval := ff_goes_so (M := M) (N := ff_dxm (N 16 3) (N 16 3).toNat (ez_shl 1 (N 16 3) - 1) w N) (by rw [hr16, h16]) (fun j hj => by rw [hr17]; exact (hf j hj).1) (fun j => ff_gln (ff_X M) ((ff_per (ff_X M 1 4).toNat w).getD j 0)) hr19 hn.1
        have ih := fun a => ih (w + 1) a (ff_dxm (N 16 3) (N 16 3).toNat (ez_shl 1 (N 16 3) - 1) w N) (by rw [hrX, hX]) (by rw [hr16, h16]) (fun j hj => by rw [hr17, hr18]; exact hf j hj) (by omega) (by omega)
        refine hkut [(59, [0, 1, 2, 3, 4, 5])] 60 59 _ _ _ ?_
        simp only [ff_cn, ff_lp, decide_eq_true_eq] at he
        change _ = ff_sp (ff_X M) w at hval
        split at he
        · (repeat' (first | (intro hh; exfalso; omega) | (refine And.intro (by first | assumption | omega) ?_) | (refine And.intro rfl ?_) | (refine And.intro ?_ ?_) | (intro qq hq1 hq2 hq3; have hq4 := hq2 (by omega) (by omega); subst hq4) | (intro hh) | omega | exact trivial))
          all_goals exact ih _ (by omega) (by omega) (by omega)
        · (repeat' (first | (intro hh; exfalso; omega) | (refine And.intro (by first | assumption | omega) ?_) | (refine And.intro rfl ?_) | (refine And.intro ?_ ?_) | (intro qq hq1 hq2 hq3; have hq4 := hq2 (by omega) (by omega); subst hq4) | (intro hh) | omega | exact trivial))
          all_goals exact ih _ (by omega) (by omega) (by omega)
    have fl : ∀ (N : ez_M), ff_X N = ff_X M → N 16 3 = M 7 1 → (∀ j : Nat, (j : Int) < M 7 1 → N 17 j = ff_gnd (ff_X M) j ∧ N 18 j = ff_gln (ff_X M) j) → ∀ (n : Nat) (i f : Int), i + n = M 7 1 + 1 → 2 ≤ i → f = ff_fa (i - 1).toNat → cut 30 [(0, .inr (.inr 0)), (1, .inl up), (2, .inl (ff_goes (ff_X M))), (3, .inl f), (4, .inl i)] [] N := by
      intro N hX h16 hf n
      have h71 : N 7 1 = M 7 1 := congrFun (congrFun hX 1) 4
      induction n with
      | zero =>
        intro i f hi h2 he
        have hfF : f = F := by
          rw [he, show i - 1 = M 7 1 by omega]
          exact hF
        subst hfF
        have hl := loop f.toNat 0 0 N hX h16 hf (by omega) (by omega) (by omega) (by omega) (by rw [hA]; omega)
        refine hkut [(59, [0, 1, 2, 3, 4, 5])] 60 30 _ _ _ ?_
        repeat' (first | (intro hh; exfalso; omega) | (refine And.intro (by first | assumption | omega) ?_) | (refine And.intro rfl ?_) | (refine And.intro ?_ ?_) | (intro qq hq1 hq2 hq3; have hq4 := hq2 (by omega) (by omega); subst hq4) | (intro hh) | omega | exact trivial)
        all_goals exact hl
      | succ n ih =>
        intro i f hi h2 he
        have hf2 : f * i = ff_fa (i + 1 - 1).toNat := by
          rw [he, show (i + 1 - 1).toNat = (i - 1).toNat + 1 by omega]
          simp only [ff_fa]
          rw [show (((i - 1).toNat + 1 : Nat) : Int) = i by omega, Int.mul_comm]
        have hb := ff_fa_r (i + 1 - 1).toNat (by omega)
        have ih := ih (i + 1) (f * i) (by omega) (by omega) hf2
        rw [← hf2] at hb
        refine hkut [(30, [0, 1, 2, 3, 4])] 60 30 _ _ _ ?_
        repeat' (first | (intro hh; exfalso; omega) | (refine And.intro (by first | assumption | omega) ?_) | (refine And.intro rfl ?_) | (refine And.intro ?_ ?_) | (intro qq hq1 hq2 hq3; have hq4 := hq2 (by omega) (by omega); subst hq4) | (intro hh) | omega | exact trivial)
        all_goals exact ih
    refine hkut [(30, [0, 1, 2, 3, 4])] 60 0 _ _ _ ?_
    repeat' (first | (intro hh; exfalso; omega) | (refine And.intro (by first | assumption | omega) ?_) | (refine And.intro rfl ?_) | (refine And.intro ?_ ?_) | (intro qq hq1 hq2 hq3; have hq4 := hq2 (by omega) (by omega); subst hq4) | (intro hh) | omega | exact trivial)
    all_goals exact fl _ (by assumption) (by assumption) (by assumption) (M 7 1 - 1).toNat 2 1 (by omega) (by omega) rfl
  · have h1m : ¬ (1 ≤ M 7 1 ∧ M 7 1 ≤ 6) := h1
    simp only [if_neg h1] at hsp
    have hsp := hsp M rfl
    refine ⟨Nat.le_of_ble_eq_true rfl, fun cut hcut hkut => hcut [] 60 0 _ _ _ ?_⟩
    repeat' (first | (intro hh; exfalso; omega) | (refine And.intro (by first | assumption | omega) ?_) | (refine And.intro rfl ?_) | (refine And.intro ?_ ?_) | (intro qq hq1 hq2 hq3; have hq4 := hq2 (by omega) (by omega); subst hq4) | (intro hh) | omega | exact trivial)
    all_goals exact hsp
theorem so_X5_luck : ez_Sound LX yX5_luck cX5_luck 6 (some .long) 4 sp_X5_luck := ez_sound (E := e_X5_luck) (prog := p_X5_luck) LX_ok (by decide +kernel) rfl (fun _ h => h) fo_X5 co_X5_ok (List.forall_mem_cons.mpr ⟨k_X5_83 (by decide), List.forall_mem_cons.mpr ⟨k_X5_195 (by decide), List.forall_mem_cons.mpr ⟨k_X5_198 (by decide), List.forall_mem_cons.mpr ⟨k_X5_202 (by decide), List.forall_mem_cons.mpr ⟨k_X5_159 (by decide), fun _ h => absurd h List.not_mem_nil⟩⟩⟩⟩⟩) dp_X5_luck b_X5_luck
