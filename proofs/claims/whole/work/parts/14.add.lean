theorem ez_mem {Q : Option ez_V → ez_M → Prop} {v : Option ez_V} {M M' : ez_M} (h : Q v M) (e : M' = M) : Q v M' := by rw [e]; exact h
theorem ez_retm {Q : Option ez_V → ez_M → Prop} {M M' : ez_M} {a b : Int} (h : Q (some (.inl a)) M) (e : b = a) (e2 : M' = M) : Q (some (.inl b)) M' := by rw [e, e2]; exact h
def ff_row (l li s f t : Int) : Nat → Int
  | 0 => l
  | 1 => li
  | 2 => s
  | 3 => f
  | 4 => t
  | _ => -9
/-- a church more, the n-th -/
def ff_addf (f : Nat → Int) (n l li s fr t : Int) : Nat → Int := fun j => if (11 * n).toNat ≤ j ∧ j < (11 * n).toNat + 11 then ff_row l li s fr t (j - (11 * n).toNat) else f j
def ff_add0 (M : ez_M) (n : Int) (k : Nat) : ez_M := fun i j => if i = 8 ∧ (11 * n).toNat ≤ j ∧ j < (11 * n).toNat + k then -9 else M i j
def ff_add (M : ez_M) (n l li s fr t : Int) : ez_M := fun i j => if i = 8 then ff_addf (M 8) n l li s fr t j else if i = 7 ∧ j = 1 then n + 1 else M i j
theorem ff_add0_s {M : ez_M} {n : Int} {k : Nat} (h : 0 ≤ n) : ez_up (ff_add0 M n k) 8 (11 * n + (k : Int)).toNat (-9) = ff_add0 M n (k + 1) := by
  have e : (11 * n + (k : Int)).toNat = (11 * n).toNat + k := by omega
  rw [e]
  funext i j
  simp only [ez_up, ff_add0]
  grind
theorem ff_add_s {M : ez_M} {n l li s fr t : Int} (h : 0 ≤ n) : ez_up (ez_up (ez_up (ez_up (ez_up (ez_up (ff_add0 M n 11) 8 (11 * n + 0).toNat l) 8 (11 * n + 1).toNat li) 8 (11 * n + 2).toNat s) 8 (11 * n + 3).toNat fr) 8 (11 * n + 4).toNat t) 7 1 (n + 1) = ff_add M n l li s fr t := by
  have e0 : (11 * n + 0).toNat = (11 * n).toNat := by omega
  have e1 : (11 * n + 1).toNat = (11 * n).toNat + 1 := by omega
  have e2 : (11 * n + 2).toNat = (11 * n).toNat + 2 := by omega
  have e3 : (11 * n + 3).toNat = (11 * n).toNat + 3 := by omega
  have e4 : (11 * n + 4).toNat = (11 * n).toNat + 4 := by omega
  rw [e0, e1, e2, e3, e4]
  funext i j
  simp only [ez_up, ff_add0, ff_add, ff_addf]
  generalize (11 * n).toNat = b
  by_cases hi : i = 8
  · subst hi
    by_cases hb : b ≤ j ∧ j < b + 11
    · obtain ⟨k, rfl⟩ : ∃ k, j = b + k := ⟨j - b, by omega⟩
      have hk : k = 0 ∨ k = 1 ∨ k = 2 ∨ k = 3 ∨ k = 4 ∨ (5 ≤ k ∧ k < 11) := by omega
      rcases hk with rfl | rfl | rfl | rfl | rfl | hk
      · simp [ff_row]
      · simp [ff_row]
      · simp [ff_row]
      · simp [ff_row]
      · simp [ff_row]
      · have h5 : ff_row l li s fr t k = -9 := by
          obtain ⟨z, rfl⟩ : ∃ z, k = z + 5 := ⟨k - 5, by omega⟩
          rfl
        simp [h5, hk, show ¬ k = 0 by omega, show ¬ k = 1 by omega, show ¬ k = 2 by omega, show ¬ k = 3 by omega, show ¬ k = 4 by omega]
    · simp [hb, show ¬ j = b by omega, show ¬ j = b + 1 by omega, show ¬ j = b + 2 by omega, show ¬ j = b + 3 by omega, show ¬ j = b + 4 by omega]
  · simp [hi]
theorem k_X1_35 {d : Nat} (h : 2 < d) : ez_CallOK LX RX1 d (35, 1+1, 3, sp_X1_change) := ez_callV (y := yX1_change) (bytes := cX1_change) so_X1_change h (by decide) q_367 q_75 ⟨by decide +kernel, by decide +kernel, by decide +kernel⟩ (Or.inl q_364) q_366 q_13 (T := TX1) (N := 3) rfl
def sp_X1_add : ez_Sp := fun as M Q => match as with | [.inr (.inr q), .inl l, .inl li, .inl s, .inl f, .inl t] => q = 7 ∧ (0 ≤ M 7 1 ∧ M 7 1 ≤ 9) ∧ Q (some (.inl (M 7 1))) (ff_add M (M 7 1) l li s f t) | _ => False
def e_X1_add : ez_E := (fl_X1, co_X1, [(35, 1+1, 3, sp_X1_change)], 0, 8)
set_option maxHeartbeats 4000000 in
set_option maxRecDepth 100000 in
theorem b_X1_add : ez_Body LX e_X1_add p_X1_add sp_X1_add := by
  intro as M Q has hM hsp
  unfold sp_X1_add at hsp
  split at hsp
  rotate_left
  · exact hsp.elim
  rename_i q l li s f t
  have g_l : -2147483648 ≤ l ∧ l ≤ 2147483647 := ez_hd (ez_tl (has))
  have g_li : -2147483648 ≤ li ∧ li ≤ 2147483647 := ez_hd (ez_tl (ez_tl (has)))
  have g_s : -2147483648 ≤ s ∧ s ≤ 2147483647 := ez_hd (ez_tl (ez_tl (ez_tl (has))))
  have g_f : -2147483648 ≤ f ∧ f ≤ 2147483647 := ez_hd (ez_tl (ez_tl (ez_tl (ez_tl (has)))))
  have g_t : -2147483648 ≤ t ∧ t ≤ 2147483647 := ez_hd (ez_tl (ez_tl (ez_tl (ez_tl (ez_tl (has))))))
  obtain ⟨rfl, hv, hsp⟩ := hsp
  refine ⟨Nat.le_of_ble_eq_true rfl, fun cut hcut hkut => ?_⟩
  have loop : ∀ (n k : Nat), k + n = 11 → cut 9 [(7, .inl (k : Int)), (6, .inl (M 7 1)), (0, .inr (.inr 7)), (1, .inl l), (2, .inl li), (3, .inl s), (4, .inl f), (5, .inl t)] [] (ff_add0 M (M 7 1) k) := by
    intro n
    induction n with
    | zero =>
      intro k hk
      obtain rfl : k = 11 := by omega
      rw [← ff_add_s hv.1] at hsp
      have h71 : ∀ (a b c d e : Nat) (v w x y z : Int), ez_up (ez_up (ez_up (ez_up (ez_up (ff_add0 M (M 7 1) 11) 8 a v) 8 b w) 8 c x) 8 d y) 8 e z 7 1 = M 7 1 := by
        intros
        simp [ez_up, ff_add0]
      refine hcut [9] 100 9 _ _ _ ?_
      repeat' (first | (intro hh; exfalso; omega) | (refine And.intro (by first | assumption | omega) ?_) | (refine And.intro rfl ?_) | (refine And.intro ?_ ?_) | (intro qq hq1 hq2 hq3; have hq4 := hq2 (by omega) (by omega); subst hq4) | (intro hh) | exact trivial)
      all_goals first | (rw [h71]; omega) | (refine ez_mem hsp ?_; rw [h71])
    | succ n ih =>
      intro k hk
      have ih := ih (k + 1) (by omega)
      refine hcut [9] 60 9 _ _ _ ?_
      rw [← ff_add0_s hv.1] at ih
      repeat' (first | (intro hh; exfalso; omega) | (refine And.intro (by first | assumption | omega) ?_) | (refine And.intro rfl ?_) | (refine And.intro ?_ ?_) | (intro qq hq1 hq2 hq3; have hq4 := hq2 (by omega) (by omega); subst hq4) | (intro hh) | exact trivial)
      all_goals exact ih
  refine hcut [9] 60 0 _ _ _ ?_
  have h0 := loop 11 0 (by omega)
  have e : ff_add0 M (M 7 1) 0 = M := by
    funext i j
    simp only [ff_add0]
    grind
  rw [e] at h0
  exact h0
theorem so_X1_add : ez_Sound LX yX1_add cX1_add 8 (some .int) 3 sp_X1_add := ez_sound (E := e_X1_add) (prog := p_X1_add) LX_ok (by decide +kernel) rfl (fun _ h => h) fo_X1 co_X1_ok (List.forall_mem_cons.mpr ⟨k_X1_35 (by decide), fun _ h => absurd h List.not_mem_nil⟩) dp_X1_add b_X1_add
