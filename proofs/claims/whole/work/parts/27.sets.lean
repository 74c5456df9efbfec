/-! ===== sets of rules, of churches ===== -/
def ff_fil (M : ez_M) (f : Nat → Int) (k : Nat) : ez_M := fun i j => if i = 21 ∧ j < k then f j else M i j
theorem ff_fil_s (M : ez_M) (f : Nat → Int) (k : Nat) : ez_up (ff_fil M f k) 21 k (f k) = ff_fil M f (k + 1) := by
  funext i j
  simp only [ez_up, ff_fil]
  grind
theorem ff_fil_X (M : ez_M) (f : Nat → Int) (k : Nat) : ff_X (ff_fil M f k) = ff_X M := by
  funext r j
  rcases r with _ | _ | _ | _ | _ | _ | _ | _ | _ | _ | r <;> rfl
theorem ff_fil_7 (M : ez_M) (f : Nat → Int) (k : Nat) : ff_fil M f k 7 1 = M 7 1 := rfl
theorem ff_al_iff (p : Int → Bool) : ∀ (n : Nat) (y : Int), ff_al p n y = true ↔ ∀ k : Nat, k < n → p (y + k) = true
  | 0, y => by simp [ff_al]
  | n + 1, y => by
    simp only [ff_al, Bool.and_eq_true]
    rw [ff_al_iff p n (y + 1)]
    constructor
    · intro h k hk
      cases k with
      | zero =>
        rw [show y + ((0 : Nat) : Int) = y by omega]
        exact h.1
      | succ k =>
        have := h.2 k (by omega)
        rw [show y + ((k + 1 : Nat) : Int) = y + 1 + (k : Int) by omega]
        exact this
    · intro h
      refine ⟨?_, fun k hk => ?_⟩
      · have := h 0 (by omega)
        rw [show y + ((0 : Nat) : Int) = y by omega] at this
        exact this
      · have := h (k + 1) (by omega)
        rw [show y + ((k + 1 : Nat) : Int) = y + 1 + (k : Int) by omega] at this
        exact this
theorem ff_al_congr {p q : Int → Bool} {n : Nat} {y : Int} (h : ∀ k : Nat, k < n → p (y + k) = q (y + k)) : ff_al p n y = ff_al q n y := by
  rw [Bool.eq_iff_iff, ff_al_iff, ff_al_iff]
  constructor
  · intro g k hk
    rw [← h k hk]
    exact g k hk
  · intro g k hk
    rw [h k hk]
    exact g k hk
def ff_sufS (S : ff_S) (set : Int) : Bool := ff_suf (fun j => ff_rules S (j : Int)) (S 1 4) set
theorem ff_suf_congr {B B' : Nat → Int} {n s : Int} (h : ∀ j : Nat, (j : Int) < n → B j = B' j) : ff_suf B n s = ff_suf B' n s := by
  unfold ff_suf
  refine ff_al_congr (fun k hk => ?_)
  unfold ff_sufp
  rw [h _ (by omega)]
def ff_fw (S : ff_S) : Nat → Int → Int → Int
  | 0, _, f => f
  | n + 1, s, f => if ff_pop s < ff_pop f ∧ ff_sufS S s = true then ff_fw S n (s + 1) s else ff_fw S n (s + 1) f
def op_fewest (S : ff_S) : Int := ff_fw S 63 0 63
theorem k_X5_177 {d : Nat} (h : 1 < d) : ez_CallOK LX RX5 d (177, 5+1, 1, sp_X5_suffices) := ez_callV (y := yX5_suffices) (bytes := cX5_suffices) so_X5_suffices h (by decide) q_472 q_72 ⟨by decide +kernel, by decide +kernel, by decide +kernel⟩ (Or.inl q_469) q_471 q_22 (T := TX5) (N := 10) rfl
def sp_X5_fewest : ez_Sp := fun as M Q => match as with | [.inr (.inr q)] => q = 0 ∧ ff_Inv (ff_X M) ∧ (∀ M' : ez_M, ff_X M' = ff_X M → Q (some (.inl (op_fewest (ff_X M)))) M') | _ => False
def e_X5_fewest : ez_E := (fl_X5, co_X5, [(154, 5+1, 1, sp_X5_rulesThatExplain), (61, 0, 3, sp_X5_put), (172, 0, 1, sp_J6_bitCount_0f7a4), (177, 5+1, 1, sp_X5_suffices)], 0, 4)
set_option maxHeartbeats 4000000 in
set_option maxRecDepth 100000 in
theorem b_X5_fewest : ez_Body LX e_X5_fewest p_X5_fewest sp_X5_fewest := by
  intro as M Q has hM hsp
  unfold sp_X5_fewest at hsp
  split at hsp
  rotate_left
  · exact hsp.elim
  rename_i q
  obtain ⟨rfl, hI, hsp⟩ := hsp
  have hn := ff_n_X hI
  refine ⟨Nat.le_of_ble_eq_true rfl, fun cut hcut hkut => ?_⟩
  generalize hf : (fun j : Nat => ff_rules (ff_X M) (j : Int)) = f
  have hfv : ∀ j : Nat, f j = ff_rules (ff_X M) (j : Int) := fun j => by rw [← hf]
  unfold op_fewest at hsp
  have two : ∀ (n : Nat) (s w : Int), s + n = 63 → 0 ≤ s → 0 ≤ w → w ≤ 63 → (∀ M' : ez_M, ff_X M' = ff_X M → Q (some (.inl (ff_fw (ff_X M) n s w))) M') → cut 39 [(0, .inr (.inr 0)), (1, .inl 63), (2, .inl w), (3, .inl s)] [] (ff_fil M f (M 7 1).toNat) := by
    have e7 := ff_fil_7 M f (M 7 1).toNat
    have e21 : ∀ s : Int, ff_suf (ff_fil M f (M 7 1).toNat 21) (ff_fil M f (M 7 1).toNat 7 1) s = ff_sufS (ff_X M) s := fun s => by
      unfold ff_sufS
      refine ff_suf_congr (fun j hj => ?_)
      rw [e7] at hj
      show (if 21 = 21 ∧ j < (M 7 1).toNat then f j else M 21 j) = ff_rules (ff_X M) (j : Int)
      rw [if_pos ⟨rfl, by omega⟩, hfv]
    have eX := ff_fil_X M f (M 7 1).toNat
    generalize ff_fil M f (M 7 1).toNat = N at e7 e21 eX ⊢
    intro n
    induction n with
    | zero =>
      intro s w hs h0 hw0 hw1 hq
      refine hkut [(39, [0, 1, 2, 3])] 60 39 _ _ _ ?_
      repeat' (first | (intro hh; exfalso; omega) | (refine And.intro (by first | assumption | omega) ?_) | (refine And.intro rfl ?_) | (refine And.intro ?_ ?_) | (intro qq hq1 hq2 hq3; have hq4 := hq2 (by omega) (by omega); subst hq4) | (intro hh) | omega | exact trivial)
      all_goals exact hq N eX
    | succ n ih =>
      intro s w hs h0 hw0 hw1 hq
      simp only [ff_fw] at hq
      refine hkut [(39, [0, 1, 2, 3])] 60 39 _ _ _ ?_
      by_cases hp : ff_pop s < ff_pop w
      · cases hc : ff_sufS (ff_X M) s
        · rw [if_neg (fun z => by rw [hc] at z; cases z.2)] at hq
          have hc2 := hc
          rw [← e21] at hc2
          repeat' (first | (intro hh; exfalso; omega) | (refine And.intro (by first | assumption | omega) ?_) | (refine And.intro rfl ?_) | (refine And.intro ?_ ?_) | (intro qq hq1 hq2 hq3; have hq4 := hq2 (by omega) (by omega); subst hq4) | (intro hh) | omega | exact trivial)
          all_goals first | exact ih _ _ (by omega) (by omega) (by omega) (by omega) hq | (exfalso; simp_all; done)
        · rw [if_pos ⟨hp, hc⟩] at hq
          have hc2 := hc
          rw [← e21] at hc2
          repeat' (first | (intro hh; exfalso; omega) | (refine And.intro (by first | assumption | omega) ?_) | (refine And.intro rfl ?_) | (refine And.intro ?_ ?_) | (intro qq hq1 hq2 hq3; have hq4 := hq2 (by omega) (by omega); subst hq4) | (intro hh) | omega | exact trivial)
          all_goals first | exact ih _ _ (by omega) (by omega) (by omega) (by omega) hq | (exfalso; simp_all; done)
      · rw [if_neg (fun z => hp z.1)] at hq
        repeat' (first | (intro hh; exfalso; omega) | (refine And.intro (by first | assumption | omega) ?_) | (refine And.intro rfl ?_) | (refine And.intro ?_ ?_) | (intro qq hq1 hq2 hq3; have hq4 := hq2 (by omega) (by omega); subst hq4) | (intro hh) | omega | exact trivial)
        all_goals exact ih _ _ (by omega) (by omega) (by omega) (by omega) hq
  have one : ∀ (n k : Nat), (k : Int) + n = M 7 1 → cut 2 [(0, .inr (.inr 0)), (1, .inl (k : Int))] [] (ff_fil M f k) := by
    intro n
    induction n with
    | zero =>
      intro k hk
      have hkn : k = (M 7 1).toNat := by omega
      have e7 := ff_fil_7 M f k
      refine hkut [(2, [0, 1]), (39, [0, 1, 2, 3])] 60 2 _ _ _ ?_
      have h2 := two 63 0 63 (by omega) (by omega) (by omega) (by omega) hsp
      rw [← hkn] at h2
      generalize ff_fil M f k = N at e7 h2 ⊢
      repeat' (first | (intro hh; exfalso; omega) | (refine And.intro (by first | assumption | omega) ?_) | (refine And.intro rfl ?_) | (refine And.intro ?_ ?_) | (intro qq hq1 hq2 hq3; have hq4 := hq2 (by omega) (by omega); subst hq4) | (intro hh) | omega | exact trivial)
      all_goals exact h2
    | succ n ih =>
      intro k hk
      have ih := ih (k + 1) (by omega)
      have e7 := ff_fil_7 M f k
      have eX := ff_fil_X M f k
      have hI2 : ff_Inv (ff_X (ff_fil M f k)) := by rw [eX]; exact hI
      rw [← ff_fil_s, hfv k, ← eX] at ih
      generalize ff_fil M f k = N at e7 eX hI2 ih ⊢
      refine hkut [(2, [0, 1]), (39, [0, 1, 2, 3])] 60 2 _ _ _ ?_
      repeat' (first | (intro hh; exfalso; omega) | (refine And.intro (by first | assumption | omega) ?_) | (refine And.intro rfl ?_) | (refine And.intro ?_ ?_) | (intro qq hq1 hq2 hq3; have hq4 := hq2 (by omega) (by omega); subst hq4) | (intro hh) | omega | exact trivial)
      all_goals exact ih
  have h0 := one (M 7 1).toNat 0 (by omega)
  have e : ff_fil M f 0 = M := by
    funext i j
    simp [ff_fil]
  rw [e] at h0
  refine hkut [(2, [0, 1]), (39, [0, 1, 2, 3])] 60 0 _ _ _ ?_
  exact h0
theorem so_X5_fewest : ez_Sound LX yX5_fewest cX5_fewest 4 (some .int) 6 sp_X5_fewest := ez_sound (E := e_X5_fewest) (prog := p_X5_fewest) LX_ok (by decide +kernel) rfl (fun _ h => h) fo_X5 co_X5_ok (List.forall_mem_cons.mpr ⟨k_X5_154 (by decide), List.forall_mem_cons.mpr ⟨k_X5_61 (by decide), List.forall_mem_cons.mpr ⟨k_X5_172 (by decide), List.forall_mem_cons.mpr ⟨k_X5_177 (by decide), fun _ h => absurd h List.not_mem_nil⟩⟩⟩⟩) dp_X5_fewest b_X5_fewest
/-! ===== masters ===== -/
/-- two churches are alike, by x degrees and y years -/
def ff_lkp (S : ff_S) (x y c o : Int) : Bool := decide (ff_off (S 5 (11 * c + 1).toNat) (S 5 (11 * o + 1).toNat) ≤ x ∧ ((ff_mid (S 5) c - ff_mid (S 5) o).natAbs : Int) ≤ y)
def ff_like (S : ff_S) (x y c : Int) : Int := ff_bits (ff_lkp S x y c) (S 1 4).toNat 0 0
def ff_on (set a : Int) : Bool := decide (ez_and (ez_shr set a) 1 = 1)
/-- no two of a set but are alike -/
def ff_prs (S : ff_S) (x y set : Int) : Bool := ff_al (fun a => ff_al (fun b => decide (ff_on set a = true ∧ ff_on set b = true → ff_lkp S x y a b = true)) a.toNat 0) (S 1 4).toNat 0
def ff_ms (al : Int → Bool) : Nat → Int → Int → Int
  | 0, _, z => z
  | n + 1, s, z => if al s = true ∧ ff_pop z < ff_pop s then ff_ms al n (s + 1) s else ff_ms al n (s + 1) z
def op_master (S : ff_S) (x y : Int) : Int := if (0 ≤ x ∧ x ≤ 180) ∧ (0 ≤ y ∧ y ≤ 599) then ff_ms (ff_prs S x y) (ez_shl 1 (S 1 4) - 1).toNat 1 0 else -2
def ff_alkp (B : Nat → Int) (set c : Int) : Bool := decide (¬ ez_and (ez_shr set c) 1 = 1 ∨ ez_and set (ez_xor (B c.toNat) (-1)) = 0)
def ff_alk (B : Nat → Int) (n set : Int) : Bool := ff_al (ff_alkp B set) n.toNat 0
theorem ff_on_tb {s : Int} {k : Nat} (h0 : 0 ≤ s) (h1 : s < 2147483648) (hk : k < 32) : ff_on s (k : Int) = s.toNat.testBit k := by
  unfold ff_on
  rw [ez_tb h0 h1 hk]
  unfold ff_b
  cases h : s.toNat.testBit k <;> simp
theorem ez_andnot {s l : Int} (h0 : 0 ≤ s) (h1 : s < 2147483648) (l0 : 0 ≤ l) (l1 : l < 2147483648) : ez_and s (ez_xor l (-1)) = 0 ↔ ∀ i : Nat, s.toNat.testBit i = true → l.toNat.testBit i = true := by
  obtain ⟨a, rfl⟩ := Int.eq_ofNat_of_zero_le h0
  obtain ⟨b, rfl⟩ := Int.eq_ofNat_of_zero_le l0
  unfold ez_and ez_xor
  rw [ez_of32, ez_ofn, ez_ofn, show (0 : Int) = (0 : Int32).toInt from rfl, Int32.toInt_inj, ← Int32.toBitVec_inj]
  show BitVec.ofNat 32 a &&& (BitVec.ofNat 32 b ^^^ BitVec.ofInt 32 (-1)) = 0#32 ↔ _
  rw [show BitVec.ofInt 32 (-1) = BitVec.allOnes 32 by decide]
  simp only [Int.toNat_natCast]
  have ha : a < 2 ^ 32 := by omega
  have hb : b < 2 ^ 32 := by omega
  constructor
  · intro h i hi
    have hlt : i < 32 := by
      rcases Nat.lt_or_ge i 32 with q | q
      · exact q
      · rw [Nat.testBit_lt_two_pow (Nat.lt_of_lt_of_le ha (Nat.pow_le_pow_right (by decide) q))] at hi
        cases hi
    have := congrArg (fun z => BitVec.getLsbD z i) h
    simp only [BitVec.getLsbD_and, BitVec.getLsbD_xor, BitVec.getLsbD_ofNat, BitVec.getLsbD_allOnes, hlt, decide_true, Bool.true_and, hi] at this
    cases hbi : b.testBit i
    · rw [hbi] at this
      simp at this
    · rfl
  · intro h
    apply BitVec.eq_of_getLsbD_eq
    intro i hi
    have := h i
    simp only [BitVec.getLsbD_and, BitVec.getLsbD_xor, BitVec.getLsbD_ofNat, BitVec.getLsbD_allOnes, BitVec.getLsbD_zero, hi, decide_true, Bool.true_and]
    cases h1 : a.testBit i
    · simp
    · rw [this h1]
      simp
theorem ff_bits_tb (p : Int → Bool) : ∀ (n k : Nat) (a : Int), n + k ≤ 30 → 0 ≤ a → a < 2 ^ k → ∀ o : Nat, (ff_bits p n (k : Int) a).toNat.testBit o = (if o < k then a.toNat.testBit o else (decide (o < k + n) && p (o : Int)))
  | 0, k, a, _, h0, h1, o => by
    simp only [ff_bits, Nat.add_zero]
    split
    · rfl
    · rename_i ho
      have ha : a.toNat < 2 ^ k := by
        have h2 : ((a.toNat : Nat) : Int) < ((2 ^ k : Nat) : Int) := by
          rw [Int.toNat_of_nonneg h0]
          simpa using h1
        exact_mod_cast h2
      rw [Nat.testBit_lt_two_pow (Nat.lt_of_lt_of_le ha (Nat.pow_le_pow_right (by decide) (by omega)))]
      simp [ho]
  | n + 1, k, a, hk, h0, h1, o => by
    have hs : ez_shl 1 (k : Int) = 2 ^ k := by rw [ez_shl_n k (by omega)]; simp
    have hp : (2 : Int) ^ (k + 1) = 2 ^ k + 2 ^ k := by rw [Int.pow_succ]; omega
    have ho := ez_or_p h0 h1 (by omega)
    have h2 : (0 : Int) < 2 ^ k := Int.pow_pos (by decide)
    have ha : a.toNat < 2 ^ k := by
      have h2 : ((a.toNat : Nat) : Int) < ((2 ^ k : Nat) : Int) := by
        rw [Int.toNat_of_nonneg h0]
        simpa using h1
      exact_mod_cast h2
    simp only [ff_bits]
    have ih := ff_bits_tb p n (k + 1) (if p (k : Int) = true then ez_or a (ez_shl 1 (k : Int)) else a) (by omega) (by
      split
      · rw [hs, ho]; omega
      · omega) (by
      rw [hp]
      split
      · rw [hs, ho]; omega
      · omega) o
    have ih : (ff_bits p n ((k : Int) + 1) (if p (k : Int) = true then ez_or a (ez_shl 1 (k : Int)) else a)).toNat.testBit o = _ := ih
    rw [ih]
    have hk1 : k + 1 + n = k + (n + 1) := by omega
    rw [hk1]
    have hadd : (a + 2 ^ k).toNat = a.toNat ||| 2 ^ k := by
      rw [Nat.or_two_pow_eq_add_of_lt ha, Int.toNat_add h0 (by omega)]
      congr 1
    by_cases ho1 : o < k
    · rw [if_pos (by omega), if_pos ho1]
      split
      · rw [hs, ho, hadd, Nat.testBit_or, Nat.testBit_two_pow]
        have : ¬ k = o := by omega
        simp [this]
      · rfl
    · rw [if_neg ho1]
      by_cases ho2 : o = k
      · subst ho2
        rw [if_pos (by omega)]
        have hz : a.toNat.testBit o = false := Nat.testBit_lt_two_pow ha
        split
        · rename_i hpk
          rw [hs, ho, hadd, Nat.testBit_or, Nat.testBit_two_pow_self, hpk]
          simp
        · rename_i hpk
          rw [hz]
          have : p (o : Int) = false := by simpa using hpk
          simp [this]
      · rw [if_neg (by omega)]
theorem ff_off_comm (a b : Int) : ff_off a b = ff_off b a := by
  unfold ff_off
  rw [show (a - b).natAbs = (b - a).natAbs by omega]
theorem ff_lkp_comm (S : ff_S) (x y c o : Int) : ff_lkp S x y c o = ff_lkp S x y o c := by
  unfold ff_lkp
  rw [ff_off_comm, show (ff_mid (S 5) c - ff_mid (S 5) o).natAbs = (ff_mid (S 5) o - ff_mid (S 5) c).natAbs by omega]
theorem ff_lkp_self (S : ff_S) {x y : Int} (hx : 0 ≤ x) (hy : 0 ≤ y) (c : Int) : ff_lkp S x y c c = true := by
  unfold ff_lkp ff_off
  rw [decide_eq_true_eq]
  omega
theorem ff_alk_prs {S : ff_S} {B : Nat → Int} {x y s : Int} (hx : 0 ≤ x) (hy : 0 ≤ y) (hn : 0 ≤ S 1 4 ∧ S 1 4 ≤ 10) (hB : ∀ j : Nat, (j : Int) < S 1 4 → B j = ff_like S x y (j : Int)) (h0 : 0 ≤ s) (h1 : s.toNat < 2 ^ (S 1 4).toNat) : ff_alk B (S 1 4) s = ff_prs S x y s := by
  have hs : s < 2147483648 := by
    have h2 : (2 : Nat) ^ (S 1 4).toNat ≤ 2 ^ 10 := Nat.pow_le_pow_right (by decide) (by omega)
    omega
  have tb : ∀ k : Nat, k < 32 → ff_on s (k : Int) = s.toNat.testBit k := fun k hk => ff_on_tb h0 hs hk
  have lim : ∀ k : Nat, s.toNat.testBit k = true → k < (S 1 4).toNat := fun k hk => by
    rcases Nat.lt_or_ge k (S 1 4).toNat with q | q
    · exact q
    · rw [Nat.testBit_lt_two_pow (Nat.lt_of_lt_of_le h1 (Nat.pow_le_pow_right (by decide) q))] at hk
      cases hk
  have lk : ∀ (c i : Nat), i < (S 1 4).toNat → (ff_like S x y (c : Int)).toNat.testBit i = ff_lkp S x y (c : Int) (i : Int) := fun c i hi => by
    have h := ff_bits_tb (ff_lkp S x y (c : Int)) (S 1 4).toNat 0 0 (by omega) (by omega) (by decide) i
    rw [if_neg (by omega)] at h
    simp only [Nat.zero_add, hi, decide_true, Bool.true_and] at h
    exact h
  have lr : ∀ c : Nat, 0 ≤ ff_like S x y (c : Int) ∧ ff_like S x y (c : Int) < 2147483648 := fun c => by
    have h := ff_bits_r (ff_lkp S x y (c : Int)) (S 1 4).toNat 0 0 (by omega) (by omega) (by decide)
    have h2 : (2 : Int) ^ ((S 1 4).toNat + 0) ≤ 2 ^ 10 := by
      have := Nat.pow_le_pow_right (n := 2) (by decide) (show (S 1 4).toNat + 0 ≤ 10 by omega)
      exact_mod_cast this
    have h3 : (2 : Int) ^ 10 = 1024 := by decide
    have h4 : 0 ≤ ff_like S x y (c : Int) ∧ ff_like S x y (c : Int) < 2 ^ ((S 1 4).toNat + 0) := h
    omega
  rw [Bool.eq_iff_iff]
  unfold ff_alk ff_prs
  rw [ff_al_iff, ff_al_iff]
  constructor
  · intro h a ha
    rw [Int.zero_add, ff_al_iff]
    intro b hb
    rw [Int.zero_add, decide_eq_true_eq]
    intro hab
    have hb : b < a := by simpa using hb
    rw [tb a (by omega), tb b (by omega)] at hab
    have hc := of_decide_eq_true (h a ha)
    rw [Int.zero_add] at hc
    have hon := tb a (by omega)
    unfold ff_on at hon
    rw [hab.1, decide_eq_true_eq] at hon
    have hc := hc.resolve_left (fun q => q hon)
    rw [show ((a : Int)).toNat = a by simp, hB a (by omega)] at hc
    rw [ez_andnot h0 hs (lr a).1 (lr a).2] at hc
    rw [← lk a b (by omega)]
    exact hc b hab.2
  · intro h a ha
    rw [Int.zero_add]
    unfold ff_alkp
    rw [decide_eq_true_eq]
    by_cases hon : ez_and (ez_shr s (a : Int)) 1 = 1
    · right
      have hta : s.toNat.testBit a = true := by
        rw [← tb a (by omega)]
        exact decide_eq_true hon
      rw [show ((a : Int)).toNat = a by simp, hB a (by omega)]
      rw [ez_andnot h0 hs (lr a).1 (lr a).2]
      intro i hi
      have hin := lim i hi
      rw [lk a i hin]
      rcases Nat.lt_trichotomy i a with q | q | q
      · have hp := h a ha
        rw [Int.zero_add, ff_al_iff] at hp
        have hp := hp i (by simpa using q)
        rw [Int.zero_add, decide_eq_true_eq, tb a (by omega), tb i (by omega)] at hp
        exact hp ⟨hta, hi⟩
      · subst q
        exact ff_lkp_self S hx hy _
      · have hp := h i hin
        rw [Int.zero_add, ff_al_iff] at hp
        have hp := hp a (by simpa using q)
        rw [Int.zero_add, decide_eq_true_eq, tb a (by omega), tb i (by omega)] at hp
        rw [ff_lkp_comm]
        exact hp ⟨hi, hta⟩
    · left
      exact hon

