/-! ===== saints dealt anew: ways by sets ===== -/
def ff_sm (f : Nat → Int) : Nat → Int
  | 0 => 0
  | k + 1 => ff_sm f k + f k
/-- ways to deal the saints of a set s to as many places (m), with h hits -/
def ff_W (L : Nat → Nat → Bool) (n : Nat) : Nat → Nat → Nat → Int
  | 0, _, h => if h = 0 then 1 else 0
  | m + 1, s, h => ff_sm (fun e => if s.testBit e = true then (if L m e = true then (match h with
      | 0 => 0
      | h' + 1 => ff_W L n m (s - 2 ^ e) h') else ff_W L n m (s - 2 ^ e) h) else 0) n
/-- what one saint adds -/
def ff_Wt (L : Nat → Nat → Bool) (n m s h e : Nat) : Int := if s.testBit e = true then (if L m e = true then (match h with
      | 0 => 0
      | h' + 1 => ff_W L n m (s - 2 ^ e) h') else ff_W L n m (s - 2 ^ e) h) else 0
theorem ff_W_s (L : Nat → Nat → Bool) (n m s h : Nat) : ff_W L n (m + 1) s h = ff_sm (ff_Wt L n m s h) n := rfl
def ff_ct (t : Nat) : Nat → Nat
  | 0 => 0
  | k + 1 => ff_ct t k + (if t.testBit k = true then 1 else 0)
def ff_pc (t : Nat) : Nat := ff_ct t 10
theorem ff_ct_le (t : Nat) : ∀ (k j : Nat), ff_ct t k ≤ ff_ct t (k + j)
  | k, 0 => Nat.le_refl _
  | k, j + 1 => Nat.le_trans (ff_ct_le t k j) (Nat.le_add_right _ _)
theorem ff_ct_r (t : Nat) : ∀ k : Nat, ff_ct t k ≤ k
  | 0 => Nat.le_refl _
  | k + 1 => by
    have := ff_ct_r t k
    simp only [ff_ct]
    split <;> omega
theorem ff_pps_ct {t : Nat} (ht : t < 2147483648) : ∀ (n k : Nat), n + k ≤ 32 → ff_pps (t : Int) n (k : Int) + (ff_ct t k : Int) = (ff_ct t (k + n) : Int)
  | 0, k, _ => by simp [ff_pps]
  | n + 1, k, h => by
    have ih := ff_pps_ct ht n (k + 1) (by omega)
    have hb := ez_tb (x := (t : Int)) (k := k) (by omega) (by omega) (by omega)
    simp only [ff_pps]
    rw [hb]
    have e : ((k + 1 : Nat) : Int) = (k : Int) + 1 := by omega
    rw [e] at ih
    rw [show k + (n + 1) = k + 1 + n by omega, ← ih]
    have e2 : ff_ct t (k + 1) = ff_ct t k + (if t.testBit k = true then 1 else 0) := rfl
    rw [e2]
    unfold ff_b
    rw [Int.toNat_natCast]
    cases h : t.testBit k
    · simp
    · simp
      omega
theorem ff_pop_pc {t : Nat} (ht : t < 2147483648) : ff_pop (t : Int) = (ff_pc t : Int) := by
  have h := ff_pps_ct ht 10 0 (by omega)
  have h : ff_pps (t : Int) 10 0 + 0 = (ff_ct t 10 : Int) := h
  unfold ff_pop ff_pc
  omega
def ff_fA : Bool := (List.range 1024).all (fun t => (List.range 10).all (fun e => !(t.testBit e) || (Nat.beq (ff_pc (t - 2 ^ e) + 1) (ff_pc t) && Nat.blt (t - 2 ^ e) t && Nat.ble (2 ^ e) t)))
theorem ff_fA_ok : ff_fA = true := by decide +kernel
theorem ff_pc_sub {t e : Nat} (ht : t < 1024) (he : e < 10) (hb : t.testBit e = true) : ff_pc (t - 2 ^ e) + 1 = ff_pc t ∧ t - 2 ^ e < t ∧ 2 ^ e ≤ t := by
  have h := List.all_eq_true.mp (List.all_eq_true.mp ff_fA_ok t (List.mem_range.mpr ht)) e (List.mem_range.mpr he)
  rw [hb] at h
  simp only [Bool.not_true, Bool.false_or, Bool.and_eq_true] at h
  exact ⟨Nat.eq_of_beq_eq_true h.1.1, Nat.le_of_ble_eq_true h.1.2, Nat.le_of_ble_eq_true h.2⟩
theorem ff_fB_ok : (List.range 1024).all (fun t => Nat.beq t 0 || Nat.blt 0 (ff_pc t)) = true := by decide +kernel
theorem ff_pc_pos {t : Nat} (ht : t < 1024) (h0 : 0 < t) : 0 < ff_pc t := by
  have h := List.all_eq_true.mp ff_fB_ok t (List.mem_range.mpr ht)
  simp only [Bool.or_eq_true] at h
  rcases h with h | h
  · have := Nat.eq_of_beq_eq_true h
    omega
  · exact Nat.le_of_ble_eq_true h
theorem ff_fC_ok : (List.range 11).all (fun n => Nat.beq (ff_pc (2 ^ n - 1)) n) = true := by decide +kernel
theorem ff_pc_full {n : Nat} (hn : n ≤ 10) : ff_pc (2 ^ n - 1) = n := Nat.eq_of_beq_eq_true (List.all_eq_true.mp ff_fC_ok n (List.mem_range.mpr (by omega)))
def ff_fa : Nat → Int
  | 0 => 1
  | m + 1 => ((m + 1 : Nat) : Int) * ff_fa m
theorem ff_fa_r : ∀ m : Nat, m ≤ 10 → 1 ≤ ff_fa m ∧ ff_fa m ≤ 3628800 := by
  intro m hm
  have : m = 0 ∨ m = 1 ∨ m = 2 ∨ m = 3 ∨ m = 4 ∨ m = 5 ∨ m = 6 ∨ m = 7 ∨ m = 8 ∨ m = 9 ∨ m = 10 := by omega
  rcases this with rfl | rfl | rfl | rfl | rfl | rfl | rfl | rfl | rfl | rfl | rfl <;> exact ⟨by decide, by decide⟩
theorem ff_sm_r {f : Nat → Int} {t : Nat} {B : Int} (hB : 0 ≤ B) : ∀ (k : Nat), (∀ e, e < k → 0 ≤ f e ∧ f e ≤ (if t.testBit e = true then B else 0)) → 0 ≤ ff_sm f k ∧ ff_sm f k ≤ (ff_ct t k : Int) * B
  | 0, _ => by simp [ff_sm, ff_ct]
  | k + 1, h => by
    have ih := ff_sm_r hB k (fun e he => h e (by omega))
    have hk := h k (by omega)
    simp only [ff_sm, ff_ct]
    split at hk
    · rename_i hb
      rw [if_pos hb]
      have : ((ff_ct t k + 1 : Nat) : Int) * B = (ff_ct t k : Int) * B + B := by
        rw [Int.natCast_add, Int.add_mul]
        simp
      omega
    · rename_i hb
      rw [if_neg hb]
      simp only [Nat.add_zero]
      omega
theorem ff_W_r (L : Nat → Nat → Bool) {n : Nat} (hn : n ≤ 10) : ∀ (m s h : Nat), s < 2 ^ n → ff_pc s = m → 0 ≤ ff_W L n m s h ∧ ff_W L n m s h ≤ ff_fa m
  | 0, s, h, _, _ => by
    simp only [ff_W, ff_fa]
    split <;> omega
  | m + 1, s, h, hs, hp => by
    have h2 : (2 : Nat) ^ n ≤ 2 ^ 10 := Nat.pow_le_pow_right (by decide) hn
    have hm := ff_ct_r s 10
    have hm : m + 1 ≤ 10 := by
      unfold ff_pc at hp
      omega
    have hfa := ff_fa_r m (by omega)
    have hterm : ∀ e, e < n → 0 ≤ ff_Wt L n m s h e ∧ ff_Wt L n m s h e ≤ (if s.testBit e = true then ff_fa m else 0) := by
      intro e he
      unfold ff_Wt
      by_cases hb : s.testBit e = true
      · rw [if_pos hb, if_pos hb]
        have hq := ff_pc_sub (t := s) (e := e) (by omega) (by omega) hb
        have ihr : ∀ h, 0 ≤ ff_W L n m (s - 2 ^ e) h ∧ ff_W L n m (s - 2 ^ e) h ≤ ff_fa m := fun h => ff_W_r L hn m (s - 2 ^ e) h (by omega) (by omega)
        split
        · cases h with
          | zero => exact ⟨Int.le_refl 0, by show (0 : Int) ≤ ff_fa m; omega⟩
          | succ h => exact ihr h
        · exact ihr h
      · rw [if_neg hb, if_neg hb]
        exact ⟨Int.le_refl 0, Int.le_refl 0⟩
    have hr := ff_sm_r (by omega : 0 ≤ ff_fa m) n hterm
    have hc : ff_ct s n ≤ m + 1 := by
      have := ff_ct_le s n (10 - n)
      rw [show n + (10 - n) = 10 by omega] at this
      unfold ff_pc at hp
      omega
    rw [ff_W_s]
    refine ⟨hr.1, Int.le_trans hr.2 ?_⟩
    simp only [ff_fa]
    exact Int.mul_le_mul_of_nonneg_right (by omega) (by omega)
/-- the part of a set's ways, by the saints below k -/
theorem ff_Wp_r (L : Nat → Nat → Bool) {n : Nat} (hn : n ≤ 10) (m s h k : Nat) (hk : k ≤ n) (hs : s < 2 ^ n) (hp : ff_pc s = m + 1) : 0 ≤ ff_sm (ff_Wt L n m s h) k ∧ ff_sm (ff_Wt L n m s h) k ≤ 3628800 := by
  have h2 : (2 : Nat) ^ n ≤ 2 ^ 10 := Nat.pow_le_pow_right (by decide) hn
  have hm := ff_ct_r s 10
  have hm : m + 1 ≤ 10 := by
    unfold ff_pc at hp
    omega
  have hfa := ff_fa_r m (by omega)
  have hfa2 := ff_fa_r (m + 1) hm
  have hterm : ∀ e, e < k → 0 ≤ ff_Wt L n m s h e ∧ ff_Wt L n m s h e ≤ (if s.testBit e = true then ff_fa m else 0) := by
    intro e he
    unfold ff_Wt
    by_cases hb : s.testBit e = true
    · rw [if_pos hb, if_pos hb]
      have hq := ff_pc_sub (t := s) (e := e) (by omega) (by omega) hb
      have ihr : ∀ h, 0 ≤ ff_W L n m (s - 2 ^ e) h ∧ ff_W L n m (s - 2 ^ e) h ≤ ff_fa m := fun h => ff_W_r L hn m (s - 2 ^ e) h (by omega) (by omega)
      split
      · cases h with
        | zero => exact ⟨Int.le_refl 0, by show (0 : Int) ≤ ff_fa m; omega⟩
        | succ h => exact ihr h
      · exact ihr h
    · rw [if_neg hb, if_neg hb]
      exact ⟨Int.le_refl 0, Int.le_refl 0⟩
  have hr := ff_sm_r (by omega : 0 ≤ ff_fa m) k hterm
  have hc : ff_ct s k ≤ m + 1 := by
    have := ff_ct_le s k (10 - k)
    rw [show k + (10 - k) = 10 by omega] at this
    unfold ff_pc at hp
    omega
  refine ⟨hr.1, Int.le_trans hr.2 (Int.le_trans (Int.mul_le_mul_of_nonneg_right (b := ((m + 1 : Nat) : Int)) (by omega) (by omega)) ?_)⟩
  exact hfa2.2
/-- no more hits than saints -/
theorem ff_W_0 (L : Nat → Nat → Bool) (n : Nat) : ∀ (m s h : Nat), m < h → ff_W L n m s h = 0
  | 0, s, h, hh => by
    simp only [ff_W]
    rw [if_neg (by omega)]
  | m + 1, s, h, hh => by
    rw [ff_W_s]
    have hz : ∀ e, ff_Wt L n m s h e = 0 := by
      intro e
      unfold ff_Wt
      split
      · split
        · cases h with
          | zero => omega
          | succ h => exact ff_W_0 L n m (s - 2 ^ e) h (by omega)
        · exact ff_W_0 L n m (s - 2 ^ e) h (by omega)
      · rfl
    have : ∀ k, ff_sm (ff_Wt L n m s h) k = 0 := by
      intro k
      induction k with
      | zero => rfl
      | succ k ih =>
        simp only [ff_sm]
        rw [ih, hz]
        rfl
    exact this n
theorem ff_sm_ge {f : Nat → Int} {e : Nat} : ∀ (k : Nat), (∀ i, i < k → 0 ≤ f i) → e < k → f e ≤ ff_sm f k
  | 0, _, he => by omega
  | k + 1, h, he => by
    simp only [ff_sm]
    have hk := h k (by omega)
    have hnn : ∀ j, j ≤ k → 0 ≤ ff_sm f j := by
      intro j
      induction j with
      | zero => intro _; exact Int.le_refl 0
      | succ j ih =>
        intro hj
        have h1 := ih (by omega)
        have h2 := h j (by omega)
        simp only [ff_sm]
        omega
    by_cases hek : e = k
    · subst hek
      have := hnn e (Nat.le_refl _)
      omega
    · have := ff_sm_ge k (fun i hi => h i (by omega)) (by omega : e < k)
      omega
theorem ff_bit_ex {s n : Nat} (hn : n ≤ 10) (hs : s < 2 ^ n) (hp : 0 < ff_pc s) : ∃ e, e < n ∧ s.testBit e = true := by
  refine Classical.byContradiction (fun hne => ?_)
  have hz : ∀ e, s.testBit e = false := by
    intro e
    rcases Nat.lt_or_ge e n with q | q
    · cases hb : s.testBit e
      · rfl
      · exact absurd ⟨e, q, hb⟩ hne
    · exact Nat.testBit_lt_two_pow (Nat.lt_of_lt_of_le hs (Nat.pow_le_pow_right (by decide) q))
  have : ∀ k, ff_ct s k = 0 := by
    intro k
    induction k with
    | zero => rfl
    | succ k ih =>
      simp only [ff_ct]
      rw [ih, hz]
      rfl
  unfold ff_pc at hp
  rw [this] at hp
  omega
/-- there is a way to deal -/
theorem ff_W_ex (L : Nat → Nat → Bool) {n : Nat} (hn : n ≤ 10) : ∀ (m s : Nat), s < 2 ^ n → ff_pc s = m → ∃ h, h ≤ m ∧ 1 ≤ ff_W L n m s h
  | 0, s, _, _ => ⟨0, Nat.le_refl _, by simp [ff_W]⟩
  | m + 1, s, hs, hp => by
    have h2 : (2 : Nat) ^ n ≤ 2 ^ 10 := Nat.pow_le_pow_right (by decide) hn
    obtain ⟨e, he, hb⟩ := ff_bit_ex hn hs (by omega)
    have hq := ff_pc_sub (t := s) (e := e) (by omega) (by omega) hb
    obtain ⟨h, hh, hw⟩ := ff_W_ex L hn m (s - 2 ^ e) (by omega) (by omega)
    have hnn : ∀ h i, i < n → 0 ≤ ff_Wt L n m s h i := by
      intro h i hi
      unfold ff_Wt
      by_cases hbi : s.testBit i = true
      · rw [if_pos hbi]
        have hqi := ff_pc_sub (t := s) (e := i) (by omega) (by omega) hbi
        split
        · cases h with
          | zero => exact Int.le_refl 0
          | succ h => exact (ff_W_r L hn m (s - 2 ^ i) h (by omega) (by omega)).1
        · exact (ff_W_r L hn m (s - 2 ^ i) h (by omega) (by omega)).1
      · rw [if_neg hbi]
        exact Int.le_refl 0
    by_cases hL : L m e = true
    · refine ⟨h + 1, by omega, ?_⟩
      rw [ff_W_s]
      have h3 := ff_sm_ge (f := ff_Wt L n m s (h + 1)) (e := e) n (hnn (h + 1)) he
      have h4 : ff_Wt L n m s (h + 1) e = ff_W L n m (s - 2 ^ e) h := by
        unfold ff_Wt
        rw [if_pos hb, if_pos hL]
      omega
    · refine ⟨h, by omega, ?_⟩
      rw [ff_W_s]
      have h3 := ff_sm_ge (f := ff_Wt L n m s h) (e := e) n (hnn h) he
      have h4 : ff_Wt L n m s h e = ff_W L n m (s - 2 ^ e) h := by
        unfold ff_Wt
        rw [if_pos hb, if_neg hL]
      omega

