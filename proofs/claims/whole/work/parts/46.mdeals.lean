/-! ===== the model's table of ways ===== -/
def ff_gp (L : Nat → Nat → Bool) (n s e : Nat) : Nat → Nat → Int := fun t h => if t = 0 then (if h = 0 then 1 else 0) else ff_sm (fun k => if t - 2 ^ k < s ∨ (t - 2 ^ k = s ∧ k < e) then ff_Wt L n (ff_pc t - 1) t h k else 0) n
theorem ff_sm_congr {f g : Nat → Int} : ∀ (k : Nat), (∀ e, e < k → f e = g e) → ff_sm f k = ff_sm g k
  | 0, _ => rfl
  | k + 1, h => by
    simp only [ff_sm]
    rw [ff_sm_congr k (fun e he => h e (by omega)), h k (by omega)]
theorem ff_sm_one {f g : Nat → Int} {e : Nat} {d : Int} : ∀ (k : Nat), e < k → (∀ i, i < k → i ≠ e → f i = g i) → f e = g e + d → ff_sm f k = ff_sm g k + d
  | 0, he, _, _ => by omega
  | k + 1, he, h, hd => by
    simp only [ff_sm]
    by_cases hk : e = k
    · subst hk
      rw [ff_sm_congr e (fun i hi => h i (by omega) (by omega)), hd]
      omega
    · rw [ff_sm_one k (by omega) (fun i hi hne => h i (by omega) hne) hd, h k (by omega) (by omega)]
      omega
theorem ff_sm_bd {f : Nat → Int} {B : Int} : ∀ (k : Nat), (∀ e, e < k → 0 ≤ f e ∧ f e ≤ B) → 0 ≤ ff_sm f k ∧ ff_sm f k ≤ B * k
  | 0, _ => by simp [ff_sm]
  | k + 1, h => by
    have ih := ff_sm_bd k (fun e he => h e (by omega))
    have hk := h k (by omega)
    simp only [ff_sm]
    rw [show B * ((k + 1 : Nat) : Int) = B * k + B by rw [Int.natCast_add, Int.mul_add]; simp]
    omega
def ff_fD : Bool := (List.range 1024).all (fun t => (List.range 10).all (fun e => if t.testBit e then !((t - 2 ^ e).testBit e) else Nat.beq (t ||| 2 ^ e) (t + 2 ^ e) && (t + 2 ^ e).testBit e && Nat.blt (t + 2 ^ e) 1024))
theorem ff_fD_ok : ff_fD = true := by decide +kernel
theorem ff_bit_off {t e : Nat} (ht : t < 1024) (he : e < 10) (hb : t.testBit e = true) : (t - 2 ^ e).testBit e = false := by
  have h := List.all_eq_true.mp (List.all_eq_true.mp ff_fD_ok t (List.mem_range.mpr ht)) e (List.mem_range.mpr he)
  rw [hb] at h
  simpa using h
theorem ff_bit_on {t e : Nat} (ht : t < 1024) (he : e < 10) (hb : ¬ t.testBit e = true) : t ||| 2 ^ e = t + 2 ^ e ∧ (t + 2 ^ e).testBit e = true ∧ t + 2 ^ e < 1024 := by
  have h := List.all_eq_true.mp (List.all_eq_true.mp ff_fD_ok t (List.mem_range.mpr ht)) e (List.mem_range.mpr he)
  rw [if_neg hb] at h
  simp only [Bool.and_eq_true] at h
  exact ⟨Nat.eq_of_beq_eq_true h.1.1, h.1.2, Nat.le_of_ble_eq_true h.2⟩
theorem ff_fE_ok : (List.range 11).all (fun n => (List.range (2 ^ n)).all (fun t => Nat.ble (ff_pc t) n)) = true := by decide +kernel
theorem ff_pc_le {n t : Nat} (hn : n ≤ 10) (ht : t < 2 ^ n) : ff_pc t ≤ n := Nat.le_of_ble_eq_true (List.all_eq_true.mp (List.all_eq_true.mp ff_fE_ok n (List.mem_range.mpr (by omega))) t (List.mem_range.mpr ht))
theorem ff_p10 {n : Nat} (hn : n ≤ 10) : 2 ^ n ≤ 1024 := Nat.pow_le_pow_right (by decide) hn
theorem ff_gp_le (L : Nat → Nat → Bool) {n s e t : Nat} (hn : n ≤ 10) (ht : t < 2 ^ n) (hs : t ≤ s) (h : Nat) : ff_gp L n s e t h = ff_W L n (ff_pc t) t h := by
  have h2 := ff_p10 hn
  unfold ff_gp
  by_cases h0 : t = 0
  · subst h0
    rw [if_pos rfl]
    rfl
  · rw [if_neg h0]
    have hp := ff_pc_pos (t := t) (by omega) (by omega)
    obtain ⟨m, hm⟩ : ∃ m, ff_pc t = m + 1 := ⟨ff_pc t - 1, by omega⟩
    rw [hm, ff_W_s]
    refine ff_sm_congr n (fun k hk => ?_)
    by_cases hb : t.testBit k = true
    · have hq := ff_pc_sub (t := t) (e := k) (by omega) (by omega) hb
      have hc : t - 2 ^ k < s ∨ (t - 2 ^ k = s ∧ k < e) := Or.inl (by omega)
      rw [if_pos hc]
      rfl
    · have hz : ∀ m, ff_Wt L n m t h k = 0 := fun m => by
        unfold ff_Wt
        rw [if_neg hb]
      rw [hz, hz]
      split <;> rfl
theorem ff_gp_next (L : Nat → Nat → Bool) (n s : Nat) (t h : Nat) : ff_gp L n s n t h = ff_gp L n (s + 1) 0 t h := by
  unfold ff_gp
  split
  · rfl
  · refine ff_sm_congr n (fun k hk => ?_)
    by_cases hc : t - 2 ^ k < s ∨ (t - 2 ^ k = s ∧ k < n)
    · rw [if_pos hc, if_pos (by omega)]
    · rw [if_neg hc, if_neg (by omega)]
theorem ff_gp_same (L : Nat → Nat → Bool) {n s e t : Nat} (hn : n ≤ 10) (ht : t < 2 ^ n) (he : e < n) (hne : ¬ (t.testBit e = true ∧ t - 2 ^ e = s)) (h : Nat) : ff_gp L n s (e + 1) t h = ff_gp L n s e t h := by
  unfold ff_gp
  split
  · rfl
  · refine ff_sm_congr n (fun k hk => ?_)
    by_cases hke : k = e
    · subst hke
      by_cases hb : t.testBit k = true
      · have hs : ¬ t - 2 ^ k = s := fun z => hne ⟨hb, z⟩
        by_cases hc : t - 2 ^ k < s
        · rw [if_pos (Or.inl hc), if_pos (Or.inl hc)]
        · rw [if_neg (by omega), if_neg (by omega)]
      · have hz : ff_Wt L n (ff_pc t - 1) t h k = 0 := by
          unfold ff_Wt
          rw [if_neg hb]
        rw [hz]
        split <;> split <;> rfl
    · by_cases hc : t - 2 ^ k < s ∨ (t - 2 ^ k = s ∧ k < e)
      · rw [if_pos hc, if_pos (by omega)]
      · rw [if_neg hc, if_neg (by omega)]
theorem ff_gp_add (L : Nat → Nat → Bool) {n s e : Nat} (hn : n ≤ 10) (hT : s + 2 ^ e < 2 ^ n) (he : e < n) (hb : ¬ s.testBit e = true) (h : Nat) : ff_gp L n s (e + 1) (s + 2 ^ e) h = ff_gp L n s e (s + 2 ^ e) h + (if L (ff_pc s) e = true then (match h with
      | 0 => 0
      | h' + 1 => ff_W L n (ff_pc s) s h') else ff_W L n (ff_pc s) s h) := by
  have h2 := ff_p10 hn
  have hp2 : 0 < 2 ^ e := Nat.pow_pos (by decide)
  have hon := ff_bit_on (t := s) (e := e) (by omega) (by omega) hb
  have hq := ff_pc_sub (t := s + 2 ^ e) (e := e) (by omega) (by omega) hon.2.1
  have hs : s + 2 ^ e - 2 ^ e = s := by omega
  rw [hs] at hq
  unfold ff_gp
  rw [if_neg (by omega), if_neg (by omega)]
  refine ff_sm_one (e := e) n he (fun k hk hke => ?_) ?_
  · by_cases hc : s + 2 ^ e - 2 ^ k < s ∨ (s + 2 ^ e - 2 ^ k = s ∧ k < e)
    · rw [if_pos hc, if_pos (by omega)]
    · rw [if_neg hc, if_neg (by omega)]
  · rw [if_pos (by omega), if_neg (by omega), Int.zero_add, show ff_pc (s + 2 ^ e) - 1 = ff_pc s by omega]
    unfold ff_Wt
    rw [if_pos hon.2.1, hs]
    all_goals rfl
theorem ff_gp_r (L : Nat → Nat → Bool) {n s e t : Nat} (hn : n ≤ 10) (ht : t < 2 ^ n) (h : Nat) : 0 ≤ ff_gp L n s e t h ∧ ff_gp L n s e t h ≤ 36288000 := by
  have h2 := ff_p10 hn
  unfold ff_gp
  by_cases h0 : t = 0
  · rw [if_pos h0]
    split <;> omega
  · rw [if_neg h0]
    have hp := ff_pc_pos (t := t) (by omega) (by omega)
    obtain ⟨m, hm⟩ : ∃ m, ff_pc t = m + 1 := ⟨ff_pc t - 1, by omega⟩
    have hm10 := ff_pc_le hn ht
    have hfa := ff_fa_r m (by omega)
    have hb := ff_sm_bd (B := 3628800) (f := fun k => if t - 2 ^ k < s ∨ (t - 2 ^ k = s ∧ k < e) then ff_Wt L n (ff_pc t - 1) t h k else 0) n (fun k hk => by
      show 0 ≤ (if t - 2 ^ k < s ∨ (t - 2 ^ k = s ∧ k < e) then ff_Wt L n (ff_pc t - 1) t h k else 0) ∧ (if t - 2 ^ k < s ∨ (t - 2 ^ k = s ∧ k < e) then ff_Wt L n (ff_pc t - 1) t h k else 0) ≤ 3628800
      split
      · rw [hm]
        unfold ff_Wt
        by_cases hb : t.testBit k = true
        · rw [if_pos hb]
          have hq := ff_pc_sub (t := t) (e := k) (by omega) (by omega) hb
          have ihr : ∀ h, 0 ≤ ff_W L n (m + 1 - 1) (t - 2 ^ k) h ∧ ff_W L n (m + 1 - 1) (t - 2 ^ k) h ≤ ff_fa m := fun h => ff_W_r L hn m (t - 2 ^ k) h (by omega) (by omega)
          split
          · cases h with
            | zero => exact ⟨Int.le_refl 0, by show (0 : Int) ≤ 3628800; decide⟩
            | succ h =>
              have := ihr h
              exact ⟨this.1, Int.le_trans this.2 hfa.2⟩
          · have := ihr h
            exact ⟨this.1, Int.le_trans this.2 hfa.2⟩
        · rw [if_neg hb]
          omega
      · omega)
    omega
def ff_zn (M : ez_M) (k : Nat) : ez_M := fun i j => if i = 14 ∧ j < k then 0 else M i j
theorem ff_zn_s (M : ez_M) (k : Nat) : ez_up (ff_zn M k) 14 k 0 = ff_zn M (k + 1) := by
  funext i j
  simp only [ez_up, ff_zn]
  grind
def ff_tn (M : ez_M) (P : Nat) (g : Nat → Nat → Int) : ez_M := fun i j => if i = 14 ∧ j < P * 11 then g (j / 11) (j % 11) else M i j
theorem ff_tn_at {M : ez_M} {P : Nat} {g : Nat → Nat → Int} {t h : Nat} (ht : t < P) (hh : h < 11) : ff_tn M P g 14 (11 * t + h) = g t h := by
  unfold ff_tn
  rw [if_pos ⟨rfl, by omega⟩]
  congr 1 <;> omega
theorem ff_tn_ne (M : ez_M) (P : Nat) (g : Nat → Nat → Int) {i : Nat} (hi : ¬ i = 14) : ff_tn M P g i = M i := by
  funext j
  unfold ff_tn
  rw [if_neg (fun z => hi z.1)]
theorem ff_tn_congr {M : ez_M} {P : Nat} {g g' : Nat → Nat → Int} (h : ∀ t h, t < P → h < 11 → g t h = g' t h) : ff_tn M P g = ff_tn M P g' := by
  funext i j
  unfold ff_tn
  by_cases hz : i = 14 ∧ j < P * 11
  · rw [if_pos hz, if_pos hz]
    exact h _ _ (by omega) (by omega)
  · rw [if_neg hz, if_neg hz]
theorem ff_tn_up {M : ez_M} {P : Nat} {g : Nat → Nat → Int} {T h : Nat} {v : Int} (hT : T < P) (hh : h < 11) : ez_up (ff_tn M P g) 14 (11 * T + h) v = ff_tn M P (fun t k => if t = T ∧ k = h then v else g t k) := by
  funext i j
  simp only [ez_up, ff_tn]
  by_cases hi : i = 14
  · subst hi
    by_cases hj : j = 11 * T + h
    · subst hj
      rw [if_pos ⟨rfl, rfl⟩, if_pos ⟨rfl, by omega⟩, if_pos (by omega)]
    · rw [if_neg (fun z => hj z.2)]
      by_cases hb : j < P * 11
      · rw [if_pos ⟨rfl, hb⟩, if_pos ⟨rfl, hb⟩, if_neg (by omega)]
      · rw [if_neg (fun z => hb z.2), if_neg (fun z => hb z.2)]
  · rw [if_neg (fun z => hi z.1), if_neg (fun z => hi z.1), if_neg (fun z => hi z.1)]
theorem ff_tn_0 (M : ez_M) (L : Nat → Nat → Bool) {n : Nat} (hn : n ≤ 10) : ez_up (ff_zn M 11264) 14 0 1 = ff_tn (ez_up (ff_zn M 11264) 14 0 1) (2 ^ n) (ff_gp L n 0 0) := by
  have h2 := ff_p10 hn
  funext i j
  unfold ff_tn
  by_cases hz : i = 14 ∧ j < 2 ^ n * 11
  · obtain ⟨rfl, hj⟩ := hz
    rw [if_pos ⟨rfl, hj⟩]
    unfold ff_gp
    by_cases h0 : j = 0
    · subst h0
      rfl
    · have hm : ff_sm (fun k => if j / 11 - 2 ^ k < 0 ∨ (j / 11 - 2 ^ k = 0 ∧ k < 0) then ff_Wt L n (ff_pc (j / 11) - 1) (j / 11) (j % 11) k else 0) n = 0 := by
        have : ∀ m, ff_sm (fun k => if j / 11 - 2 ^ k < 0 ∨ (j / 11 - 2 ^ k = 0 ∧ k < 0) then ff_Wt L n (ff_pc (j / 11) - 1) (j / 11) (j % 11) k else 0) m = 0 := by
          intro m
          induction m with
          | zero => rfl
          | succ m ih =>
            simp only [ff_sm]
            rw [ih, if_neg (by omega)]
            rfl
        exact this n
      rw [hm]
      simp only [ez_up, ff_zn]
      rw [if_neg (fun z => h0 z.2), if_pos ⟨trivial, by omega⟩]
      split
      · rw [if_neg (by omega)]
      · rfl
  · rw [if_neg hz]
theorem ff_N_14 {M N : ez_M} (h : ∀ i, ¬ i = 14 → N i = M i) : ff_N N = ff_N M := by
  have h0 := h 0 (by decide)
  have h1 := h 1 (by decide)
  have h2 := h 2 (by decide)
  have h3 := h 3 (by decide)
  have h4 := h 4 (by decide)
  have h7 := h 7 (by decide)
  have h8 := h 8 (by decide)
  have h9 := h 9 (by decide)
  have h10 := h 10 (by decide)
  have h11 := h 11 (by decide)
  funext r j
  rcases r with _ | _ | _ | _ | _ | _ | _ | _ | _ | _ | r <;> simp [ff_N, h0, h1, h2, h3, h4, h7, h8, h9, h10, h11]

