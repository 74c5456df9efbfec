/-! ===== a state, whichever class holds it: 0 hills; 1 switch, feast, length, entries, churches; 2 the text; 3 years, 4 turns of the book; 5 what is told of churches; 6 weights; 7, 8 the slots' churches; 9 how many they keep, whether ===== -/
def ff_ch (f : Nat → Int) (c : Int) : Prop :=
  (0 ≤ f (11 * c + 0).toNat ∧ f (11 * c + 0).toNat ≤ 3) ∧ (0 ≤ f (11 * c + 1).toNat ∧ f (11 * c + 1).toNat ≤ 359) ∧ (0 ≤ f (11 * c + 2).toNat ∧ f (11 * c + 2).toNat ≤ 9) ∧
  (0 ≤ f (11 * c + 3).toNat ∧ f (11 * c + 3).toNat ≤ f (11 * c + 4).toNat ∧ f (11 * c + 4).toNat ≤ 599 ∧ f (11 * c + 4).toNat - f (11 * c + 3).toNat ≤ 60) ∧
  (f (11 * c + 5).toNat = -9 ∨ (0 ≤ f (11 * c + 5).toNat ∧ f (11 * c + 5).toNat ≤ 363)) ∧ (f (11 * c + 6).toNat = -9 ∨ (0 ≤ f (11 * c + 6).toNat ∧ f (11 * c + 6).toNat ≤ 359)) ∧ (f (11 * c + 7).toNat = -9 ∨ (0 ≤ f (11 * c + 7).toNat ∧ f (11 * c + 7).toNat ≤ 359)) ∧
  (f (11 * c + 8).toNat = -9 ∨ ((0 ≤ f (11 * c + 8).toNat ∧ f (11 * c + 8).toNat ≤ 359) ∧ 0 ≤ f (11 * c + 9).toNat ∧ f (11 * c + 9).toNat ≤ f (11 * c + 10).toNat ∧ f (11 * c + 10).toNat ≤ 599 ∧ f (11 * c + 10).toNat - f (11 * c + 9).toNat ≤ 60))
def ff_Inv (S : ff_S) : Prop :=
  (∀ j, 0 ≤ S 0 j ∧ S 0 j ≤ 9) ∧ ((0 ≤ S 1 0 ∧ S 1 0 ≤ 600) ∧ (0 ≤ S 1 1 ∧ S 1 1 ≤ 363) ∧ (0 ≤ S 1 2 ∧ S 1 2 ≤ 48) ∧ (0 ≤ S 1 4 ∧ S 1 4 ≤ 10)) ∧ (∀ j, 0 ≤ S 2 j ∧ S 2 j ≤ 255) ∧ ff_bk (S 1 3) (S 3) (S 4) ∧
  (∀ c : Int, 0 ≤ c → c < S 1 4 → ff_ch (S 5) c) ∧ (∀ j, 0 ≤ S 6 j ∧ S 6 j ≤ 9) ∧ ((0 ≤ S 9 0 ∧ S 9 0 ≤ 10) ∧ (0 ≤ S 9 1 ∧ S 9 1 ≤ 10) ∧ (S 9 2 = 0 ∨ S 9 2 = 1) ∧ (S 9 3 = 0 ∨ S 9 3 = 1)) ∧
  (∀ c : Int, 0 ≤ c → c < S 9 0 → ff_ch (S 7) c) ∧ (∀ c : Int, 0 ≤ c → c < S 9 1 → ff_ch (S 8) c)
def ff_rby (h : Nat → Int) (sw l date y : Int) : Int := if date = -9 then -9 else ff_rise h l (ff_day sw date y)
def ff_line (S : ff_S) (r c y : Int) : Int :=
  if r = 0 then 90 else if r = 1 then ff_rby (S 0) (S 1 0) (S 5 (11 * c + 0).toNat) (S 5 (11 * c + 5).toNat) y
  else if r = 2 then 90 + ff_nd (S 1 3) (S 3) (S 4) y else if r = 3 then S 5 (11 * c + 6).toNat else if r = 4 then S 5 (11 * c + 7).toNat
  else ff_rby (S 0) (S 1 0) (S 5 (11 * c + 0).toNat) (S 1 1) y
def ff_nr (l a s : Int) : Bool := decide (¬ l = -9 ∧ ff_off l a ≤ s)
def ff_hit (S : ff_S) (r c y : Int) : Bool := ff_nr (ff_line S r c y) (S 5 (11 * c + 1).toNat) (S 5 (11 * c + 2).toNat)
/-- a date hits a church in a year -/
def ff_dhit (S : ff_S) (c date y : Int) : Bool := ff_nr (ff_rby (S 0) (S 1 0) (S 5 (11 * c + 0).toNat) date y) (S 5 (11 * c + 1).toNat) (S 5 (11 * c + 2).toNat)
def ff_yrs (S : ff_S) (c : Int) : Nat := (S 5 (11 * c + 4).toNat - S 5 (11 * c + 3).toNat + 1).toNat
def ff_hits (S : ff_S) (r c : Int) : Int := ff_cn (ff_hit S r c) (ff_yrs S c) (S 5 (11 * c + 3).toNat)
/-- a rule explains a church (la = 1, fa = 3, ta = 4), or its choir (8, 9, 10) -/
def ff_exl (S : ff_S) (r c la fa ta : Int) : Bool := ff_ex (fun y => ff_nr (ff_line S r c y) (S 5 (11 * c + la).toNat) (S 5 (11 * c + 2).toNat)) (S 5 (11 * c + ta).toNat - S 5 (11 * c + fa).toNat + 1).toNat (S 5 (11 * c + fa).toNat)
def ff_by (S : ff_S) (c date : Int) : Bool := ff_ex (ff_dhit S c date) (ff_yrs S c) (S 5 (11 * c + 3).toNat)
def ff_bits (p : Int → Bool) : Nat → Int → Int → Int
  | 0, _, a => a
  | n + 1, k, a => ff_bits p n (k + 1) (if p k = true then ez_or a (ez_shl 1 k) else a)
def ff_rules (S : ff_S) (c : Int) : Int := ff_bits (fun r => ff_exl S r c 1 3 4) 6 0 0
theorem ff_rby_r {h : Nat → Int} {sw l date y : Int} (hd : date = -9 ∨ (0 ≤ date ∧ date ≤ 363)) : -9 ≤ ff_rby h sw l date y ∧ ff_rby h sw l date y ≤ 139 := by
  unfold ff_rby
  split
  · omega
  · have h1 := ff_day_r (sw := sw) (date := date) (y := y) (by omega) (by omega)
    have h2 := ff_rise_r (h := h) (l := l) h1.1 h1.2
    omega
theorem ff_line_r {S : ff_S} (hI : ff_Inv S) {r c y : Int} (h0 : 0 ≤ c) (h1 : c < S 1 4) (hy : 0 ≤ y) (hy2 : y ≤ 599) : -60000 ≤ ff_line S r c y ∧ ff_line S r c y ≤ 60000 := by
  have hc := hI.2.2.2.2.1 c h0 h1
  have hf := hI.2.1.2.1
  have hn := ff_nd_r hI.2.2.2.1 hy hy2
  unfold ff_ch at hc
  have a1 := ff_rby_r (h := S 0) (sw := S 1 0) (l := S 5 (11 * c + 0).toNat) (y := y) hc.2.2.2.2.1
  have a2 := ff_rby_r (h := S 0) (sw := S 1 0) (l := S 5 (11 * c + 0).toNat) (date := S 1 1) (y := y) (Or.inr hf)
  unfold ff_line
  split
  · omega
  · split
    · omega
    · split
      · omega
      · split
        · omega
        · split <;> omega
theorem ff_bits_r (p : Int → Bool) : ∀ (n k : Nat) (a : Int), n + k ≤ 30 → 0 ≤ a → a < 2 ^ k → 0 ≤ ff_bits p n (k : Int) a ∧ ff_bits p n (k : Int) a < 2 ^ (n + k)
  | 0, k, a, _, h0, h1 => by
    rw [Nat.zero_add]
    exact ⟨h0, h1⟩
  | n + 1, k, a, hk, h0, h1 => by
    have hs : ez_shl 1 (k : Int) = 2 ^ k := by rw [ez_shl_n k (by omega)]; simp
    have hp : (2 : Int) ^ (k + 1) = 2 ^ k + 2 ^ k := by rw [Int.pow_succ]; omega
    have ho := ez_or_p h0 h1 (by omega)
    have h2 : (0 : Int) < 2 ^ k := Int.pow_pos (by decide)
    have ih := ff_bits_r p n (k + 1) (if p (k : Int) = true then ez_or a (ez_shl 1 (k : Int)) else a) (by omega) (by
      split
      · rw [hs, ho]; omega
      · omega) (by
      rw [hp]
      split
      · rw [hs, ho]; omega
      · omega)
    simp only [ff_bits]
    rw [show n + 1 + k = n + (k + 1) by omega]
    exact ih
theorem ff_rules_r (S : ff_S) (c : Int) : 0 ≤ ff_rules S c ∧ ff_rules S c ≤ 63 := by
  have h : 0 ≤ ff_bits (fun r => ff_exl S r c 1 3 4) 6 0 0 ∧ ff_bits (fun r => ff_exl S r c 1 3 4) 6 0 0 < 2 ^ (6 + 0) := ff_bits_r (fun r => ff_exl S r c 1 3 4) 6 0 0 (by omega) (by omega) (by decide)
  unfold ff_rules
  have e : (2 : Int) ^ (6 + 0) = 64 := by decide
  rw [e] at h
  exact ⟨h.1, by have := h.2; omega⟩
/-! ===== the class's state ===== -/
def ff_X (M : ez_M) : ff_S := fun r j => match r with
  | 0 => M 2 j
  | 1 => (match j with
    | 0 => M 1 1
    | 1 => M 0 9
    | 2 => M 3 3
    | 3 => M 3 4
    | 4 => M 7 1
    | _ => 0)
  | 2 => M 4 j
  | 3 => if (j : Int) < M 3 4 then M 5 j else 0
  | 4 => if (j : Int) < M 3 4 then M 6 j else 0
  | 5 => M 8 j
  | 6 => M 20 j
  | 7 => if j < 110 then M 10 j else 0
  | 8 => if j < 110 then M 12 j else 0
  | 9 => (match j with
    | 0 => M 9 1
    | 1 => M 11 1
    | 2 => M 9 2
    | 3 => M 11 2
    | _ => 0)
  | _ => 0
theorem ff_lat_congr {Y Y' : Nat → Int} {y n : Int} (h : ∀ j : Nat, (j : Int) < n → Y j = Y' j) : ∀ (f : Nat) (k : Int), 0 ≤ k → k + f ≤ n → ff_lat Y y f k = ff_lat Y' y f k
  | 0, k, _, _ => rfl
  | f + 1, k, h0, h1 => by
    simp only [ff_lat]
    rw [h k.toNat (by omega), ff_lat_congr h f (k + 1) (by omega) (by omega)]
theorem ff_nd_congr {n : Int} {Y Y' V V' : Nat → Int} (hn : 0 ≤ n) (hY : ∀ j : Nat, (j : Int) < n → Y j = Y' j) (hV : ∀ j : Nat, (j : Int) < n → V j = V' j) (y : Int) : ff_nd n Y V y = ff_nd n Y' V' y := by
  unfold ff_nd
  by_cases h0 : n = 0
  · rw [if_pos h0, if_pos h0]
  · rw [if_neg h0, if_neg h0, ff_lat_congr hY n.toNat 0 (by omega) (by omega)]
    have hr := ff_lat_r Y' y n.toNat 0
    generalize ff_lat Y' y n.toNat 0 = k at hr
    unfold ff_ndk
    by_cases e0 : k = 0
    · rw [if_pos e0, if_pos e0, hV _ (by omega)]
    · rw [if_neg e0, if_neg e0, hV (k - 1).toNat (by omega), hY (k - 1).toNat (by omega)]
      by_cases e1 : k = n
      · rw [if_pos e1, if_pos e1]
      · rw [if_neg e1, if_neg e1, hV k.toNat (by omega), hY k.toNat (by omega)]
theorem ff_nd_X (M : ez_M) (h : 0 ≤ M 3 4) (y : Int) : ff_nd (ff_X M 1 3) (ff_X M 3) (ff_X M 4) y = ff_nd (M 3 4) (M 5) (M 6) y := by
  refine ff_nd_congr h (fun j hj => ?_) (fun j hj => ?_) y
  · show (if (j : Int) < M 3 4 then M 5 j else 0) = _
    rw [if_pos hj]
  · show (if (j : Int) < M 3 4 then M 6 j else 0) = _
    rw [if_pos hj]
theorem ff_bk_X {M : ez_M} (h : ff_Inv (ff_X M)) : ff_bk (M 3 4) (M 5) (M 6) := by
  obtain ⟨a, b, c⟩ := h.2.2.2.1
  have e3 : ∀ j : Nat, (j : Int) < M 3 4 → ff_X M 3 j = M 5 j := fun j hj => if_pos hj
  have e4 : ∀ j : Nat, (j : Int) < M 3 4 → ff_X M 4 j = M 6 j := fun j hj => if_pos hj
  refine ⟨a, fun j hj => ?_, fun i j hij hj => ?_⟩
  · have := b j hj
    rw [e3 j hj, e4 j hj] at this
    exact this
  · have := c i j hij hj
    rw [e3 j hj, e3 i (by omega)] at this
    exact this
theorem ff_ch_X {M : ez_M} (h : ff_Inv (ff_X M)) {c : Int} (h0 : 0 ≤ c) (h1 : c < M 7 1) : ff_ch (M 8) c := h.2.2.2.2.1 c h0 h1
theorem ff_n_X {M : ez_M} (h : ff_Inv (ff_X M)) : 0 ≤ M 7 1 ∧ M 7 1 ≤ 10 := h.2.1.2.2.2

