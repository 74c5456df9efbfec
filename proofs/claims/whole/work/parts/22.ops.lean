/-! ===== what each call answers, and what is behind it ===== -/
def op_off (_ : ff_S) (a b : Int) : Int := if (0 ≤ a ∧ a ≤ 359) ∧ (0 ≤ b ∧ b ≤ 359) then ff_off a b else -1
def op_sun (_ : ff_S) (d : Int) : Int := if 0 ≤ d ∧ d ≤ 363 then ff_sun d else -1
def op_edge (S : ff_S) (l t h : Int) : Int := if (0 ≤ l ∧ l ≤ 3) ∧ (0 ≤ t ∧ t ≤ 35) then (if 0 ≤ h ∧ h ≤ 9 then S 0 (36 * l + t).toNat else -2) else -1
def op_edge_s (S : ff_S) (l t h : Int) : ff_S := if ((0 ≤ l ∧ l ≤ 3) ∧ (0 ≤ t ∧ t ≤ 35)) ∧ (0 ≤ h ∧ h ≤ 9) then ez_up S 0 (36 * l + t).toNat h else S
def op_rise (S : ff_S) (l d : Int) : Int := if (0 ≤ l ∧ l ≤ 3) ∧ (0 ≤ d ∧ d ≤ 363) then ff_rise (S 0) l d else -1
def op_switched (S : ff_S) (y : Int) : Int := if 0 ≤ y ∧ y ≤ 600 then S 1 0 else -2
def op_switched_s (S : ff_S) (y : Int) : ff_S := if 0 ≤ y ∧ y ≤ 600 then ez_up S 1 0 y else S
def op_day (S : ff_S) (d y : Int) : Int := if (0 ≤ d ∧ d ≤ 363) ∧ (0 ≤ y ∧ y ≤ 599) then ff_day (S 1 0) d y else -1
def op_feast (S : ff_S) (d : Int) : Int := if 0 ≤ d ∧ d ≤ 363 then S 1 1 else -1
def op_feast_s (S : ff_S) (d : Int) : ff_S := if 0 ≤ d ∧ d ≤ 363 then ez_up S 1 1 d else S
def ff_appS (v : Int) : Nat → ff_S → ff_S
  | 0, S => S
  | k + 1, S => ff_appS v k (ez_up (ez_up S 2 (S 1 2).toNat (ff_byte v k)) 1 2 (S 1 2 + 1))
def op_write (S : ff_S) (n _ : Int) : Int := if 1 ≤ n ∧ n ≤ 8 then (if S 1 2 + n ≤ 48 then S 1 2 + n else -4) else -2
def op_write_s (S : ff_S) (n v : Int) : ff_S := if (1 ≤ n ∧ n ≤ 8) ∧ S 1 2 + n ≤ 48 then ff_appS v n.toNat S else S
def op_wipe (S : ff_S) : Int := S 1 2
def op_wipe_s (S : ff_S) : ff_S := ez_up S 1 2 0
def op_fault (S : ff_S) : Int := ff_fault (S 2) (S 1 2)
def ff_rdS (S : ff_S) (n : Int) : ff_S := fun r j => if r = 3 then (if (j : Int) < n then ff_fig (S 2) ((j : Int) * 7) 3 else 0) else if r = 4 then (if (j : Int) < n then ff_trn (S 2) (j : Int) else 0) else if r = 1 ∧ j = 3 then n else S r j
def op_book (S : ff_S) : Int := if ff_fault (S 2) (S 1 2) = -9 then (S 1 2 + 1) / 7 else -3
def op_book_s (S : ff_S) : ff_S := if ff_fault (S 2) (S 1 2) = -9 then ff_rdS S ((S 1 2 + 1) / 7) else S
def op_needle (S : ff_S) (y : Int) : Int := if 0 ≤ y ∧ y ≤ 599 then ff_nd (S 1 3) (S 3) (S 4) y + 100 else -1
def ff_okch (l li f t : Int) : Prop := ((0 ≤ l ∧ l ≤ 3) ∧ (0 ≤ li ∧ li ≤ 359)) ∧ (0 ≤ f ∧ f ≤ 599) ∧ (0 ≤ t ∧ t ≤ 599)
def op_church (S : ff_S) (l li s f t : Int) : Int := if ((0 ≤ l ∧ l ≤ 3) ∧ (0 ≤ li ∧ li ≤ 359)) ∧ (0 ≤ f ∧ f ≤ 599) ∧ (0 ≤ t ∧ t ≤ 599) then (if (0 ≤ s ∧ s ≤ 9) ∧ (0 ≤ t - f ∧ t - f ≤ 60) then (if S 1 4 < 10 then S 1 4 else -4) else -2) else -1
def op_church_s (S : ff_S) (l li s f t : Int) : ff_S := if (((0 ≤ l ∧ l ≤ 3) ∧ (0 ≤ li ∧ li ≤ 359)) ∧ (0 ≤ f ∧ f ≤ 599) ∧ (0 ≤ t ∧ t ≤ 599)) ∧ ((0 ≤ s ∧ s ≤ 9) ∧ (0 ≤ t - f ∧ t - f ≤ 60)) ∧ S 1 4 < 10 then (fun r j => if r = 5 then ff_addf (S 5) (S 1 4) l li s f t j else if r = 1 ∧ j = 4 then S 1 4 + 1 else S r j) else S
def op_tell (S : ff_S) (c w v : Int) : Int := if 0 ≤ c ∧ c < S 1 4 then (if (0 ≤ w ∧ w ≤ 2) ∧ (v = -9 ∨ (0 ≤ v ∧ v ≤ (if w = 0 then 363 else 359))) then S 5 (11 * c + (5 + w)).toNat else -2) else -1
def op_tell_s (S : ff_S) (c w v : Int) : ff_S := if (0 ≤ c ∧ c < S 1 4) ∧ ((0 ≤ w ∧ w ≤ 2) ∧ (v = -9 ∨ (0 ≤ v ∧ v ≤ (if w = 0 then 363 else 359)))) then ez_up S 5 (11 * c + (5 + w)).toNat v else S
def op_about (S : ff_S) (c w : Int) : Int := if 0 ≤ c ∧ c < S 1 4 then (if 0 ≤ w ∧ w ≤ 10 then S 5 (11 * c + w).toNat else -2) else -1
def op_line (S : ff_S) (r c y : Int) : Int := if (0 ≤ r ∧ r ≤ 5) ∧ (0 ≤ c ∧ c < S 1 4) ∧ (0 ≤ y ∧ y ≤ 599) then ff_line S r c y else -1
def op_hits (S : ff_S) (r c : Int) : Int := if (0 ≤ r ∧ r ≤ 5) ∧ (0 ≤ c ∧ c < S 1 4) then ff_hits S r c else -1
def op_explain (S : ff_S) (c : Int) : Int := if 0 ≤ c ∧ c < S 1 4 then ff_rules S c else -1
def op_weight (S : ff_S) (r v : Int) : Int := if 0 ≤ r ∧ r ≤ 5 then (if 0 ≤ v ∧ v ≤ 9 then S 6 r.toNat else -2) else -1
def op_weight_s (S : ff_S) (r v : Int) : ff_S := if (0 ≤ r ∧ r ≤ 5) ∧ (0 ≤ v ∧ v ≤ 9) then ez_up S 6 r.toNat v else S
def op_on (S : ff_S) (c d : Int) : Int := if (0 ≤ c ∧ c < S 1 4) ∧ (0 ≤ d ∧ d ≤ 363) then (if ff_dol S c d = true then 1 else 0) else -1
def op_own (S : ff_S) : Int := ff_own S
def op_bends (S : ff_S) (c : Int) : Int := if 0 ≤ c ∧ c < S 1 4 then (if S 5 (11 * c + 8).toNat = -9 then -3 else ff_off (S 5 (11 * c + 8).toNat) (S 5 (11 * c + 1).toNat)) else -1
theorem ff_X_n (M : ez_M) : ff_X M 1 4 = M 7 1 := rfl
/-! rows of the class's memory, and of what they stand for -/
theorem ff_X_2 (M : ez_M) (k : Nat) (v : Int) : ff_X (ez_up M 2 k v) = ez_up (ff_X M) 0 k v := by
  funext r j
  rcases r with _ | _ | _ | _ | _ | _ | _ | _ | _ | _ | r <;> simp [ff_X, ez_up]
theorem ff_X_sw (M : ez_M) (v : Int) : ff_X (ez_up M 1 1 v) = ez_up (ff_X M) 1 0 v := by
  funext r j
  rcases r with _ | _ | _ | _ | _ | _ | _ | _ | _ | _ | r <;> simp [ff_X, ez_up]
  rcases j with _ | _ | _ | _ | _ | j <;> simp
theorem ff_X_fe (M : ez_M) (v : Int) : ff_X (ez_up M 0 9 v) = ez_up (ff_X M) 1 1 v := by
  funext r j
  rcases r with _ | _ | _ | _ | _ | _ | _ | _ | _ | _ | r <;> simp [ff_X, ez_up]
  rcases j with _ | _ | _ | _ | _ | j <;> simp
theorem ff_X_len (M : ez_M) (v : Int) : ff_X (ez_up M 3 3 v) = ez_up (ff_X M) 1 2 v := by
  funext r j
  rcases r with _ | _ | _ | _ | _ | _ | _ | _ | _ | _ | r <;> simp [ff_X, ez_up]
  rcases j with _ | _ | _ | _ | _ | j <;> simp
theorem ff_X_txt (M : ez_M) (k : Nat) (v : Int) : ff_X (ez_up M 4 k v) = ez_up (ff_X M) 2 k v := by
  funext r j
  rcases r with _ | _ | _ | _ | _ | _ | _ | _ | _ | _ | r <;> simp [ff_X, ez_up]
theorem ff_X_told (M : ez_M) (k : Nat) (v : Int) : ff_X (ez_up M 8 k v) = ez_up (ff_X M) 5 k v := by
  funext r j
  rcases r with _ | _ | _ | _ | _ | _ | _ | _ | _ | _ | r <;> simp [ff_X, ez_up]
theorem ff_X_wt (M : ez_M) (k : Nat) (v : Int) : ff_X (ez_up M 20 k v) = ez_up (ff_X M) 6 k v := by
  funext r j
  rcases r with _ | _ | _ | _ | _ | _ | _ | _ | _ | _ | r <;> simp [ff_X, ez_up]
theorem ff_X_scr (M : ez_M) (q k : Nat) (v : Int) (h : 13 ≤ q ∧ ¬ q = 20) : ff_X (ez_up M q k v) = ff_X M := by
  funext r j
  have h1 : ∀ z : Nat, z < 13 → ¬ z = q := fun z hz => by omega
  have h2 : ¬ 20 = q := by omega
  rcases r with _ | _ | _ | _ | _ | _ | _ | _ | _ | _ | r <;> simp [ff_X, ez_up, h1, h2]
theorem ff_X_app (v : Int) : ∀ (k : Nat) (M : ez_M), ff_X (ff_app v k M) = ff_appS v k (ff_X M)
  | 0, M => rfl
  | k + 1, M => by
    simp only [ff_app, ff_appS]
    rw [ff_X_app v k, ff_X_len, ff_X_txt]
    have e : ez_up M 4 (M 3 3).toNat (ff_byte v k) 3 3 = M 3 3 := by simp [ez_up]
    rw [e]
    rfl
theorem ff_app_len (v : Int) : ∀ (k : Nat) (M : ez_M), ff_app v k M 3 3 = M 3 3 + k
  | 0, M => by simp [ff_app]
  | k + 1, M => by
    simp only [ff_app]
    rw [ff_app_len v k]
    simp [ez_up]
    omega
theorem ff_X_rd (M : ez_M) (n : Int) (h : 0 ≤ n) : ff_X (ff_rd M n n.toNat) = ff_rdS (ff_X M) n := by
  have h4 : ff_rd M n n.toNat 4 = M 4 := ff_rd_4 M n n.toNat
  have h5 : ∀ j : Nat, j < n.toNat ↔ (j : Int) < n := fun j => by omega
  funext r j
  rcases r with _ | _ | _ | _ | _ | _ | _ | _ | _ | _ | r
  · rfl
  · rcases j with _ | _ | _ | _ | _ | j <;> rfl
  · rfl
  · have e34 : ff_rd M n n.toNat 3 4 = n := by simp [ff_rd]
    have e5 : ff_rd M n n.toNat 5 j = if j < n.toNat then ff_fig (M 4) ((j : Int) * 7) 3 else M 5 j := by simp [ff_rd]
    show (if (j : Int) < ff_rd M n n.toNat 3 4 then ff_rd M n n.toNat 5 j else 0) = (if (j : Int) < n then ff_fig (M 4) ((j : Int) * 7) 3 else 0)
    rw [e34, e5]
    by_cases hj : (j : Int) < n
    · rw [if_pos hj, if_pos hj, if_pos ((h5 j).mpr hj)]
    · rw [if_neg hj, if_neg hj]
  · have e34 : ff_rd M n n.toNat 3 4 = n := by simp [ff_rd]
    have e5 : ff_rd M n n.toNat 6 j = if j < n.toNat then ff_trn (M 4) (j : Int) else M 6 j := by simp [ff_rd]
    show (if (j : Int) < ff_rd M n n.toNat 3 4 then ff_rd M n n.toNat 6 j else 0) = (if (j : Int) < n then ff_trn (M 4) (j : Int) else 0)
    rw [e34, e5]
    by_cases hj : (j : Int) < n
    · rw [if_pos hj, if_pos hj, if_pos ((h5 j).mpr hj)]
    · rw [if_neg hj, if_neg hj]
  · rfl
  · rfl
  · rfl
  · rfl
  · rcases j with _ | _ | _ | _ | j <;> rfl
  · rfl
theorem ff_X_add (M : ez_M) (l li s f t : Int) : ff_X (ff_add M (M 7 1) l li s f t) = fun r j => if r = 5 then ff_addf (ff_X M 5) (ff_X M 1 4) l li s f t j else if r = 1 ∧ j = 4 then ff_X M 1 4 + 1 else ff_X M r j := by
  funext r j
  rcases r with _ | _ | _ | _ | _ | _ | _ | _ | _ | _ | r
  · rfl
  · rcases j with _ | _ | _ | _ | _ | j <;> rfl
  · rfl
  · rfl
  · rfl
  · rfl
  · rfl
  · rfl
  · rfl
  · rcases j with _ | _ | _ | _ | j <;> rfl
  · rfl

