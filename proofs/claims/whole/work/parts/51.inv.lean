/-! ===== what holds of a state goes on to hold ===== -/
theorem ff_ch_congr {f g : Nat → Int} {c : Int} (h : ∀ w : Nat, w ≤ 10 → f (11 * c + w).toNat = g (11 * c + w).toNat) (hg : ff_ch g c) : ff_ch f c := by
  have h0 : f (11 * c + 0).toNat = g (11 * c + 0).toNat := h 0 (by omega)
  have h1 : f (11 * c + 1).toNat = g (11 * c + 1).toNat := h 1 (by omega)
  have h2 : f (11 * c + 2).toNat = g (11 * c + 2).toNat := h 2 (by omega)
  have h3 : f (11 * c + 3).toNat = g (11 * c + 3).toNat := h 3 (by omega)
  have h4 : f (11 * c + 4).toNat = g (11 * c + 4).toNat := h 4 (by omega)
  have h5 : f (11 * c + 5).toNat = g (11 * c + 5).toNat := h 5 (by omega)
  have h6 : f (11 * c + 6).toNat = g (11 * c + 6).toNat := h 6 (by omega)
  have h7 : f (11 * c + 7).toNat = g (11 * c + 7).toNat := h 7 (by omega)
  have h8 : f (11 * c + 8).toNat = g (11 * c + 8).toNat := h 8 (by omega)
  have h9 : f (11 * c + 9).toNat = g (11 * c + 9).toNat := h 9 (by omega)
  have h10 : f (11 * c + 10).toNat = g (11 * c + 10).toNat := h 10 (by omega)
  unfold ff_ch at *
  rw [h0, h1, h2, h3, h4, h5, h6, h7, h8, h9, h10]
  exact hg
theorem ff_Inv_0 {S : ff_S} (hI : ff_Inv S) (k : Nat) {h : Int} (hh : 0 ≤ h ∧ h ≤ 9) : ff_Inv (ez_up S 0 k h) := by
  obtain ⟨i1, i2⟩ := hI
  refine ⟨fun j => ?_, i2⟩
  simp only [ez_up]
  split
  · exact hh
  · exact i1 j
theorem ff_Inv_10 {S : ff_S} (hI : ff_Inv S) {h : Int} (hh : 0 ≤ h ∧ h ≤ 600) : ff_Inv (ez_up S 1 0 h) := by
  obtain ⟨i1, ⟨j0, j1, j2, j4⟩, i2⟩ := hI
  exact ⟨i1, ⟨hh, j1, j2, j4⟩, i2⟩
theorem ff_Inv_11 {S : ff_S} (hI : ff_Inv S) {h : Int} (hh : 0 ≤ h ∧ h ≤ 363) : ff_Inv (ez_up S 1 1 h) := by
  obtain ⟨i1, ⟨j0, j1, j2, j4⟩, i2⟩ := hI
  exact ⟨i1, ⟨j0, hh, j2, j4⟩, i2⟩
theorem ff_Inv_12 {S : ff_S} (hI : ff_Inv S) {h : Int} (hh : 0 ≤ h ∧ h ≤ 48) : ff_Inv (ez_up S 1 2 h) := by
  obtain ⟨i1, ⟨j0, j1, j2, j4⟩, i2⟩ := hI
  exact ⟨i1, ⟨j0, j1, hh, j4⟩, i2⟩
theorem ff_Inv_2 {S : ff_S} (hI : ff_Inv S) (k : Nat) {h : Int} (hh : 0 ≤ h ∧ h ≤ 255) : ff_Inv (ez_up S 2 k h) := by
  obtain ⟨i1, i2, i3, i4⟩ := hI
  refine ⟨i1, i2, fun j => ?_, i4⟩
  simp only [ez_up]
  split
  · exact hh
  · exact i3 j
theorem ff_Inv_6 {S : ff_S} (hI : ff_Inv S) (k : Nat) {h : Int} (hh : 0 ≤ h ∧ h ≤ 9) : ff_Inv (ez_up S 6 k h) := by
  obtain ⟨i1, i2, i3, i4, i5, i6, i7⟩ := hI
  refine ⟨i1, i2, i3, i4, i5, fun j => ?_, i7⟩
  simp only [ez_up]
  split
  · exact hh
  · exact i6 j
theorem ff_Inv_edge {S : ff_S} (hI : ff_Inv S) (l t h : Int) : ff_Inv (op_edge_s S l t h) := by
  unfold op_edge_s
  split
  · rename_i hc
    exact ff_Inv_0 hI _ hc.2
  · exact hI
theorem ff_Inv_switched {S : ff_S} (hI : ff_Inv S) (y : Int) : ff_Inv (op_switched_s S y) := by
  unfold op_switched_s
  split
  · rename_i hc
    exact ff_Inv_10 hI hc
  · exact hI
theorem ff_Inv_feast {S : ff_S} (hI : ff_Inv S) (y : Int) : ff_Inv (op_feast_s S y) := by
  unfold op_feast_s
  split
  · rename_i hc
    exact ff_Inv_11 hI hc
  · exact hI
theorem ff_Inv_app (v : Int) : ∀ (k : Nat) (S : ff_S), ff_Inv S → S 1 2 + k ≤ 48 → ff_Inv (ff_appS v k S)
  | 0, S, hI, _ => hI
  | k + 1, S, hI, h => by
    have hn := hI.2.1.2.2.1
    simp only [ff_appS]
    refine ff_Inv_app v k _ ?_ ?_
    · exact ff_Inv_12 (ff_Inv_2 hI _ (ff_byte_r v k)) (by omega)
    · show S 1 2 + 1 + (k : Int) ≤ 48
      omega
theorem ff_Inv_write {S : ff_S} (hI : ff_Inv S) (n v : Int) : ff_Inv (op_write_s S n v) := by
  unfold op_write_s
  split
  · rename_i hc
    exact ff_Inv_app v _ S hI (by omega)
  · exact hI
theorem ff_Inv_wipe {S : ff_S} (hI : ff_Inv S) : ff_Inv (op_wipe_s S) := ff_Inv_12 hI (by omega)
theorem ff_Inv_weight {S : ff_S} (hI : ff_Inv S) (r v : Int) : ff_Inv (op_weight_s S r v) := by
  unfold op_weight_s
  split
  · rename_i hc
    exact ff_Inv_6 hI _ hc.2
  · exact hI
theorem ff_ff_all {T : Nat → Int} : ∀ (n : Nat) (p : Int), 0 ≤ p → ff_ff T n p = -9 → ∀ q : Int, p ≤ q → q < p + n → ff_can T q = true
  | 0, p, _, _, q, h1, h2 => by omega
  | n + 1, p, h0, h, q, h1, h2 => by
    simp only [ff_ff] at h
    by_cases hc : ff_can T p = true
    · rw [if_pos hc] at h
      by_cases hq : q = p
      · rw [hq]
        exact hc
      · exact ff_ff_all n (p + 1) (by omega) h q (by omega) (by omega)
    · rw [if_neg hc] at h
      omega
theorem ff_can_dg {T : Nat → Int} {p : Int} (h : p % 7 = 0 ∨ p % 7 = 1 ∨ p % 7 = 2) (hc : ff_can T p = true) : (48 ≤ T p.toNat ∧ T p.toNat ≤ 57) ∧ ff_cby T (p - p % 7) (p % 7 + 1) = true := by
  unfold ff_can at hc
  rw [if_neg (by omega), if_neg (by omega), if_neg (by omega), if_neg (by omega), Bool.and_eq_true, decide_eq_true_eq] at hc
  exact hc
theorem ff_yr_ok {T : Nat → Int} {P : Int} (h0 : 0 ≤ P) (hP : P % 7 = 0) (c0 : ff_can T P = true) (c1 : ff_can T (P + 1) = true) (c2 : ff_can T (P + 2) = true) : 0 ≤ ff_fig T P 3 ∧ ff_fig T P 3 ≤ 599 ∧ ff_abv T P < ff_fig T P 3 := by
  have d0 := ff_can_dg (by omega) c0
  have d1 := ff_can_dg (by omega) c1
  have d2 := ff_can_dg (by omega) c2
  have hm : (P + 2) % 7 = 2 := by omega
  rw [hm, show P + 2 - 2 = P by omega] at d2
  have hb := d2.2
  unfold ff_cby at hb
  rw [if_neg (by decide), if_neg (by decide), decide_eq_true_eq, show (2 : Int) + 1 = 3 by decide] at hb
  have f1 := ff_fig_1 T P
  have f2 := ff_fig_2 T P
  have f3 := ff_fig_3 T P
  omega
theorem ff_tn_ok {T : Nat → Int} {P : Int} (hP : P % 7 = 0) (c4 : ff_can T (P + 4) = true) (c5 : ff_can T (P + 5) = true) : 0 ≤ ff_fig T (P + 4) 2 ∧ ff_fig T (P + 4) 2 ≤ 40 := by
  have d4 := (ff_can_4 hP).mp c4
  have f1 := ff_fig_1 T (P + 4)
  have d5 := (ff_can_5 (t := ff_fig T (P + 4) 1) hP rfl (by omega) (by omega)).mp c5
  have f2 := ff_fig_2 T (P + 4)
  rw [show P + 4 + 1 = P + 5 by omega] at f2
  split at d5 <;> omega
theorem ff_bk_rd {T : Nat → Int} {len n : Int} (hl : 0 ≤ len ∧ len ≤ 48) (hn : n = (len + 1) / 7) (hf : ff_fault T len = -9) : ff_bk n (fun j => if (j : Int) < n then ff_fig T ((j : Int) * 7) 3 else 0) (fun j => if (j : Int) < n then ff_trn T (j : Int) else 0) := by
  unfold ff_fault at hf
  have hall := ff_ff_all len.toNat 0 (by omega) hf
  have hc : ∀ (j : Nat) (k : Int), (j : Int) < n → 0 ≤ k → k ≤ 5 → ff_can T ((j : Int) * 7 + k) = true := fun j k hj h0 h5 => hall _ (by omega) (by omega)
  have hy : ∀ j : Nat, (j : Int) < n → 0 ≤ ff_fig T ((j : Int) * 7) 3 ∧ ff_fig T ((j : Int) * 7) 3 ≤ 599 ∧ ff_abv T ((j : Int) * 7) < ff_fig T ((j : Int) * 7) 3 := fun j hj => by
    have c0 := hc j 0 hj (by omega) (by omega)
    rw [Int.add_zero] at c0
    exact ff_yr_ok (by omega) (by omega) c0 (hc j 1 hj (by omega) (by omega)) (hc j 2 hj (by omega) (by omega))
  refine ⟨by omega, fun j hj => ?_, fun i j hij hj => ?_⟩
  · have a := hy j hj
    have b := ff_tn_ok (by omega) (hc j 4 hj (by omega) (by omega)) (hc j 5 hj (by omega) (by omega))
    simp only [if_pos hj]
    unfold ff_trn
    split <;> omega
  · have hi : (i : Int) < n := by omega
    simp only [if_pos hj, if_pos hi]
    have step : ∀ d : Nat, ((i + d : Nat) : Int) < n → ff_fig T ((i : Int) * 7) 3 + d ≤ ff_fig T (((i + d : Nat) : Int) * 7) 3 := by
      intro d
      induction d with
      | zero =>
        intro _
        rw [Nat.add_zero]
        omega
      | succ d ih =>
        intro hd
        have ih := ih (by omega)
        have a := (hy (i + (d + 1)) hd).2.2
        unfold ff_abv at a
        rw [if_neg (by omega), show ((i + (d + 1) : Nat) : Int) * 7 - 7 = ((i + d : Nat) : Int) * 7 by omega] at a
        omega
    have := step (j - i) (by omega)
    rw [show i + (j - i) = j by omega] at this
    omega
theorem ff_Inv_book {S : ff_S} (hI : ff_Inv S) : ff_Inv (op_book_s S) := by
  unfold op_book_s
  split
  · rename_i hc
    obtain ⟨i1, i2, i3, i4, i5⟩ := hI
    exact ⟨i1, i2, i3, ff_bk_rd i2.2.2.1 rfl hc, i5⟩
  · exact hI
theorem ff_addf_lo {f : Nat → Int} {n l li s fr t c : Int} (h0 : 0 ≤ c) (h1 : c < n) (w : Nat) (hw : w ≤ 10) : ff_addf f n l li s fr t (11 * c + w).toNat = f (11 * c + w).toNat := by
  unfold ff_addf
  rw [if_neg (by omega)]
theorem ff_addf_at {f : Nat → Int} {n l li s fr t : Int} (h0 : 0 ≤ n) (w : Nat) (hw : w ≤ 10) : ff_addf f n l li s fr t (11 * n + w).toNat = ff_row l li s fr t w := by
  unfold ff_addf
  rw [if_pos (by omega), show (11 * n + (w : Int)).toNat - (11 * n).toNat = w by omega]
theorem ff_Inv_church {S : ff_S} (hI : ff_Inv S) (l li s f t : Int) : ff_Inv (op_church_s S l li s f t) := by
  unfold op_church_s
  split
  · rename_i hc
    obtain ⟨i1, i2, i3, i4, i5, i6⟩ := hI
    have hn := i2.2.2.2
    refine ⟨i1, ⟨i2.1, i2.2.1, i2.2.2.1, ?_⟩, i3, i4, fun c h0 h1 => ?_, i6⟩
    · show 0 ≤ S 1 4 + 1 ∧ S 1 4 + 1 ≤ 10
      omega
    · have h1 : c < S 1 4 + 1 := h1
      show ff_ch (ff_addf (S 5) (S 1 4) l li s f t) c
      by_cases hcn : c < S 1 4
      · exact ff_ch_congr (fun w hw => ff_addf_lo h0 hcn w hw) (i5 c h0 hcn)
      · obtain rfl : c = S 1 4 := by omega
        have e0 : ff_addf (S 5) (S 1 4) l li s f t (11 * S 1 4 + 0).toNat = l := ff_addf_at h0 0 (by omega)
        have e1 : ff_addf (S 5) (S 1 4) l li s f t (11 * S 1 4 + 1).toNat = li := ff_addf_at h0 1 (by omega)
        have e2 : ff_addf (S 5) (S 1 4) l li s f t (11 * S 1 4 + 2).toNat = s := ff_addf_at h0 2 (by omega)
        have e3 : ff_addf (S 5) (S 1 4) l li s f t (11 * S 1 4 + 3).toNat = f := ff_addf_at h0 3 (by omega)
        have e4 : ff_addf (S 5) (S 1 4) l li s f t (11 * S 1 4 + 4).toNat = t := ff_addf_at h0 4 (by omega)
        have e5 : ff_addf (S 5) (S 1 4) l li s f t (11 * S 1 4 + 5).toNat = -9 := ff_addf_at h0 5 (by omega)
        have e6 : ff_addf (S 5) (S 1 4) l li s f t (11 * S 1 4 + 6).toNat = -9 := ff_addf_at h0 6 (by omega)
        have e7 : ff_addf (S 5) (S 1 4) l li s f t (11 * S 1 4 + 7).toNat = -9 := ff_addf_at h0 7 (by omega)
        have e8 : ff_addf (S 5) (S 1 4) l li s f t (11 * S 1 4 + 8).toNat = -9 := ff_addf_at h0 8 (by omega)
        unfold ff_ch
        rw [e0, e1, e2, e3, e4, e5, e6, e7, e8]
        omega
  · exact hI
/-- one number of one church is told anew -/
theorem ff_Inv_5 {S : ff_S} (hI : ff_Inv S) {F : Nat → Int} {c : Int} (hF : ∀ d : Int, 0 ≤ d → ¬ d = c → ∀ w : Nat, w ≤ 10 → F (11 * d + w).toNat = S 5 (11 * d + w).toNat) (hc : 0 ≤ c → c < S 1 4 → ff_ch F c) : ff_Inv (fun r j => if r = 5 then F j else S r j) := by
  obtain ⟨i1, i2, i3, i4, i5, i6⟩ := hI
  refine ⟨i1, i2, i3, i4, fun d h0 h1 => ?_, i6⟩
  show ff_ch F d
  by_cases hd : d = c
  · subst hd
    exact hc h0 h1
  · exact ff_ch_congr (hF d h0 hd) (i5 d h0 h1)
theorem ez_up_row5 (S : ff_S) (k : Nat) (v : Int) : ez_up S 5 k v = fun r j => if r = 5 then (if j = k then v else S 5 j) else S r j := by
  funext r j
  simp only [ez_up]
  by_cases hr : r = 5
  · subst hr
    simp
  · simp [hr]
theorem ff_Inv_set {S : ff_S} (hI : ff_Inv S) {c k v : Int} (hc0 : 0 ≤ c) (hk : 0 ≤ k ∧ k ≤ 10) (h : ∀ F : Nat → Int, F (11 * c + k).toNat = v → (∀ i : Int, 0 ≤ i → i ≤ 10 → ¬ i = k → F (11 * c + i).toNat = S 5 (11 * c + i).toNat) → ff_ch (S 5) c → ff_ch F c) (hc1 : c < S 1 4) : ff_Inv (ez_up S 5 (11 * c + k).toNat v) := by
  rw [ez_up_row5]
  refine ff_Inv_5 (F := fun j => if j = (11 * c + k).toNat then v else S 5 j) hI (c := c) (fun d h0 hd z hz => ?_) (fun _ _ => ?_)
  · show (if (11 * d + (z : Int)).toNat = (11 * c + k).toNat then v else S 5 (11 * d + (z : Int)).toNat) = _
    rw [if_neg (by omega)]
  · refine h _ ?_ (fun i h0 h1 hne => ?_) (hI.2.2.2.2.1 c hc0 hc1)
    · show (if (11 * c + k).toNat = (11 * c + k).toNat then v else _) = v
      rw [if_pos rfl]
    · show (if (11 * c + i).toNat = (11 * c + k).toNat then v else S 5 (11 * c + i).toNat) = _
      rw [if_neg (by omega)]
theorem ff_Inv_tell {S : ff_S} (hI : ff_Inv S) (c w v : Int) : ff_Inv (op_tell_s S c w v) := by
  unfold op_tell_s
  by_cases hc : (0 ≤ c ∧ c < S 1 4) ∧ ((0 ≤ w ∧ w ≤ 2) ∧ (v = -9 ∨ (0 ≤ v ∧ v ≤ (if w = 0 then 363 else 359))))
  · rw [if_pos hc]
    obtain ⟨⟨c0, c1⟩, ⟨w0, w2⟩, hv⟩ := hc
    refine ff_Inv_set hI c0 ⟨by omega, by omega⟩ (fun F hF hne h => ?_) c1
    have hw : w = 0 ∨ w = 1 ∨ w = 2 := by omega
    unfold ff_ch at h ⊢
    rw [hne 0 (by omega) (by omega) (by omega), hne 1 (by omega) (by omega) (by omega), hne 2 (by omega) (by omega) (by omega), hne 3 (by omega) (by omega) (by omega), hne 4 (by omega) (by omega) (by omega), hne 8 (by omega) (by omega) (by omega), hne 9 (by omega) (by omega) (by omega), hne 10 (by omega) (by omega) (by omega)]
    rcases hw with rfl | rfl | rfl
    · rw [if_pos rfl] at hv
      rw [show (5 : Int) + 0 = 5 by decide] at hF
      rw [hF, hne 6 (by omega) (by omega) (by omega), hne 7 (by omega) (by omega) (by omega)]
      omega
    · rw [if_neg (by decide)] at hv
      rw [show (5 : Int) + 1 = 6 by decide] at hF
      rw [hF, hne 5 (by omega) (by omega) (by omega), hne 7 (by omega) (by omega) (by omega)]
      omega
    · rw [if_neg (by decide)] at hv
      rw [show (5 : Int) + 2 = 7 by decide] at hF
      rw [hF, hne 5 (by omega) (by omega) (by omega), hne 6 (by omega) (by omega) (by omega)]
      omega
  · rw [if_neg hc]
    exact hI
theorem ff_Inv_choir {S : ff_S} (hI : ff_Inv S) (c l f t : Int) : ff_Inv (op_choir_s S c l f t) := by
  unfold op_choir_s
  split
  · rename_i hc
    obtain ⟨⟨⟨c0, c1⟩, hl, hf, ht⟩, hs, _⟩ := hc
    have e : ez_up (ez_up (ez_up S 5 (11 * c + 9).toNat f) 5 (11 * c + 10).toNat t) 5 (11 * c + 8).toNat l = fun r j => if r = 5 then (if j = (11 * c + 8).toNat then l else if j = (11 * c + 10).toNat then t else if j = (11 * c + 9).toNat then f else S 5 j) else S r j := by
      funext r j
      simp only [ez_up]
      by_cases hr : r = 5
      · subst hr
        simp
      · simp [hr]
    rw [e]
    refine ff_Inv_5 (F := fun j => if j = (11 * c + 8).toNat then l else if j = (11 * c + 10).toNat then t else if j = (11 * c + 9).toNat then f else S 5 j) hI (c := c) (fun d h0 hd z hz => ?_) (fun _ _ => ?_)
    · show (if (11 * d + (z : Int)).toNat = (11 * c + 8).toNat then l else if (11 * d + (z : Int)).toNat = (11 * c + 10).toNat then t else if (11 * d + (z : Int)).toNat = (11 * c + 9).toNat then f else S 5 (11 * d + (z : Int)).toNat) = _
      rw [if_neg (by omega), if_neg (by omega), if_neg (by omega)]
    · have h := hI.2.2.2.2.1 c c0 c1
      have hne : ∀ i : Int, 0 ≤ i → i ≤ 7 → (fun j : Nat => if j = (11 * c + 8).toNat then l else if j = (11 * c + 10).toNat then t else if j = (11 * c + 9).toNat then f else S 5 j) (11 * c + i).toNat = S 5 (11 * c + i).toNat := fun i h0 h7 => by
        show (if (11 * c + i).toNat = (11 * c + 8).toNat then l else if (11 * c + i).toNat = (11 * c + 10).toNat then t else if (11 * c + i).toNat = (11 * c + 9).toNat then f else S 5 (11 * c + i).toNat) = _
        rw [if_neg (by omega), if_neg (by omega), if_neg (by omega)]
      have h8 : (fun j : Nat => if j = (11 * c + 8).toNat then l else if j = (11 * c + 10).toNat then t else if j = (11 * c + 9).toNat then f else S 5 j) (11 * c + 8).toNat = l := if_pos rfl
      have h9 : (fun j : Nat => if j = (11 * c + 8).toNat then l else if j = (11 * c + 10).toNat then t else if j = (11 * c + 9).toNat then f else S 5 j) (11 * c + 9).toNat = f := by
        show (if (11 * c + 9).toNat = (11 * c + 8).toNat then l else if (11 * c + 9).toNat = (11 * c + 10).toNat then t else if (11 * c + 9).toNat = (11 * c + 9).toNat then f else S 5 (11 * c + 9).toNat) = _
        rw [if_neg (by omega), if_neg (by omega), if_pos rfl]
      have h10 : (fun j : Nat => if j = (11 * c + 8).toNat then l else if j = (11 * c + 10).toNat then t else if j = (11 * c + 9).toNat then f else S 5 j) (11 * c + 10).toNat = t := by
        show (if (11 * c + 10).toNat = (11 * c + 8).toNat then l else if (11 * c + 10).toNat = (11 * c + 10).toNat then t else _) = _
        rw [if_neg (by omega), if_pos rfl]
      generalize (fun j : Nat => if j = (11 * c + 8).toNat then l else if j = (11 * c + 10).toNat then t else if j = (11 * c + 9).toNat then f else S 5 j) = F at hne h8 h9 h10 ⊢
      unfold ff_ch at h ⊢
      rw [hne 0 (by omega) (by omega), hne 1 (by omega) (by omega), hne 2 (by omega) (by omega), hne 3 (by omega) (by omega), hne 4 (by omega) (by omega), hne 5 (by omega) (by omega), hne 6 (by omega) (by omega), hne 7 (by omega) (by omega), h8, h9, h10]
      omega
  · exact hI
theorem ff_ch_110 {f : Nat → Int} {c : Int} (h0 : 0 ≤ c) (h1 : c < 10) (h : ff_ch f c) {g : Nat → Int} (hg : ∀ j : Nat, j < 110 → g j = f j) : ff_ch g c := ff_ch_congr (fun w hw => hg _ (by omega)) h
theorem ff_Inv_keep {S : ff_S} (hI : ff_Inv S) (k : Int) : ff_Inv (op_keep_s S k) := by
  have hn := hI.2.1.2.2.2
  unfold op_keep_s
  split
  · obtain ⟨i1, i2, i3, i4, i5, i6, i7, i8, i9⟩ := hI
    refine ⟨i1, i2, i3, i4, i5, i6, ⟨hn, i7.2.1, Or.inr rfl, i7.2.2.2⟩, fun c h0 h1 => ?_, i9⟩
    have h1 : c < S 1 4 := h1
    exact ff_ch_110 h0 (by omega) (i5 c h0 h1) (fun j hj => if_pos hj)
  · split
    · obtain ⟨i1, i2, i3, i4, i5, i6, i7, i8, i9⟩ := hI
      refine ⟨i1, i2, i3, i4, i5, i6, ⟨i7.1, hn, i7.2.2.1, Or.inr rfl⟩, i8, fun c h0 h1 => ?_⟩
      have h1 : c < S 1 4 := h1
      exact ff_ch_110 h0 (by omega) (i5 c h0 h1) (fun j hj => if_pos hj)
    · exact hI
theorem ff_Inv_again {S : ff_S} (hI : ff_Inv S) (k : Int) : ff_Inv (op_again_s S k) := by
  unfold op_again_s
  split
  · split
    · exact hI
    · obtain ⟨i1, i2, i3, i4, i5, i6, i7, i8, i9⟩ := hI
      refine ⟨i1, ⟨i2.1, i2.2.1, i2.2.2.1, i7.1⟩, i3, i4, fun c h0 h1 => ?_, i6, i7, i8, i9⟩
      have h1 : c < S 9 0 := h1
      exact ff_ch_110 h0 (by omega) (i8 c h0 h1) (fun j hj => if_pos hj)
  · split
    · split
      · exact hI
      · obtain ⟨i1, i2, i3, i4, i5, i6, i7, i8, i9⟩ := hI
        refine ⟨i1, ⟨i2.1, i2.2.1, i2.2.2.1, i7.2.1⟩, i3, i4, fun c h0 h1 => ?_, i6, i7, i8, i9⟩
        have h1 : c < S 9 1 := h1
        exact ff_ch_110 h0 (by omega) (i9 c h0 h1) (fun j hj => if_pos hj)
    · exact hI

