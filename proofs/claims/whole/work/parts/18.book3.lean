/-! ===== the needle ===== -/
def ff_lat (Y : Nat → Int) (y : Int) : Nat → Int → Int
  | 0, k => k
  | n + 1, k => if Y k.toNat ≤ y then ff_lat Y y n (k + 1) else k
/-- the needle, the k-th of n entries being the first that is later -/
def ff_ndk (n : Int) (Y V : Nat → Int) (y k : Int) : Int :=
  if k = 0 then V (0 : Int).toNat else if k = n then V (k - 1).toNat
  else V (k - 1).toNat + Int.tdiv ((V k.toNat - V (k - 1).toNat) * (y - Y (k - 1).toNat)) (Y k.toNat - Y (k - 1).toNat)
def ff_nd (n : Int) (Y V : Nat → Int) (y : Int) : Int := if n = 0 then 0 else ff_ndk n Y V y (ff_lat Y y n.toNat 0)
def ff_bk (n : Int) (Y V : Nat → Int) : Prop := (0 ≤ n ∧ n ≤ 7) ∧ (∀ j : Nat, (j : Int) < n → 0 ≤ Y j ∧ Y j ≤ 599 ∧ -40 ≤ V j ∧ V j ≤ 40) ∧ (∀ i j : Nat, i < j → (j : Int) < n → Y i < Y j)
theorem ff_lat_r (Y : Nat → Int) (y : Int) : ∀ (n : Nat) (k : Int), k ≤ ff_lat Y y n k ∧ ff_lat Y y n k ≤ k + n
  | 0, k => by simp [ff_lat]
  | n + 1, k => by
    have := ff_lat_r Y y n (k + 1)
    simp only [ff_lat]
    split <;> omega
/-- what the book says at an entry's place -/
theorem ff_bk_at {n : Int} {Y V : Nat → Int} (h : ff_bk n Y V) {k : Int} (h0 : 0 ≤ k) (h1 : k < n) : 0 ≤ Y k.toNat ∧ Y k.toNat ≤ 599 ∧ -40 ≤ V k.toNat ∧ V k.toNat ≤ 40 := h.2.1 k.toNat (by omega)
theorem ff_bk_lt {n : Int} {Y V : Nat → Int} (h : ff_bk n Y V) {i k : Int} (h0 : 0 ≤ i) (hi : i < k) (h1 : k < n) : Y i.toNat < Y k.toNat := h.2.2 i.toNat k.toNat (by omega) (by omega)
theorem ff_ndk_r {n : Int} {Y V : Nat → Int} (h : ff_bk n Y V) {y k : Int} (hy : 0 ≤ y) (hy2 : y ≤ 599) (hn : 0 < n) (h0 : 0 ≤ k) (h1 : k ≤ n) : -50000 ≤ ff_ndk n Y V y k ∧ ff_ndk n Y V y k ≤ 50000 := by
  unfold ff_ndk
  split
  · have := ff_bk_at h (k := 0) (by omega) hn
    omega
  · have ha := ff_bk_at h (k := k - 1) (by omega) (by omega)
    split
    · omega
    · have hb := ff_bk_at h (k := k) (by omega) (by omega)
      have hm := ez_mulb (a := V k.toNat - V (k - 1).toNat) (b := y - Y (k - 1).toNat) (A := 80) (B := 599) (by omega) (by omega) (by omega) (by omega)
      have ht := Int.natAbs_tdiv_le_natAbs ((V k.toNat - V (k - 1).toNat) * (y - Y (k - 1).toNat)) (Y k.toNat - Y (k - 1).toNat)
      omega
theorem ff_nd_r {n : Int} {Y V : Nat → Int} (h : ff_bk n Y V) {y : Int} (hy : 0 ≤ y) (hy2 : y ≤ 599) : -50000 ≤ ff_nd n Y V y ∧ ff_nd n Y V y ≤ 50000 := by
  unfold ff_nd
  have hn := h.1
  split
  · omega
  · have := ff_lat_r Y y n.toNat 0
    exact ff_ndk_r h hy hy2 (by omega) (by omega) (by omega)
def sp_X0_needleIn : ez_Sp := fun as M Q => match as with | [.inr (.inr q), .inl y] => q = 3 ∧ (0 ≤ y ∧ y ≤ 599) ∧ ff_bk (M 3 4) (M 5) (M 6) ∧ Q (some (.inl (ff_nd (M 3 4) (M 5) (M 6) y))) M | _ => False
def e_X0_needleIn : ez_E := (fl_X0, co_X0, [(36, 0, 2, sp_X5_at)], 0, 6)
set_option maxHeartbeats 4000000 in
set_option maxRecDepth 100000 in
theorem b_X0_needleIn : ez_Body LX e_X0_needleIn p_X0_needleIn sp_X0_needleIn := by
  intro as M Q has hM hsp
  unfold sp_X0_needleIn at hsp
  split at hsp
  rotate_left
  · exact hsp.elim
  rename_i q y
  have g_y : -2147483648 ≤ y ∧ y ≤ 2147483647 := ez_hd (ez_tl (has))
  obtain ⟨rfl, hv, hb, hsp⟩ := hsp
  have hn := hb.1
  refine ⟨Nat.le_of_ble_eq_true rfl, fun cut hcut hkut => ?_⟩
  unfold ff_nd at hsp
  by_cases h0 : M 3 4 = 0
  · simp only [h0, if_true] at hsp
    refine hcut [11] 60 0 _ _ _ ?_
    repeat' (first | (intro hh; exfalso; omega) | (refine And.intro (by first | assumption | omega) ?_) | (refine And.intro rfl ?_) | (refine And.intro ?_ ?_) | (intro qq hq1 hq2 hq3; have hq4 := hq2 (by omega) (by omega); subst hq4) | (intro hh) | omega | exact trivial)
    all_goals exact hsp
  · simp only [h0, if_false] at hsp
    have fin : ∀ k : Int, 0 ≤ k → k ≤ M 3 4 → (k = M 3 4 ∨ ¬ M 5 k.toNat ≤ y) → Q (some (.inl (ff_ndk (M 3 4) (M 5) (M 6) y k))) M → cut 11 [(2, .inl k), (0, .inr (.inr 3)), (1, .inl y)] [] M := by
      intro k hk0 hk1 hke hq
      refine hcut [11] 100 11 _ _ _ ?_
      unfold ff_ndk at hq
      by_cases e0 : k = 0
      · subst e0
        simp only [if_true] at hq
        have a0 := ff_bk_at hb (k := 0) (by omega) (by omega)
        repeat' (first | (intro hh; exfalso; omega) | (refine And.intro (by first | assumption | omega) ?_) | (refine And.intro rfl ?_) | (refine And.intro ?_ ?_) | (intro qq hq1 hq2 hq3; have hq4 := hq2 (by omega) (by omega); subst hq4) | (intro hh) | omega | exact trivial)
        all_goals exact hq
      · have a1 := ff_bk_at hb (k := k - 1) (by omega) (by omega)
        simp only [e0, if_false] at hq
        by_cases e1 : k = M 3 4
        · simp only [e1, if_true] at hq
          rw [← e1] at hq
          repeat' (first | (intro hh; exfalso; omega) | (refine And.intro (by first | assumption | omega) ?_) | (refine And.intro rfl ?_) | (refine And.intro ?_ ?_) | (intro qq hq1 hq2 hq3; have hq4 := hq2 (by omega) (by omega); subst hq4) | (intro hh) | omega | exact trivial)
          all_goals exact hq
        · have a2 := ff_bk_at hb (k := k) (by omega) (by omega)
          have a3 := ff_bk_lt hb (i := k - 1) (k := k) (by omega) (by omega) (by omega)
          have hm := ez_mulb (a := M 6 k.toNat - M 6 (k - 1).toNat) (b := y - M 5 (k - 1).toNat) (A := 80) (B := 599) (by omega) (by omega) (by omega) (by omega)
          simp only [e1, if_false] at hq
          repeat' (first | (intro hh; exfalso; omega) | (refine And.intro (by first | assumption | omega) ?_) | (refine And.intro rfl ?_) | (refine And.intro ?_ ?_) | (intro qq hq1 hq2 hq3; have hq4 := hq2 (by omega) (by omega); subst hq4) | (intro hh) | omega | exact trivial)
          all_goals first | exact hq | (rename_i z hz _ _; subst hz; exact hq)
    have loop : ∀ (n : Nat) (k : Int), k + n = M 3 4 → 0 ≤ k → Q (some (.inl (ff_ndk (M 3 4) (M 5) (M 6) y (ff_lat (M 5) y n k)))) M → cut 11 [(2, .inl k), (0, .inr (.inr 3)), (1, .inl y)] [] M := by
      intro n
      induction n with
      | zero =>
        intro k hk hk0 hq
        exact fin k hk0 (by omega) (Or.inl (by omega)) hq
      | succ n ih =>
        intro k hk hk0 hq
        simp only [ff_lat] at hq
        split at hq
        · refine hcut [11] 60 11 _ _ _ ?_
          repeat' (first | (intro hh; exfalso; omega) | (refine And.intro (by first | assumption | omega) ?_) | (refine And.intro rfl ?_) | (refine And.intro ?_ ?_) | (intro qq hq1 hq2 hq3; have hq4 := hq2 (by omega) (by omega); subst hq4) | (intro hh) | omega | exact trivial)
          all_goals exact ih (k + 1) (by omega) (by omega) hq
        · rename_i hc
          exact fin k hk0 (by omega) (Or.inr hc) hq
    refine hcut [11] 60 0 _ _ _ ?_
    repeat' (first | (intro hh; exfalso; omega) | (refine And.intro (by first | assumption | omega) ?_) | (refine And.intro rfl ?_) | (refine And.intro ?_ ?_) | (intro qq hq1 hq2 hq3; have hq4 := hq2 (by omega) (by omega); subst hq4) | (intro hh) | omega | exact trivial)
    all_goals exact loop (M 3 4).toNat 0 (by omega) (by omega) hsp
theorem so_X0_needleIn : ez_Sound LX yX0_needleIn cX0_needleIn 6 (some .int) 1 sp_X0_needleIn := ez_sound (E := e_X0_needleIn) (prog := p_X0_needleIn) LX_ok (by decide +kernel) rfl (fun _ h => h) fo_X0 co_X0_ok (List.forall_mem_cons.mpr ⟨k_X0_36 (by decide), fun _ h => absurd h List.not_mem_nil⟩) dp_X0_needleIn b_X0_needleIn
def ff_trn (T : Nat → Int) (e : Int) : Int := if T (e * 7 + 3).toNat = 45 then -(ff_fig T (e * 7 + 4) 2) else ff_fig T (e * 7 + 4) 2
/-- the text is read: n entries, k of them yet -/
def ff_rd (M : ez_M) (n : Int) (k : Nat) : ez_M := fun i j => if i = 5 ∧ j < k then ff_fig (M 4) ((j : Int) * 7) 3 else if i = 6 ∧ j < k then ff_trn (M 4) (j : Int) else if i = 3 ∧ j = 4 then n else M i j
theorem ff_rd_s {M : ez_M} {n : Int} {k : Nat} {a b : Int} (ha : a = ff_fig (M 4) ((k : Int) * 7) 3) (hb : b = ff_trn (M 4) (k : Int)) : ez_up (ez_up (ff_rd M n k) 5 k a) 6 k b = ff_rd M n (k + 1) := by
  subst ha hb
  funext i j
  simp only [ez_up, ff_rd]
  grind
theorem ff_rd_4 (M : ez_M) (n : Int) (k : Nat) : ff_rd M n k 4 = M 4 := by
  funext j
  simp [ff_rd]
def sp_X0_readText : ez_Sp := fun as M Q => match as with | [.inr (.inr q)] => q = 3 ∧ (0 ≤ M 3 3 ∧ M 3 3 ≤ 48) ∧ (∀ j, 0 ≤ M 4 j ∧ M 4 j ≤ 255) ∧ Q (some (.inl ((M 3 3 + 1) / 7))) (ff_rd M ((M 3 3 + 1) / 7) ((M 3 3 + 1) / 7).toNat) | _ => False
def e_X0_readText : ez_E := (fl_X0, co_X0, [(43, 0+1, 2, sp_X0_figures), (28, 0, 3, sp_X5_put), (36, 0, 2, sp_X5_at)], 0, 4)
set_option maxHeartbeats 4000000 in
set_option maxRecDepth 100000 in
theorem b_X0_readText : ez_Body LX e_X0_readText p_X0_readText sp_X0_readText := by
  intro as M Q has hM hsp
  unfold sp_X0_readText at hsp
  split at hsp
  rotate_left
  · exact hsp.elim
  rename_i q
  obtain ⟨rfl, hv, hT, hsp⟩ := hsp
  refine ⟨Nat.le_of_ble_eq_true rfl, fun cut hcut hkut => ?_⟩
  generalize hN : (M 3 3 + 1) / 7 = N at hsp
  have hN7 : 0 ≤ N ∧ N ≤ 7 ∧ N * 7 ≤ M 3 3 + 1 := by omega
  have loop : ∀ (n k : Nat), (k : Int) + n = N → cut 15 [(0, .inr (.inr 3)), (1, .inl (k : Int))] [] (ff_rd M N k) := by
    intro n
    induction n with
    | zero =>
      intro k hk
      have hk2 : N.toNat = k := by omega
      rw [hk2] at hsp
      have e34 : ff_rd M N k 3 4 = N := by simp [ff_rd]
      refine hkut [(15, [0, 1])] 100 15 _ _ _ ?_
      refine And.intro ?_ ?_
      · rw [e34]
        repeat' (first | (intro hh; exfalso; omega) | (refine And.intro (by first | assumption | omega) ?_) | (refine And.intro rfl ?_) | (refine And.intro ?_ ?_) | (intro qq hq1 hq2 hq3; have hq4 := hq2 (by omega) (by omega); subst hq4) | (intro hh) | omega | exact trivial)
        all_goals exact ez_ret hsp e34
      · rw [e34]
        intro hh
        exfalso
        omega
    | succ n ih =>
      intro k hk
      have ih := ih (k + 1) (by omega)
      have e34 : ff_rd M N k 3 4 = N := by simp [ff_rd]
      have e4 := ff_rd_4 M N k
      have hT2 : ∀ j, 0 ≤ ff_rd M N k 4 j ∧ ff_rd M N k 4 j ≤ 255 := by rw [e4]; exact hT
      have b1 := ff_fig_r hT ((k : Int) * 7) 3 (by omega) (by omega)
      have b2 := ff_fig_r hT ((k : Int) * 7 + 4) 2 (by omega) (by omega)
      have hp : ez_up (ez_up (ff_rd M N k) 5 k (ff_fig (M 4) ((k : Int) * 7) 3)) 6 k (ff_trn (M 4) (k : Int)) = ff_rd M N (k + 1) := ff_rd_s rfl rfl
      rw [← hp] at ih
      unfold ff_trn at ih
      refine hkut [(15, [0, 1])] 100 15 _ _ _ ?_
      refine And.intro ?_ ?_
      · rw [e34]
        intro hh
        exfalso
        omega
      · rw [e34]
        intro hh
        rw [← e4] at b1 b2 ih
        by_cases h45 : ff_rd M N k 4 ((k : Int) * 7 + 3).toNat = 45
        · rw [if_pos h45] at ih
          repeat' (first | (intro hh; exfalso; omega) | (refine And.intro (by first | assumption | omega) ?_) | (refine And.intro rfl ?_) | (refine And.intro ?_ ?_) | (intro qq hq1 hq2 hq3; have hq4 := hq2 (by omega) (by omega); subst hq4) | (intro hh) | omega | exact trivial)
          all_goals first | exact ih | (rename_i hz; exact absurd h45 (by simpa [ez_up] using hz))
        · rw [if_neg h45] at ih
          repeat' (first | (intro hh; exfalso; omega) | (refine And.intro (by first | assumption | omega) ?_) | (refine And.intro rfl ?_) | (refine And.intro ?_ ?_) | (intro qq hq1 hq2 hq3; have hq4 := hq2 (by omega) (by omega); subst hq4) | (intro hh) | omega | exact trivial)
          all_goals first | exact ih | (rename_i hz; exact absurd (by simpa [ez_up] using hz) h45)
  have h0 := loop N.toNat 0 (by omega)
  have e0 : ff_rd M N 0 = ez_up M 3 4 N := by
    funext i j
    simp [ff_rd, ez_up]
  rw [e0] at h0
  subst hN
  refine hkut [(15, [0, 1])] 100 0 _ _ _ ?_
  repeat' (first | (intro hh; exfalso; omega) | (refine And.intro (by first | assumption | omega) ?_) | (refine And.intro rfl ?_) | (refine And.intro ?_ ?_) | (intro qq hq1 hq2 hq3; have hq4 := hq2 (by omega) (by omega); subst hq4) | (intro hh) | omega | exact trivial)
  all_goals exact h0
theorem so_X0_readText : ez_Sound LX yX0_readText cX0_readText 4 (some .int) 2 sp_X0_readText := ez_sound (E := e_X0_readText) (prog := p_X0_readText) LX_ok (by decide +kernel) rfl (fun _ h => h) fo_X0 co_X0_ok (List.forall_mem_cons.mpr ⟨k_X0_43 (by decide), List.forall_mem_cons.mpr ⟨k_X0_28 (by decide), List.forall_mem_cons.mpr ⟨k_X0_36 (by decide), fun _ h => absurd h List.not_mem_nil⟩⟩⟩) dp_X0_readText b_X0_readText
