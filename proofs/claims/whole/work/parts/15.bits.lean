/-! ===== bits ===== -/
theorem ez_ofn (a : Nat) : Int32.ofInt (a : Int) = nI a := Int32.ofInt_eq_ofNat
theorem ez_and_n {a b : Nat} (ha : a < 2 ^ 31) : ez_and (a : Int) (b : Int) = ((a &&& b : Nat) : Int) := by
  unfold ez_and
  rw [ez_ofn, ez_ofn]
  have h : nI a &&& nI b = nI (a &&& b) := by
    apply Int32.toBitVec_inj.1
    show BitVec.ofNat 32 a &&& BitVec.ofNat 32 b = BitVec.ofNat 32 (a &&& b)
    simp
  rw [h, nI_toInt (Nat.lt_of_le_of_lt Nat.and_le_left ha)]
theorem ez_or_n {a b : Nat} (ha : a < 2 ^ 31) (hb : b < 2 ^ 31) : ez_or (a : Int) (b : Int) = ((a ||| b : Nat) : Int) := by
  unfold ez_or
  rw [ez_ofn, ez_ofn]
  have h : nI a ||| nI b = nI (a ||| b) := by
    apply Int32.toBitVec_inj.1
    show BitVec.ofNat 32 a ||| BitVec.ofNat 32 b = BitVec.ofNat 32 (a ||| b)
    simp
  rw [h, nI_toInt (Nat.or_lt_two_pow ha hb)]
theorem ez_s5 : ∀ n, n < 32 → ((nI n &&& 31).toBitVec.smod 32).toNat = n := by decide +kernel
theorem ez_shl_n : ∀ n, n < 31 → ez_shl 1 ((n : Nat) : Int) = ((2 ^ n : Nat) : Int) := by decide +kernel
theorem ez_shr_n {a k : Nat} (ha : a < 2 ^ 31) (hk : k < 32) : ez_shr (a : Int) (k : Int) = ((a / 2 ^ k : Nat) : Int) := by
  unfold ez_shr
  rw [ez_ofn, ez_ofn, pk_shrN ha (nI k &&& 31) k (ez_s5 k hk), nI_toInt (Nat.lt_of_le_of_lt (Nat.div_le_self _ _) ha)]
def ff_b (x : Int) (k : Nat) : Bool := x.toNat.testBit k
theorem ez_tb {x : Int} {k : Nat} (h0 : 0 ≤ x) (h1 : x < 2147483648) (hk : k < 32) : ez_and (ez_shr x (k : Int)) 1 = if ff_b x k = true then 1 else 0 := by
  obtain ⟨a, rfl⟩ := Int.eq_ofNat_of_zero_le h0
  have ha : a < 2 ^ 31 := by omega
  rw [ez_shr_n ha hk]
  have := ez_and_n (a := a / 2 ^ k) (b := 1) (Nat.lt_of_le_of_lt (Nat.div_le_self _ _) ha)
  rw [show ((1 : Nat) : Int) = 1 from rfl] at this
  rw [this, Nat.and_one_is_mod]
  unfold ff_b
  rw [Int.toNat_natCast, Nat.testBit_eq_decide_div_mod_eq]
  by_cases h : a / 2 ^ k % 2 = 1
  · simp [h]
  · have h2 : a / 2 ^ k % 2 = 0 := by omega
    simp [h2]
theorem ez_and1 (x : Int) : 0 ≤ ez_and x 1 ∧ ez_and x 1 ≤ 1 := by
  obtain ⟨j, hj, e⟩ := pk_andE (Int32.ofInt x) (m := Int32.ofInt 1) 1 (by decide)
  unfold ez_and
  rw [e, nI_toInt (by omega)]
  omega
theorem ez_and255 (x : Int) : 0 ≤ ez_and x 255 ∧ ez_and x 255 ≤ 255 := by
  obtain ⟨j, hj, e⟩ := pk_andE (Int32.ofInt x) (m := Int32.ofInt 255) 8 (by decide)
  unfold ez_and
  rw [e, nI_toInt (by omega)]
  omega
/-- a bit more, above all others -/
theorem ez_or_p {x : Int} {k : Nat} (h0 : 0 ≤ x) (h1 : x < 2 ^ k) (hk : k < 31) : ez_or x (2 ^ k) = x + 2 ^ k := by
  obtain ⟨a, rfl⟩ := Int.eq_ofNat_of_zero_le h0
  have ha : a < 2 ^ k := by exact_mod_cast h1
  have hp : (2 : Nat) ^ k < 2 ^ 31 := Nat.pow_lt_pow_right (by decide) hk
  have := ez_or_n (a := a) (b := 2 ^ k) (by omega) hp
  rw [Nat.or_two_pow_eq_add_of_lt ha] at this
  rw [show ((2 ^ k : Nat) : Int) = (2 : Int) ^ k by simp] at this
  rw [this]
  simp
def ff_pps (x : Int) : Nat → Int → Int
  | 0, _ => 0
  | n + 1, k => ez_and (ez_shr x k) 1 + ff_pps x n (k + 1)
/-- how many bits of ten -/
def ff_pop (x : Int) : Int := ff_pps x 10 0
theorem ff_pps_r (x : Int) : ∀ (n : Nat) (k : Int), 0 ≤ ff_pps x n k ∧ ff_pps x n k ≤ n
  | 0, k => by simp [ff_pps]
  | n + 1, k => by
    have h1 := ff_pps_r x n (k + 1)
    have h2 := ez_and1 (ez_shr x k)
    simp only [ff_pps]
    omega
theorem ff_pop_r (x : Int) : 0 ≤ ff_pop x ∧ ff_pop x ≤ 10 := ff_pps_r x 10 0
def ff_bc1 (x : Int) : Int := x - ez_and (ez_ushr x 1) 1431655765
def ff_bc2 (x : Int) : Int := ez_and x 858993459 + ez_and (ez_ushr x 2) 858993459
def ff_bc3 (x : Int) : Int := x + ez_ushr x 4
def ff_bc4 (x : Int) : Int := x + ez_ushr x 8
def ff_bc5 (x : Int) : Int := x + ez_ushr x 16
def ff_bcr (x : Int) : Bool := decide (-2147483648 ≤ x) && decide (x ≤ 2147483647)
def ff_bcA (a : Nat) : Bool :=
  let x1 := ff_bc1 (a : Int)
  let x2 := ff_bc2 x1
  let x3 := ff_bc3 x2
  let y3 := ez_and x3 252645135
  let x4 := ff_bc4 y3
  let x5 := ff_bc5 x4
  ff_bcr x1 && ff_bcr x2 && ff_bcr x3 && ff_bcr x4 && ff_bcr x5 && decide (ez_and x5 63 = ff_pop (a : Int))
theorem ff_bc_all : (List.range 1024).all ff_bcA = true := by decide +kernel
theorem ff_bc {x : Int} (h0 : 0 ≤ x) (h1 : x ≤ 1023) : (-2147483648 ≤ ff_bc1 x ∧ ff_bc1 x ≤ 2147483647) ∧ (-2147483648 ≤ ff_bc2 (ff_bc1 x) ∧ ff_bc2 (ff_bc1 x) ≤ 2147483647) ∧ (-2147483648 ≤ ff_bc3 (ff_bc2 (ff_bc1 x)) ∧ ff_bc3 (ff_bc2 (ff_bc1 x)) ≤ 2147483647) ∧ (-2147483648 ≤ ff_bc4 (ez_and (ff_bc3 (ff_bc2 (ff_bc1 x))) 252645135) ∧ ff_bc4 (ez_and (ff_bc3 (ff_bc2 (ff_bc1 x))) 252645135) ≤ 2147483647) ∧ (-2147483648 ≤ ff_bc5 (ff_bc4 (ez_and (ff_bc3 (ff_bc2 (ff_bc1 x))) 252645135)) ∧ ff_bc5 (ff_bc4 (ez_and (ff_bc3 (ff_bc2 (ff_bc1 x))) 252645135)) ≤ 2147483647) ∧ ez_and (ff_bc5 (ff_bc4 (ez_and (ff_bc3 (ff_bc2 (ff_bc1 x))) 252645135))) 63 = ff_pop x := by
  obtain ⟨a, rfl⟩ := Int.eq_ofNat_of_zero_le h0
  have h := List.all_eq_true.mp ff_bc_all a (List.mem_range.mpr (by omega))
  simp only [ff_bcA, ff_bcr, Bool.and_eq_true, decide_eq_true_eq] at h
  obtain ⟨⟨⟨⟨⟨h1, h2⟩, h3⟩, h4⟩, h5⟩, h6⟩ := h
  exact ⟨h1, h2, h3, h4, h5, h6⟩
def sp_J6_bitCount_0f7a4 : ez_Sp := fun as M Q => match as with | [.inl x] => (0 ≤ x ∧ x ≤ 1023) ∧ Q (some (.inl (ff_pop x))) M | _ => False
def e_J6_bitCount_0f7a4 : ez_E := (fl_J6, co_J6, [], 0, 1)
set_option maxHeartbeats 4000000 in
set_option maxRecDepth 100000 in
theorem b_J6_bitCount_0f7a4 : ez_Body LX e_J6_bitCount_0f7a4 p_J6_bitCount_0f7a4 sp_J6_bitCount_0f7a4 := by
  intro as M Q has hM hsp
  unfold sp_J6_bitCount_0f7a4 at hsp
  split at hsp
  rotate_left
  · exact hsp.elim
  rename_i x
  have g_x : -2147483648 ≤ x ∧ x ≤ 2147483647 := ez_hd (has)
  obtain ⟨hv, hsp⟩ := hsp
  obtain ⟨h1, h2, h3, h4, h5, h6⟩ := ff_bc hv.1 hv.2
  rw [← h6] at hsp
  unfold ff_bc5 ff_bc4 ff_bc3 ff_bc2 ff_bc1 at *
  refine ⟨Nat.le_of_ble_eq_true rfl, fun cut hcut hkut => hcut [] 60 0 _ _ _ ?_⟩
  repeat' (first | (intro hh; exfalso; omega) | (refine And.intro (by first | assumption | omega) ?_) | (refine And.intro rfl ?_) | (refine And.intro ?_ ?_) | (intro qq hq1 hq2 hq3; have hq4 := hq2 (by omega) (by omega); subst hq4) | (intro hh) | exact trivial)
  all_goals exact hsp
theorem so_J6_bitCount_0f7a4 : ez_Sound LX yJ6_bitCount_0f7a4 cJ6_bitCount_0f7a4 1 (some .int) 0 sp_J6_bitCount_0f7a4 := ez_sound (E := e_J6_bitCount_0f7a4) (prog := p_J6_bitCount_0f7a4) LX_ok (by decide +kernel) rfl (fun _ h => h) fo_J6 co_J6_ok (fun _ h => absurd h List.not_mem_nil) dp_J6_bitCount_0f7a4 b_J6_bitCount_0f7a4
