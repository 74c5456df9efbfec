/-! ===== the constructors' loops ===== -/
def ki_MX (k : Nat) : ez_M := fun i j => if i = 1 ∧ j = 1 then 600 else if i = 20 ∧ j < k then 1 else 0
def ki_MN (k : Nat) : ez_M := fun i j => if i = 0 ∧ j = 2 then 600 else if i = 8 ∧ j < k then 1 else 0
theorem ki_MX_up (k : Nat) : ez_up (ki_MX k) 20 k 1 = ki_MX (k + 1) := by
  funext i j
  simp only [ez_up, ki_MX]
  by_cases h : i = 20
  · subst h
    by_cases h1 : j = k
    · subst h1
      simp
    · by_cases h2 : j < k
      · have h3 : j < k + 1 := by omega
        simp [h1, h2, h3]
      · have h3 : ¬ j < k + 1 := by omega
        simp [h1, h2, h3]
  · simp [h]
theorem ki_MN_up (k : Nat) : ez_up (ki_MN k) 8 k 1 = ki_MN (k + 1) := by
  funext i j
  simp only [ez_up, ki_MN]
  by_cases h : i = 8
  · subst h
    by_cases h1 : j = k
    · subst h1
      simp
    · by_cases h2 : j < k
      · have h3 : j < k + 1 := by omega
        simp [h1, h2, h3]
      · have h3 : ¬ j < k + 1 := by omega
        simp [h1, h2, h3]
  · simp [h]
theorem ki_MX_ok (k : Nat) : ez_mok LX (ki_MX k) := by
  intro i j
  have h : 0 ≤ ki_MX k i j ∧ ki_MX k i j ≤ 600 := by
    unfold ki_MX
    split
    · omega
    · split <;> omega
  split
  · unfold ez_rl
    omega
  · unfold ez_ri
    omega
theorem ki_zi {f : Nat → Int} (h : ∀ j, f j = 0) : (fun j => Int32.ofInt (f j)) = fun _ => 0 := by
  funext j
  rw [h j]
  rfl
theorem ki_zl {f : Nat → Int} (h : ∀ j, f j = 0) : (fun j => Int64.ofInt (f j)) = fun _ => 0 := by
  funext j
  rw [h j]
  rfl
section CI2
variable {p : Program} {l : Launch} {e : Env} {R : Room} {s : State} {m : MethodId} {args : Array Value} {below : List Frame} {meth : Method} {c : Code} {H H0 : Heap} {locs : List Loc} {cells slots : Nat} {Qf : State → Prop} {A0 : Nat → Prop} {D : va_G} {cA : Nat → ClassId} {ad : Nat → Nat}
set_option maxHeartbeats 4000000 in
theorem kl_X6 (hx : p.tables.exec = Jvm.exec) (hb : c.code = cX6_init) (hown : s.vm.findClass RX6 = some m.cls) (hts : ∀ w ∈ ez_TW, w.before args s = true) (hK : va_K D vwCl (ez_tys cA) s) (hD : va_D A0 (ez_ws LM cA ad (ki_MN 0)))
    (kend : ∀ (ls : Array Slot) (H : Heap) (locs : List Loc), va_P D vwCl (ez_ws LM cA ad (ki_MN 6)) H → va_S A0 H0 H locs → W p l e R s m args below meth c H locs cells slots Qf (F0 m 161 ls [])) :
    ∀ (n i : Nat), i + n = 6 → ∀ (ls : Array Slot) (H : Heap) (locs : List Loc), lv_has ls 2 [(1, .int (Int32.ofNat i)), (0, .ref (ad 0))] → va_P D vwCl (ez_ws LM cA ad (ki_MN i)) H → va_S A0 H0 H locs → W p l e R s m args below meth c H locs cells slots Qf (F0 m 142 ls []) := by
  intro n
  induction n with
  | zero =>
    intro i hi ls H locs hl hP hS
    have hi : i = 6 := by omega
    subst hi
    refine lv_iload_n hx hb di_X6_init_142 rfl (lv_at hl 0 rfl) ?_
    refine lv_bipush (v := 6) hx hb di_X6_init_143 (by decide) ?_
    exact lv_icmp_ge (tgt := 161) hx hb di_X6_init_145 rfl (fun _ => kend ls H locs hP hS) (fun h => absurd (by decide) h)
  | succ n ih =>
    intro i hi ls H locs hl hP hS
    have hlt : i < 6 := by omega
    have hD1 := ez_ad (M' := ki_MN i) hD
    refine lv_iload_n hx hb di_X6_init_142 rfl (lv_at hl 0 rfl) ?_
    refine lv_bipush (v := 6) hx hb di_X6_init_143 (by decide) ?_
    refine lv_icmp_ge (tgt := 161) hx hb di_X6_init_145 rfl (fun h => ?_) (fun _ => ?_)
    · exfalso
      rcases (show i = 0 ∨ i = 1 ∨ i = 2 ∨ i = 3 ∨ i = 4 ∨ i = 5 by omega) with rfl | rfl | rfl | rfl | rfl | rfl <;> exact absurd h (by decide)
    · refine lv_aload_n hx hb di_X6_init_148 rfl (lv_at hl 1 rfl) ?_
      refine va_get (D := D) (ci := 6) (fs := List.mapIdx (ez_fl ad (ki_MN i 0)) [none, some 1, none, none, some 2, none, none, none, some 3, some 4, none, some 5, some 6, none, some 7, some 8, some 9, some 10, some 11, none, some 12, some 13, some 14, some 15, some 16, none, none, none]) (v := .ref (ad 8)) (C := RX6) (T := TX6) (N := 28) hx hb hts inTW_X6 hown hK hP 0 (ez_ws_at (L := LM) (i := 0) (c := .inr (6, [none, some 1, none, none, some 2, none, none, none, some 3, some 4, none, some 5, some 6, none, some 7, some 8, some 9, some 10, some 11, none, some 12, some 13, some 14, some 15, some 16, none, none, none])) rfl) rfl 15 (by decide) (hts _ q_681) (fun _ h9 => h9) (ez_fl_get (k := 15) (o := some 8) rfl) di_X6_init_149 ?_
      refine lv_iload_n hx hb di_X6_init_152 rfl (lv_at hl 0 rfl) ?_
      refine lv_iconst (v := 1) hx hb di_X6_init_153 (by decide) ?_
      have hin : vp_in (Int32.ofNat i) 6 := by
        rcases (show i = 0 ∨ i = 1 ∨ i = 2 ∨ i = 3 ∨ i = 4 ∨ i = 5 by omega) with rfl | rfl | rfl | rfl | rfl | rfl <;> exact (by unfold vp_in; decide)
      have hnat : (Int32.ofNat i).toNatClampNeg = i := by
        rcases (show i = 0 ∨ i = 1 ∨ i = 2 ∨ i = 3 ∨ i = 4 ∨ i = 5 by omega) with rfl | rfl | rfl | rfl | rfl | rfl <;> decide
      refine va_iast hx hb hK hP hD1 hS 8 0 (ez_ws_at (L := LM) (c := .inl (0, 6)) rfl) rfl hin di_X6_init_154 (fun H locs hP _ hS => ?_)
      rw [hnat] at hP
      rw [ez_ws_set (L := LM) (c := .inl (0, 6)) (M' := ki_MN (i + 1)) rfl (by
        show Sum.inl _ = Sum.inl _
        congr 4
        funext j
        rw [← ki_MN_up]
        by_cases hj : j = i <;> simp [upd, ez_up, hj]) (by
        intro k hk
        rw [← ki_MN_up]
        funext j
        simp [ez_up, hk])] at hP
      refine lv_iinc (v := Int32.ofNat (i + 1)) hx hb di_X6_init_155 hl (k := 0) rfl (by
        rcases (show i = 0 ∨ i = 1 ∨ i = 2 ∨ i = 3 ∨ i = 4 ∨ i = 5 by omega) with rfl | rfl | rfl | rfl | rfl | rfl <;> decide) (by decide) rfl (fun ls hl => ?_)
      refine lv_goto (tgt := 142) hx hb di_X6_init_158 rfl ?_
      exact ih (i + 1) (by omega) ls H locs hl hP hS
set_option maxHeartbeats 4000000 in
theorem kl_X5 (hx : p.tables.exec = Jvm.exec) (hb : c.code = cX5_init) (hml : c.maxLocals = 2) (hown : s.vm.findClass RX5 = some m.cls) (hts : ∀ w ∈ ez_TW, w.before args s = true) (hnw : ∀ w ∈ ez_NW, va_Nw w s) (hK : va_K D vwCl (ez_tys cA) s) (hD : va_D (ez_A LX ad) (ez_ws LX cA ad (ki_MX 0))) (hA : ∀ q, ez_A LX ad q → A0 q)
    (hR : 1 ≤ R.frames ∧ 22 ≤ R.locals) (hcs : cells ≤ R.cells ∧ slots ≤ R.slots)
    (kend : ∀ (ls : Array Slot) (H : Heap) (locs : List Loc), va_P D vwCl (ez_ws LX cA ad (ki_MX 6)) H → va_S A0 H0 H locs → W p l e R s m args below meth c H locs cells slots Qf (F0 m 125 ls [])) :
    ∀ (n i : Nat), i + n = 6 → ∀ (ls : Array Slot) (H : Heap) (locs : List Loc), lv_has ls 2 [(1, .int (Int32.ofNat i)), (0, .ref (ad 0))] → va_P D vwCl (ez_ws LX cA ad (ki_MX i)) H → va_S A0 H0 H locs → W p l e R s m args below meth c H locs cells slots Qf (F0 m 104 ls []) := by
  intro n
  induction n with
  | zero =>
    intro i hi ls H locs hl hP hS
    have hi : i = 6 := by omega
    subst hi
    refine lv_iload_n hx hb di_X5_init_104 rfl (lv_at hl 0 rfl) ?_
    refine lv_bipush (v := 6) hx hb di_X5_init_105 (by decide) ?_
    exact lv_icmp_ge (tgt := 125) hx hb di_X5_init_107 rfl (fun _ => kend ls H locs hP hS) (fun h => absurd (by decide) h)
  | succ n ih =>
    intro i hi ls H locs hl hP hS
    have hlt : i < 6 := by omega
    have hD1 := ez_ad (M' := ki_MX i) hD
    refine lv_iload_n hx hb di_X5_init_104 rfl (lv_at hl 0 rfl) ?_
    refine lv_bipush (v := 6) hx hb di_X5_init_105 (by decide) ?_
    refine lv_icmp_ge (tgt := 125) hx hb di_X5_init_107 rfl (fun h => ?_) (fun _ => ?_)
    · exfalso
      rcases (show i = 0 ∨ i = 1 ∨ i = 2 ∨ i = 3 ∨ i = 4 ∨ i = 5 by omega) with rfl | rfl | rfl | rfl | rfl | rfl <;> exact absurd h (by decide)
    · refine lv_aload_n hx hb di_X5_init_110 rfl (lv_at hl 1 rfl) ?_
      refine va_get (D := D) (ci := 5) (fs := List.mapIdx (ez_fl ad (ki_MX i 0)) [some 1, some 3, some 7, some 9, some 11, some 13, some 16, some 20, some 21, none]) (v := .ref (ad 20)) (C := RX5) (T := TX5) (N := 10) hx hb hts inTW_X5 hown hK hP 0 (ez_ws_at (L := LX) (i := 0) (c := .inr (5, [some 1, some 3, some 7, some 9, some 11, some 13, some 16, some 20, some 21, none])) rfl) rfl 7 (by decide) (hts _ q_191) (fun _ h9 => h9) (ez_fl_get (k := 7) (o := some 20) rfl) di_X5_init_111 ?_
      refine lv_iload_n hx hb di_X5_init_114 rfl (lv_at hl 0 rfl) ?_
      refine lv_iconst (v := 1) hx hb di_X5_init_115 (by decide) ?_
      have hcv : (Int32.ofInt (i : Int)) = Int32.ofNat i := Int32.ofInt_eq_ofNat
      refine kz_callS (L := LX) (n := 3) (as := [.inr (.inr 20), .inl (i : Int), .inl 1]) (Q := fun v M' => v = none ∧ M' = ki_MX (i + 1)) hx hown hts hnw hK so_X5_put q_183 q_72 ⟨by decide +kernel, by decide +kernel, by decide +kernel⟩ q_181 q_182 ⟨by omega, by omega⟩ ?_ (ki_MX_ok i) ?_ rfl hcs hP hD1 hS hA (by rw [hml]; exact hl.1) (Nat.zero_le _) (by rw [show List.map (ez_cv ad) [.inr (.inr 20), .inl (i : Int), .inl 1] = [.ref (ad 20), .int (Int32.ofInt (i : Int)), .int 1] from rfl, hcv]; rfl) (by rw [hb]; exact di_X5_init_116) ?_
      · intro v hv
        rcases hv with _ | ⟨_, hv⟩
        · show 20 < LX.length
          decide
        rcases hv with _ | ⟨_, hv⟩
        · show ez_ri (i : Int)
          unfold ez_ri
          omega
        rcases hv with _ | ⟨_, hv⟩
        · show ez_ri 1
          unfold ez_ri
          omega
        cases hv
      · unfold sp_X5_put
        refine ⟨fun _ => ⟨rfl, ?_⟩, fun h => absurd ⟨by omega, by omega⟩ h⟩
        rw [← ki_MX_up]
        rfl
      · rintro v M' H1 locs1 ⟨rfl, rfl⟩ - - hP1 - - hS1
        refine lv_iinc (v := Int32.ofNat (i + 1)) hx hb di_X5_init_119 hl (k := 0) rfl (by
          rcases (show i = 0 ∨ i = 1 ∨ i = 2 ∨ i = 3 ∨ i = 4 ∨ i = 5 by omega) with rfl | rfl | rfl | rfl | rfl | rfl <;> decide) (by decide) rfl (fun ls hl => ?_)
        refine lv_goto (tgt := 104) hx hb di_X5_init_122 rfl ?_
        exact ih (i + 1) (by omega) ls H1 locs1 hl hP1 hS1
end CI2

