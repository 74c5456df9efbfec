/-! ===== the constructors that make arrays alone ===== -/
theorem di_X0_init_0 : decode cX0_init 0 = .ok (.aload_n 0, 1) := by decide +kernel
theorem di_X0_init_1 : decode cX0_init 1 = .ok (.invokespecial 3, 3) := by decide +kernel
theorem di_X0_init_4 : decode cX0_init 4 = .ok (.aload_n 0, 1) := by decide +kernel
theorem di_X0_init_5 : decode cX0_init 5 = .ok (.bipush 48, 2) := by decide +kernel
theorem di_X0_init_7 : decode cX0_init 7 = .ok (.newarray .int, 2) := by decide +kernel
theorem di_X0_init_9 : decode cX0_init 9 = .ok (.putfield 11, 3) := by decide +kernel
theorem di_X0_init_12 : decode cX0_init 12 = .ok (.aload_n 0, 1) := by decide +kernel
theorem di_X0_init_13 : decode cX0_init 13 = .ok (.bipush 7, 2) := by decide +kernel
theorem di_X0_init_15 : decode cX0_init 15 = .ok (.newarray .int, 2) := by decide +kernel
theorem di_X0_init_17 : decode cX0_init 17 = .ok (.putfield 15, 3) := by decide +kernel
theorem di_X0_init_20 : decode cX0_init 20 = .ok (.aload_n 0, 1) := by decide +kernel
theorem di_X0_init_21 : decode cX0_init 21 = .ok (.bipush 7, 2) := by decide +kernel
theorem di_X0_init_23 : decode cX0_init 23 = .ok (.newarray .int, 2) := by decide +kernel
theorem di_X0_init_25 : decode cX0_init 25 = .ok (.putfield 18, 3) := by decide +kernel
theorem di_X0_init_28 : decode cX0_init 28 = .ok (.aload_n 0, 1) := by decide +kernel
theorem di_X0_init_29 : decode cX0_init 29 = .ok (.iconst 0, 1) := by decide +kernel
theorem di_X0_init_30 : decode cX0_init 30 = .ok (.putfield 21, 3) := by decide +kernel
theorem di_X0_init_33 : decode cX0_init 33 = .ok (.aload_n 0, 1) := by decide +kernel
theorem di_X0_init_34 : decode cX0_init 34 = .ok (.iconst 0, 1) := by decide +kernel
theorem di_X0_init_35 : decode cX0_init 35 = .ok (.putfield 25, 3) := by decide +kernel
theorem di_X0_init_38 : decode cX0_init 38 = .ok (.return_, 1) := by decide +kernel
set_option maxHeartbeats 4000000 in
set_option maxRecDepth 100000 in
theorem ci_X0_init : ci_S yX0_init cX0_init 1 { frames := 1, cells := 3, slots := 62, locals := 36 } 0 [.null, .null, .null, .int 0, .int 0] (fun cA h0 W1 => ∃ a1 a2 a3 : Nat, W1 = [(h0, .inr (0, [.ref a1, .ref a2, .ref a3, .int 0, .int 0])), (a1, .inl (cA 0, 48, .inl (fun _ => 0))), (a2, .inl (cA 0, 7, .inl (fun _ => 0))), (a3, .inl (cA 0, 7, .inl (fun _ => 0)))]) := by
  intro l D cA h0 sz
  refine Met.ofW (cc := cX0_init) (maxL := 1) (ret := none) (by decide) rfl ?_
  intro p e s m args below meth c s₁ B hml hv
  obtain ⟨rfl, hsz, hP, ⟨hK, hnw⟩, hD0⟩ := hv
  have hx := B.exec
  have hb := B.bytes
  have hr := B.returns
  have hts : ∀ w ∈ ez_TW, w.before _ s = true := fun w hw => atoms_spec (ws := .code yX0_init cX0_init 1 none :: ez_TW) B.pre w (List.mem_cons_of_mem _ hw)
  have hown : s.vm.findClass RX0 = some m.cls := findClass_of_methodNamed B.named
  have hin : meth.name = "<init>" := (name_of_methodNamed B.named B.method).1
  subst hsz
  have hD := hD0.self (sz := s.heap.size)
  generalize hAe : va_A [(h0, .inr (0, [.null, .null, .null, .int 0, .int 0]))] s.heap.size = A at hD ⊢
  have hA : ∀ q : Nat, s.heap.size ≤ q → A q := fun q h => by rw [← hAe]; exact Or.inr h
  have hS : va_S A s.heap s.heap [] := va_S.rf
  have hP : va_P D vwCl [(h0, .inr (0, [.null, .null, .null, .int 0, .int 0]))] s.heap := hP
  have hl := lv_entry ([.ref h0]) (n := 1) (Nat.le_of_ble_eq_true rfl)
  rw [lg_entry_eq]
  generalize (lg_sl ([.ref h0]) ++ List.replicate (1 - (lg_sl ([.ref h0])).length) Slot.unset).toArray = ls at hl ⊢
  have hl : lv_has ls 1 [(0, .ref h0)] := hl
  refine lv_aload_n hx hb di_X0_init_0 rfl (lv_at hl 0 rfl) ?_
  refine W.objInit hx hb hown (hts _ q_109) (hts _ q_87) (hts _ q_88) rfl (by rw [hml]; exact hl.1) rfl di_X0_init_1 (Nat.le_of_ble_eq_true rfl) (Nat.le_of_ble_eq_true rfl) ?_
  refine W.eq (g2 := F0 m 4 ls []) rfl ?_
  refine lv_aload_n hx hb di_X0_init_4 rfl (lv_at hl 0 rfl) ?_
  refine lv_bipush (v := 48) hx hb di_X0_init_5 (by decide) ?_
  refine kz_newa (atype := .int) (ty := .int) (ca := cA 0) (N' := 48) (a0 := (48, .inl (fun _ => 0))) (j := 0) hx (hts _ q_103) rfl rfl hK hP hD hS hA (fun _ => rfl) (by decide) (by decide +kernel) (by decide) (by decide) (by decide) (by rw [hb]; exact di_X0_init_7) (fun a1 H hP hD hS => ?_)
  have hP : va_P D vwCl [(h0, .inr (0, [.null, .null, .null, .int 0, .int 0])), (a1, .inl (cA 0, 48, .inl (fun _ => 0)))] _ := hP
  have hD : va_D A [(h0, .inr (0, [.null, .null, .null, .int 0, .int 0])), (a1, .inl (cA 0, 48, .inl (fun _ => 0)))] := hD
  refine va_putF (D := D) (ci := 0) (v := .ref a1) (ty := tyX0 0) (C := RX0) (T := TX0) (N := 5) hx hb hts inTW_X0 tyX0 tyX0_ok nmX0 hown hK hP hD hS 0 rfl rfl 0 (by decide) (hts _ q_110) (fun _ h9 => h9) rfl hin rfl (by decide +kernel) rfl rfl (Nat.le_of_ble_eq_true rfl) di_X0_init_9 (fun H locs hP hD hS => ?_)
  have hP : va_P D vwCl [(h0, .inr (0, [.ref a1, .null, .null, .int 0, .int 0])), (a1, .inl (cA 0, 48, .inl (fun _ => 0)))] _ := hP
  have hD : va_D A [(h0, .inr (0, [.ref a1, .null, .null, .int 0, .int 0])), (a1, .inl (cA 0, 48, .inl (fun _ => 0)))] := hD
  refine lv_aload_n hx hb di_X0_init_12 rfl (lv_at hl 0 rfl) ?_
  refine lv_bipush (v := 7) hx hb di_X0_init_13 (by decide) ?_
  refine kz_newa (atype := .int) (ty := .int) (ca := cA 0) (N' := 7) (a0 := (7, .inl (fun _ => 0))) (j := 0) hx (hts _ q_103) rfl rfl hK hP hD hS hA (fun _ => rfl) (by decide) (by decide +kernel) (by decide) (by decide) (by decide) (by rw [hb]; exact di_X0_init_15) (fun a2 H hP hD hS => ?_)
  have hP : va_P D vwCl [(h0, .inr (0, [.ref a1, .null, .null, .int 0, .int 0])), (a1, .inl (cA 0, 48, .inl (fun _ => 0))), (a2, .inl (cA 0, 7, .inl (fun _ => 0)))] _ := hP
  have hD : va_D A [(h0, .inr (0, [.ref a1, .null, .null, .int 0, .int 0])), (a1, .inl (cA 0, 48, .inl (fun _ => 0))), (a2, .inl (cA 0, 7, .inl (fun _ => 0)))] := hD
  refine va_putF (D := D) (ci := 0) (v := .ref a2) (ty := tyX0 1) (C := RX0) (T := TX0) (N := 5) hx hb hts inTW_X0 tyX0 tyX0_ok nmX0 hown hK hP hD hS 0 rfl rfl 1 (by decide) (hts _ q_111) (fun _ h9 => h9) rfl hin rfl (by decide +kernel) rfl rfl (Nat.le_of_ble_eq_true rfl) di_X0_init_17 (fun H locs hP hD hS => ?_)
  have hP : va_P D vwCl [(h0, .inr (0, [.ref a1, .ref a2, .null, .int 0, .int 0])), (a1, .inl (cA 0, 48, .inl (fun _ => 0))), (a2, .inl (cA 0, 7, .inl (fun _ => 0)))] _ := hP
  have hD : va_D A [(h0, .inr (0, [.ref a1, .ref a2, .null, .int 0, .int 0])), (a1, .inl (cA 0, 48, .inl (fun _ => 0))), (a2, .inl (cA 0, 7, .inl (fun _ => 0)))] := hD
  refine lv_aload_n hx hb di_X0_init_20 rfl (lv_at hl 0 rfl) ?_
  refine lv_bipush (v := 7) hx hb di_X0_init_21 (by decide) ?_
  refine kz_newa (atype := .int) (ty := .int) (ca := cA 0) (N' := 7) (a0 := (7, .inl (fun _ => 0))) (j := 0) hx (hts _ q_103) rfl rfl hK hP hD hS hA (fun _ => rfl) (by decide) (by decide +kernel) (by decide) (by decide) (by decide) (by rw [hb]; exact di_X0_init_23) (fun a3 H hP hD hS => ?_)
  have hP : va_P D vwCl [(h0, .inr (0, [.ref a1, .ref a2, .null, .int 0, .int 0])), (a1, .inl (cA 0, 48, .inl (fun _ => 0))), (a2, .inl (cA 0, 7, .inl (fun _ => 0))), (a3, .inl (cA 0, 7, .inl (fun _ => 0)))] _ := hP
  have hD : va_D A [(h0, .inr (0, [.ref a1, .ref a2, .null, .int 0, .int 0])), (a1, .inl (cA 0, 48, .inl (fun _ => 0))), (a2, .inl (cA 0, 7, .inl (fun _ => 0))), (a3, .inl (cA 0, 7, .inl (fun _ => 0)))] := hD
  refine va_putF (D := D) (ci := 0) (v := .ref a3) (ty := tyX0 2) (C := RX0) (T := TX0) (N := 5) hx hb hts inTW_X0 tyX0 tyX0_ok nmX0 hown hK hP hD hS 0 rfl rfl 2 (by decide) (hts _ q_112) (fun _ h9 => h9) rfl hin rfl (by decide +kernel) rfl rfl (Nat.le_of_ble_eq_true rfl) di_X0_init_25 (fun H locs hP hD hS => ?_)
  have hP : va_P D vwCl [(h0, .inr (0, [.ref a1, .ref a2, .ref a3, .int 0, .int 0])), (a1, .inl (cA 0, 48, .inl (fun _ => 0))), (a2, .inl (cA 0, 7, .inl (fun _ => 0))), (a3, .inl (cA 0, 7, .inl (fun _ => 0)))] _ := hP
  have hD : va_D A [(h0, .inr (0, [.ref a1, .ref a2, .ref a3, .int 0, .int 0])), (a1, .inl (cA 0, 48, .inl (fun _ => 0))), (a2, .inl (cA 0, 7, .inl (fun _ => 0))), (a3, .inl (cA 0, 7, .inl (fun _ => 0)))] := hD
  refine lv_aload_n hx hb di_X0_init_28 rfl (lv_at hl 0 rfl) ?_
  refine lv_iconst (v := 0) hx hb di_X0_init_29 (by decide) ?_
  refine va_put (D := D) (ci := 0) (v := .int 0) (ty := tyX0 3) (C := RX0) (T := TX0) (N := 5) hx hb hts inTW_X0 tyX0 tyX0_ok nmX0 hown hK hP hD hS 0 rfl rfl 3 (by decide) (hts _ q_113) (fun _ h9 => h9) rfl (by decide +kernel) rfl rfl (Nat.le_of_ble_eq_true rfl) di_X0_init_30 (fun H locs hP hD hS => ?_)
  have hP : va_P D vwCl [(h0, .inr (0, [.ref a1, .ref a2, .ref a3, .int 0, .int 0])), (a1, .inl (cA 0, 48, .inl (fun _ => 0))), (a2, .inl (cA 0, 7, .inl (fun _ => 0))), (a3, .inl (cA 0, 7, .inl (fun _ => 0)))] _ := hP
  have hD : va_D A [(h0, .inr (0, [.ref a1, .ref a2, .ref a3, .int 0, .int 0])), (a1, .inl (cA 0, 48, .inl (fun _ => 0))), (a2, .inl (cA 0, 7, .inl (fun _ => 0))), (a3, .inl (cA 0, 7, .inl (fun _ => 0)))] := hD
  refine lv_aload_n hx hb di_X0_init_33 rfl (lv_at hl 0 rfl) ?_
  refine lv_iconst (v := 0) hx hb di_X0_init_34 (by decide) ?_
  refine va_put (D := D) (ci := 0) (v := .int 0) (ty := tyX0 4) (C := RX0) (T := TX0) (N := 5) hx hb hts inTW_X0 tyX0 tyX0_ok nmX0 hown hK hP hD hS 0 rfl rfl 4 (by decide) (hts _ q_115) (fun _ h9 => h9) rfl (by decide +kernel) rfl rfl (Nat.le_of_ble_eq_true rfl) di_X0_init_35 (fun H locs hP hD hS => ?_)
  have hP : va_P D vwCl [(h0, .inr (0, [.ref a1, .ref a2, .ref a3, .int 0, .int 0])), (a1, .inl (cA 0, 48, .inl (fun _ => 0))), (a2, .inl (cA 0, 7, .inl (fun _ => 0))), (a3, .inl (cA 0, 7, .inl (fun _ => 0)))] _ := hP
  have hD : va_D A [(h0, .inr (0, [.ref a1, .ref a2, .ref a3, .int 0, .int 0])), (a1, .inl (cA 0, 48, .inl (fun _ => 0))), (a2, .inl (cA 0, 7, .inl (fun _ => 0))), (a3, .inl (cA 0, 7, .inl (fun _ => 0)))] := hD
  refine W.widen (k := 3) (n := 62) (by decide) (by decide) ?_
  subst hAe
  exact W.vret hx hb hr (fun t ht hW => ⟨⟨(), rfl, trivial, _, ⟨a1, a2, a3, rfl⟩, by rw [ht]; exact hP, hD⟩, hS.F ht⟩) hS.2.2 di_X0_init_38
theorem di_X1_init_0 : decode cX1_init 0 = .ok (.aload_n 0, 1) := by decide +kernel
theorem di_X1_init_1 : decode cX1_init 1 = .ok (.invokespecial 3, 3) := by decide +kernel
theorem di_X1_init_4 : decode cX1_init 4 = .ok (.aload_n 0, 1) := by decide +kernel
theorem di_X1_init_5 : decode cX1_init 5 = .ok (.bipush 110, 2) := by decide +kernel
theorem di_X1_init_7 : decode cX1_init 7 = .ok (.newarray .int, 2) := by decide +kernel
theorem di_X1_init_9 : decode cX1_init 9 = .ok (.putfield 9, 3) := by decide +kernel
theorem di_X1_init_12 : decode cX1_init 12 = .ok (.aload_n 0, 1) := by decide +kernel
theorem di_X1_init_13 : decode cX1_init 13 = .ok (.iconst 0, 1) := by decide +kernel
theorem di_X1_init_14 : decode cX1_init 14 = .ok (.putfield 15, 3) := by decide +kernel
theorem di_X1_init_17 : decode cX1_init 17 = .ok (.aload_n 0, 1) := by decide +kernel
theorem di_X1_init_18 : decode cX1_init 18 = .ok (.iconst 0, 1) := by decide +kernel
theorem di_X1_init_19 : decode cX1_init 19 = .ok (.putfield 19, 3) := by decide +kernel
theorem di_X1_init_22 : decode cX1_init 22 = .ok (.return_, 1) := by decide +kernel
set_option maxHeartbeats 4000000 in
set_option maxRecDepth 100000 in
theorem ci_X1_init : ci_S yX1_init cX1_init 1 { frames := 1, cells := 1, slots := 110, locals := 36 } 1 [.null, .int 0, .int 0] (fun cA h0 W1 => ∃ a1 : Nat, W1 = [(h0, .inr (1, [.ref a1, .int 0, .int 0])), (a1, .inl (cA 0, 110, .inl (fun _ => 0)))]) := by
  intro l D cA h0 sz
  refine Met.ofW (cc := cX1_init) (maxL := 1) (ret := none) (by decide) rfl ?_
  intro p e s m args below meth c s₁ B hml hv
  obtain ⟨rfl, hsz, hP, ⟨hK, hnw⟩, hD0⟩ := hv
  have hx := B.exec
  have hb := B.bytes
  have hr := B.returns
  have hts : ∀ w ∈ ez_TW, w.before _ s = true := fun w hw => atoms_spec (ws := .code yX1_init cX1_init 1 none :: ez_TW) B.pre w (List.mem_cons_of_mem _ hw)
  have hown : s.vm.findClass RX1 = some m.cls := findClass_of_methodNamed B.named
  have hin : meth.name = "<init>" := (name_of_methodNamed B.named B.method).1
  subst hsz
  have hD := hD0.self (sz := s.heap.size)
  generalize hAe : va_A [(h0, .inr (1, [.null, .int 0, .int 0]))] s.heap.size = A at hD ⊢
  have hA : ∀ q : Nat, s.heap.size ≤ q → A q := fun q h => by rw [← hAe]; exact Or.inr h
  have hS : va_S A s.heap s.heap [] := va_S.rf
  have hP : va_P D vwCl [(h0, .inr (1, [.null, .int 0, .int 0]))] s.heap := hP
  have hl := lv_entry ([.ref h0]) (n := 1) (Nat.le_of_ble_eq_true rfl)
  rw [lg_entry_eq]
  generalize (lg_sl ([.ref h0]) ++ List.replicate (1 - (lg_sl ([.ref h0])).length) Slot.unset).toArray = ls at hl ⊢
  have hl : lv_has ls 1 [(0, .ref h0)] := hl
  refine lv_aload_n hx hb di_X1_init_0 rfl (lv_at hl 0 rfl) ?_
  refine W.objInit hx hb hown (hts _ q_133) (hts _ q_87) (hts _ q_88) rfl (by rw [hml]; exact hl.1) rfl di_X1_init_1 (Nat.le_of_ble_eq_true rfl) (Nat.le_of_ble_eq_true rfl) ?_
  refine W.eq (g2 := F0 m 4 ls []) rfl ?_
  refine lv_aload_n hx hb di_X1_init_4 rfl (lv_at hl 0 rfl) ?_
  refine lv_bipush (v := 110) hx hb di_X1_init_5 (by decide) ?_
  refine kz_newa (atype := .int) (ty := .int) (ca := cA 0) (N' := 110) (a0 := (110, .inl (fun _ => 0))) (j := 0) hx (hts _ q_103) rfl rfl hK hP hD hS hA (fun _ => rfl) (by decide) (by decide +kernel) (by decide) (by decide) (by decide) (by rw [hb]; exact di_X1_init_7) (fun a1 H hP hD hS => ?_)
  have hP : va_P D vwCl [(h0, .inr (1, [.null, .int 0, .int 0])), (a1, .inl (cA 0, 110, .inl (fun _ => 0)))] _ := hP
  have hD : va_D A [(h0, .inr (1, [.null, .int 0, .int 0])), (a1, .inl (cA 0, 110, .inl (fun _ => 0)))] := hD
  refine va_putF (D := D) (ci := 1) (v := .ref a1) (ty := tyX1 0) (C := RX1) (T := TX1) (N := 3) hx hb hts inTW_X1 tyX1 tyX1_ok nmX1 hown hK hP hD hS 0 rfl rfl 0 (by decide) (hts _ q_134) (fun _ h9 => h9) rfl hin rfl (by decide +kernel) rfl rfl (Nat.le_of_ble_eq_true rfl) di_X1_init_9 (fun H locs hP hD hS => ?_)
  have hP : va_P D vwCl [(h0, .inr (1, [.ref a1, .int 0, .int 0])), (a1, .inl (cA 0, 110, .inl (fun _ => 0)))] _ := hP
  have hD : va_D A [(h0, .inr (1, [.ref a1, .int 0, .int 0])), (a1, .inl (cA 0, 110, .inl (fun _ => 0)))] := hD
  refine lv_aload_n hx hb di_X1_init_12 rfl (lv_at hl 0 rfl) ?_
  refine lv_iconst (v := 0) hx hb di_X1_init_13 (by decide) ?_
  refine va_put (D := D) (ci := 1) (v := .int 0) (ty := tyX1 1) (C := RX1) (T := TX1) (N := 3) hx hb hts inTW_X1 tyX1 tyX1_ok nmX1 hown hK hP hD hS 0 rfl rfl 1 (by decide) (hts _ q_135) (fun _ h9 => h9) rfl (by decide +kernel) rfl rfl (Nat.le_of_ble_eq_true rfl) di_X1_init_14 (fun H locs hP hD hS => ?_)
  have hP : va_P D vwCl [(h0, .inr (1, [.ref a1, .int 0, .int 0])), (a1, .inl (cA 0, 110, .inl (fun _ => 0)))] _ := hP
  have hD : va_D A [(h0, .inr (1, [.ref a1, .int 0, .int 0])), (a1, .inl (cA 0, 110, .inl (fun _ => 0)))] := hD
  refine lv_aload_n hx hb di_X1_init_17 rfl (lv_at hl 0 rfl) ?_
  refine lv_iconst (v := 0) hx hb di_X1_init_18 (by decide) ?_
  refine va_put (D := D) (ci := 1) (v := .int 0) (ty := tyX1 2) (C := RX1) (T := TX1) (N := 3) hx hb hts inTW_X1 tyX1 tyX1_ok nmX1 hown hK hP hD hS 0 rfl rfl 2 (by decide) (hts _ q_137) (fun _ h9 => h9) rfl (by decide +kernel) rfl rfl (Nat.le_of_ble_eq_true rfl) di_X1_init_19 (fun H locs hP hD hS => ?_)
  have hP : va_P D vwCl [(h0, .inr (1, [.ref a1, .int 0, .int 0])), (a1, .inl (cA 0, 110, .inl (fun _ => 0)))] _ := hP
  have hD : va_D A [(h0, .inr (1, [.ref a1, .int 0, .int 0])), (a1, .inl (cA 0, 110, .inl (fun _ => 0)))] := hD
  refine W.widen (k := 1) (n := 110) (by decide) (by decide) ?_
  subst hAe
  exact W.vret hx hb hr (fun t ht hW => ⟨⟨(), rfl, trivial, _, ⟨a1, rfl⟩, by rw [ht]; exact hP, hD⟩, hS.F ht⟩) hS.2.2 di_X1_init_22
theorem di_X2_init_0 : decode cX2_init 0 = .ok (.aload_n 0, 1) := by decide +kernel
theorem di_X2_init_1 : decode cX2_init 1 = .ok (.invokespecial 3, 3) := by decide +kernel
theorem di_X2_init_4 : decode cX2_init 4 = .ok (.aload_n 0, 1) := by decide +kernel
theorem di_X2_init_5 : decode cX2_init 5 = .ok (.bipush 10, 2) := by decide +kernel
theorem di_X2_init_7 : decode cX2_init 7 = .ok (.newarray .int, 2) := by decide +kernel
theorem di_X2_init_9 : decode cX2_init 9 = .ok (.putfield 9, 3) := by decide +kernel
theorem di_X2_init_12 : decode cX2_init 12 = .ok (.aload_n 0, 1) := by decide +kernel
theorem di_X2_init_13 : decode cX2_init 13 = .ok (.bipush 10, 2) := by decide +kernel
theorem di_X2_init_15 : decode cX2_init 15 = .ok (.newarray .int, 2) := by decide +kernel
theorem di_X2_init_17 : decode cX2_init 17 = .ok (.putfield 15, 3) := by decide +kernel
theorem di_X2_init_20 : decode cX2_init 20 = .ok (.aload_n 0, 1) := by decide +kernel
theorem di_X2_init_21 : decode cX2_init 21 = .ok (.bipush 10, 2) := by decide +kernel
theorem di_X2_init_23 : decode cX2_init 23 = .ok (.newarray .int, 2) := by decide +kernel
theorem di_X2_init_25 : decode cX2_init 25 = .ok (.putfield 18, 3) := by decide +kernel
theorem di_X2_init_28 : decode cX2_init 28 = .ok (.aload_n 0, 1) := by decide +kernel
theorem di_X2_init_29 : decode cX2_init 29 = .ok (.iconst 0, 1) := by decide +kernel
theorem di_X2_init_30 : decode cX2_init 30 = .ok (.putfield 21, 3) := by decide +kernel
theorem di_X2_init_33 : decode cX2_init 33 = .ok (.return_, 1) := by decide +kernel
set_option maxHeartbeats 4000000 in
set_option maxRecDepth 100000 in
theorem ci_X2_init : ci_S yX2_init cX2_init 1 { frames := 1, cells := 3, slots := 30, locals := 36 } 2 [.null, .null, .null, .int 0] (fun cA h0 W1 => ∃ a1 a2 a3 : Nat, W1 = [(h0, .inr (2, [.ref a1, .ref a2, .ref a3, .int 0])), (a1, .inl (cA 0, 10, .inl (fun _ => 0))), (a2, .inl (cA 0, 10, .inl (fun _ => 0))), (a3, .inl (cA 0, 10, .inl (fun _ => 0)))]) := by
  intro l D cA h0 sz
  refine Met.ofW (cc := cX2_init) (maxL := 1) (ret := none) (by decide) rfl ?_
  intro p e s m args below meth c s₁ B hml hv
  obtain ⟨rfl, hsz, hP, ⟨hK, hnw⟩, hD0⟩ := hv
  have hx := B.exec
  have hb := B.bytes
  have hr := B.returns
  have hts : ∀ w ∈ ez_TW, w.before _ s = true := fun w hw => atoms_spec (ws := .code yX2_init cX2_init 1 none :: ez_TW) B.pre w (List.mem_cons_of_mem _ hw)
  have hown : s.vm.findClass RX2 = some m.cls := findClass_of_methodNamed B.named
  have hin : meth.name = "<init>" := (name_of_methodNamed B.named B.method).1
  subst hsz
  have hD := hD0.self (sz := s.heap.size)
  generalize hAe : va_A [(h0, .inr (2, [.null, .null, .null, .int 0]))] s.heap.size = A at hD ⊢
  have hA : ∀ q : Nat, s.heap.size ≤ q → A q := fun q h => by rw [← hAe]; exact Or.inr h
  have hS : va_S A s.heap s.heap [] := va_S.rf
  have hP : va_P D vwCl [(h0, .inr (2, [.null, .null, .null, .int 0]))] s.heap := hP
  have hl := lv_entry ([.ref h0]) (n := 1) (Nat.le_of_ble_eq_true rfl)
  rw [lg_entry_eq]
  generalize (lg_sl ([.ref h0]) ++ List.replicate (1 - (lg_sl ([.ref h0])).length) Slot.unset).toArray = ls at hl ⊢
  have hl : lv_has ls 1 [(0, .ref h0)] := hl
  refine lv_aload_n hx hb di_X2_init_0 rfl (lv_at hl 0 rfl) ?_
  refine W.objInit hx hb hown (hts _ q_167) (hts _ q_87) (hts _ q_88) rfl (by rw [hml]; exact hl.1) rfl di_X2_init_1 (Nat.le_of_ble_eq_true rfl) (Nat.le_of_ble_eq_true rfl) ?_
  refine W.eq (g2 := F0 m 4 ls []) rfl ?_
  refine lv_aload_n hx hb di_X2_init_4 rfl (lv_at hl 0 rfl) ?_
  refine lv_bipush (v := 10) hx hb di_X2_init_5 (by decide) ?_
  refine kz_newa (atype := .int) (ty := .int) (ca := cA 0) (N' := 10) (a0 := (10, .inl (fun _ => 0))) (j := 0) hx (hts _ q_103) rfl rfl hK hP hD hS hA (fun _ => rfl) (by decide) (by decide +kernel) (by decide) (by decide) (by decide) (by rw [hb]; exact di_X2_init_7) (fun a1 H hP hD hS => ?_)
  have hP : va_P D vwCl [(h0, .inr (2, [.null, .null, .null, .int 0])), (a1, .inl (cA 0, 10, .inl (fun _ => 0)))] _ := hP
  have hD : va_D A [(h0, .inr (2, [.null, .null, .null, .int 0])), (a1, .inl (cA 0, 10, .inl (fun _ => 0)))] := hD
  refine va_putF (D := D) (ci := 2) (v := .ref a1) (ty := tyX2 0) (C := RX2) (T := TX2) (N := 4) hx hb hts inTW_X2 tyX2 tyX2_ok nmX2 hown hK hP hD hS 0 rfl rfl 0 (by decide) (hts _ q_168) (fun _ h9 => h9) rfl hin rfl (by decide +kernel) rfl rfl (Nat.le_of_ble_eq_true rfl) di_X2_init_9 (fun H locs hP hD hS => ?_)
  have hP : va_P D vwCl [(h0, .inr (2, [.ref a1, .null, .null, .int 0])), (a1, .inl (cA 0, 10, .inl (fun _ => 0)))] _ := hP
  have hD : va_D A [(h0, .inr (2, [.ref a1, .null, .null, .int 0])), (a1, .inl (cA 0, 10, .inl (fun _ => 0)))] := hD
  refine lv_aload_n hx hb di_X2_init_12 rfl (lv_at hl 0 rfl) ?_
  refine lv_bipush (v := 10) hx hb di_X2_init_13 (by decide) ?_
  refine kz_newa (atype := .int) (ty := .int) (ca := cA 0) (N' := 10) (a0 := (10, .inl (fun _ => 0))) (j := 0) hx (hts _ q_103) rfl rfl hK hP hD hS hA (fun _ => rfl) (by decide) (by decide +kernel) (by decide) (by decide) (by decide) (by rw [hb]; exact di_X2_init_15) (fun a2 H hP hD hS => ?_)
  have hP : va_P D vwCl [(h0, .inr (2, [.ref a1, .null, .null, .int 0])), (a1, .inl (cA 0, 10, .inl (fun _ => 0))), (a2, .inl (cA 0, 10, .inl (fun _ => 0)))] _ := hP
  have hD : va_D A [(h0, .inr (2, [.ref a1, .null, .null, .int 0])), (a1, .inl (cA 0, 10, .inl (fun _ => 0))), (a2, .inl (cA 0, 10, .inl (fun _ => 0)))] := hD
  refine va_putF (D := D) (ci := 2) (v := .ref a2) (ty := tyX2 1) (C := RX2) (T := TX2) (N := 4) hx hb hts inTW_X2 tyX2 tyX2_ok nmX2 hown hK hP hD hS 0 rfl rfl 1 (by decide) (hts _ q_169) (fun _ h9 => h9) rfl hin rfl (by decide +kernel) rfl rfl (Nat.le_of_ble_eq_true rfl) di_X2_init_17 (fun H locs hP hD hS => ?_)
  have hP : va_P D vwCl [(h0, .inr (2, [.ref a1, .ref a2, .null, .int 0])), (a1, .inl (cA 0, 10, .inl (fun _ => 0))), (a2, .inl (cA 0, 10, .inl (fun _ => 0)))] _ := hP
  have hD : va_D A [(h0, .inr (2, [.ref a1, .ref a2, .null, .int 0])), (a1, .inl (cA 0, 10, .inl (fun _ => 0))), (a2, .inl (cA 0, 10, .inl (fun _ => 0)))] := hD
  refine lv_aload_n hx hb di_X2_init_20 rfl (lv_at hl 0 rfl) ?_
  refine lv_bipush (v := 10) hx hb di_X2_init_21 (by decide) ?_
  refine kz_newa (atype := .int) (ty := .int) (ca := cA 0) (N' := 10) (a0 := (10, .inl (fun _ => 0))) (j := 0) hx (hts _ q_103) rfl rfl hK hP hD hS hA (fun _ => rfl) (by decide) (by decide +kernel) (by decide) (by decide) (by decide) (by rw [hb]; exact di_X2_init_23) (fun a3 H hP hD hS => ?_)
  have hP : va_P D vwCl [(h0, .inr (2, [.ref a1, .ref a2, .null, .int 0])), (a1, .inl (cA 0, 10, .inl (fun _ => 0))), (a2, .inl (cA 0, 10, .inl (fun _ => 0))), (a3, .inl (cA 0, 10, .inl (fun _ => 0)))] _ := hP
  have hD : va_D A [(h0, .inr (2, [.ref a1, .ref a2, .null, .int 0])), (a1, .inl (cA 0, 10, .inl (fun _ => 0))), (a2, .inl (cA 0, 10, .inl (fun _ => 0))), (a3, .inl (cA 0, 10, .inl (fun _ => 0)))] := hD
  refine va_putF (D := D) (ci := 2) (v := .ref a3) (ty := tyX2 2) (C := RX2) (T := TX2) (N := 4) hx hb hts inTW_X2 tyX2 tyX2_ok nmX2 hown hK hP hD hS 0 rfl rfl 2 (by decide) (hts _ q_170) (fun _ h9 => h9) rfl hin rfl (by decide +kernel) rfl rfl (Nat.le_of_ble_eq_true rfl) di_X2_init_25 (fun H locs hP hD hS => ?_)
  have hP : va_P D vwCl [(h0, .inr (2, [.ref a1, .ref a2, .ref a3, .int 0])), (a1, .inl (cA 0, 10, .inl (fun _ => 0))), (a2, .inl (cA 0, 10, .inl (fun _ => 0))), (a3, .inl (cA 0, 10, .inl (fun _ => 0)))] _ := hP
  have hD : va_D A [(h0, .inr (2, [.ref a1, .ref a2, .ref a3, .int 0])), (a1, .inl (cA 0, 10, .inl (fun _ => 0))), (a2, .inl (cA 0, 10, .inl (fun _ => 0))), (a3, .inl (cA 0, 10, .inl (fun _ => 0)))] := hD
  refine lv_aload_n hx hb di_X2_init_28 rfl (lv_at hl 0 rfl) ?_
  refine lv_iconst (v := 0) hx hb di_X2_init_29 (by decide) ?_
  refine va_put (D := D) (ci := 2) (v := .int 0) (ty := tyX2 3) (C := RX2) (T := TX2) (N := 4) hx hb hts inTW_X2 tyX2 tyX2_ok nmX2 hown hK hP hD hS 0 rfl rfl 3 (by decide) (hts _ q_171) (fun _ h9 => h9) rfl (by decide +kernel) rfl rfl (Nat.le_of_ble_eq_true rfl) di_X2_init_30 (fun H locs hP hD hS => ?_)
  have hP : va_P D vwCl [(h0, .inr (2, [.ref a1, .ref a2, .ref a3, .int 0])), (a1, .inl (cA 0, 10, .inl (fun _ => 0))), (a2, .inl (cA 0, 10, .inl (fun _ => 0))), (a3, .inl (cA 0, 10, .inl (fun _ => 0)))] _ := hP
  have hD : va_D A [(h0, .inr (2, [.ref a1, .ref a2, .ref a3, .int 0])), (a1, .inl (cA 0, 10, .inl (fun _ => 0))), (a2, .inl (cA 0, 10, .inl (fun _ => 0))), (a3, .inl (cA 0, 10, .inl (fun _ => 0)))] := hD
  refine W.widen (k := 3) (n := 30) (by decide) (by decide) ?_
  subst hAe
  exact W.vret hx hb hr (fun t ht hW => ⟨⟨(), rfl, trivial, _, ⟨a1, a2, a3, rfl⟩, by rw [ht]; exact hP, hD⟩, hS.F ht⟩) hS.2.2 di_X2_init_33
theorem di_X3_init_0 : decode cX3_init 0 = .ok (.aload_n 0, 1) := by decide +kernel
theorem di_X3_init_1 : decode cX3_init 1 = .ok (.invokespecial 3, 3) := by decide +kernel
theorem di_X3_init_4 : decode cX3_init 4 = .ok (.aload_n 0, 1) := by decide +kernel
theorem di_X3_init_5 : decode cX3_init 5 = .ok (.bipush 10, 2) := by decide +kernel
theorem di_X3_init_7 : decode cX3_init 7 = .ok (.newarray .int, 2) := by decide +kernel
theorem di_X3_init_9 : decode cX3_init 9 = .ok (.putfield 9, 3) := by decide +kernel
theorem di_X3_init_12 : decode cX3_init 12 = .ok (.aload_n 0, 1) := by decide +kernel
theorem di_X3_init_13 : decode cX3_init 13 = .ok (.sipush 11264, 3) := by decide +kernel
theorem di_X3_init_16 : decode cX3_init 16 = .ok (.newarray .int, 2) := by decide +kernel
theorem di_X3_init_18 : decode cX3_init 18 = .ok (.putfield 15, 3) := by decide +kernel
theorem di_X3_init_21 : decode cX3_init 21 = .ok (.aload_n 0, 1) := by decide +kernel
theorem di_X3_init_22 : decode cX3_init 22 = .ok (.iconst 0, 1) := by decide +kernel
theorem di_X3_init_23 : decode cX3_init 23 = .ok (.putfield 18, 3) := by decide +kernel
theorem di_X3_init_26 : decode cX3_init 26 = .ok (.return_, 1) := by decide +kernel
set_option maxHeartbeats 4000000 in
set_option maxRecDepth 100000 in
theorem ci_X3_init : ci_S yX3_init cX3_init 1 { frames := 1, cells := 2, slots := 11274, locals := 36 } 3 [.null, .null, .int 0] (fun cA h0 W1 => ∃ a1 a2 : Nat, W1 = [(h0, .inr (3, [.ref a1, .ref a2, .int 0])), (a1, .inl (cA 0, 10, .inl (fun _ => 0))), (a2, .inl (cA 0, 11264, .inl (fun _ => 0)))]) := by
  intro l D cA h0 sz
  refine Met.ofW (cc := cX3_init) (maxL := 1) (ret := none) (by decide) rfl ?_
  intro p e s m args below meth c s₁ B hml hv
  obtain ⟨rfl, hsz, hP, ⟨hK, hnw⟩, hD0⟩ := hv
  have hx := B.exec
  have hb := B.bytes
  have hr := B.returns
  have hts : ∀ w ∈ ez_TW, w.before _ s = true := fun w hw => atoms_spec (ws := .code yX3_init cX3_init 1 none :: ez_TW) B.pre w (List.mem_cons_of_mem _ hw)
  have hown : s.vm.findClass RX3 = some m.cls := findClass_of_methodNamed B.named
  have hin : meth.name = "<init>" := (name_of_methodNamed B.named B.method).1
  subst hsz
  have hD := hD0.self (sz := s.heap.size)
  generalize hAe : va_A [(h0, .inr (3, [.null, .null, .int 0]))] s.heap.size = A at hD ⊢
  have hA : ∀ q : Nat, s.heap.size ≤ q → A q := fun q h => by rw [← hAe]; exact Or.inr h
  have hS : va_S A s.heap s.heap [] := va_S.rf
  have hP : va_P D vwCl [(h0, .inr (3, [.null, .null, .int 0]))] s.heap := hP
  have hl := lv_entry ([.ref h0]) (n := 1) (Nat.le_of_ble_eq_true rfl)
  rw [lg_entry_eq]
  generalize (lg_sl ([.ref h0]) ++ List.replicate (1 - (lg_sl ([.ref h0])).length) Slot.unset).toArray = ls at hl ⊢
  have hl : lv_has ls 1 [(0, .ref h0)] := hl
  refine lv_aload_n hx hb di_X3_init_0 rfl (lv_at hl 0 rfl) ?_
  refine W.objInit hx hb hown (hts _ q_151) (hts _ q_87) (hts _ q_88) rfl (by rw [hml]; exact hl.1) rfl di_X3_init_1 (Nat.le_of_ble_eq_true rfl) (Nat.le_of_ble_eq_true rfl) ?_
  refine W.eq (g2 := F0 m 4 ls []) rfl ?_
  refine lv_aload_n hx hb di_X3_init_4 rfl (lv_at hl 0 rfl) ?_
  refine lv_bipush (v := 10) hx hb di_X3_init_5 (by decide) ?_
  refine kz_newa (atype := .int) (ty := .int) (ca := cA 0) (N' := 10) (a0 := (10, .inl (fun _ => 0))) (j := 0) hx (hts _ q_103) rfl rfl hK hP hD hS hA (fun _ => rfl) (by decide) (by decide +kernel) (by decide) (by decide) (by decide) (by rw [hb]; exact di_X3_init_7) (fun a1 H hP hD hS => ?_)
  have hP : va_P D vwCl [(h0, .inr (3, [.null, .null, .int 0])), (a1, .inl (cA 0, 10, .inl (fun _ => 0)))] _ := hP
  have hD : va_D A [(h0, .inr (3, [.null, .null, .int 0])), (a1, .inl (cA 0, 10, .inl (fun _ => 0)))] := hD
  refine va_putF (D := D) (ci := 3) (v := .ref a1) (ty := tyX3 0) (C := RX3) (T := TX3) (N := 3) hx hb hts inTW_X3 tyX3 tyX3_ok nmX3 hown hK hP hD hS 0 rfl rfl 0 (by decide) (hts _ q_152) (fun _ h9 => h9) rfl hin rfl (by decide +kernel) rfl rfl (Nat.le_of_ble_eq_true rfl) di_X3_init_9 (fun H locs hP hD hS => ?_)
  have hP : va_P D vwCl [(h0, .inr (3, [.ref a1, .null, .int 0])), (a1, .inl (cA 0, 10, .inl (fun _ => 0)))] _ := hP
  have hD : va_D A [(h0, .inr (3, [.ref a1, .null, .int 0])), (a1, .inl (cA 0, 10, .inl (fun _ => 0)))] := hD
  refine lv_aload_n hx hb di_X3_init_12 rfl (lv_at hl 0 rfl) ?_
  refine lv_sipush (v := 11264) hx hb di_X3_init_13 (by decide) ?_
  refine kz_newa (atype := .int) (ty := .int) (ca := cA 0) (N' := 11264) (a0 := (11264, .inl (fun _ => 0))) (j := 0) hx (hts _ q_103) rfl rfl hK hP hD hS hA (fun _ => rfl) (by decide) (by decide +kernel) (by decide) (by decide) (by decide) (by rw [hb]; exact di_X3_init_16) (fun a2 H hP hD hS => ?_)
  have hP : va_P D vwCl [(h0, .inr (3, [.ref a1, .null, .int 0])), (a1, .inl (cA 0, 10, .inl (fun _ => 0))), (a2, .inl (cA 0, 11264, .inl (fun _ => 0)))] _ := hP
  have hD : va_D A [(h0, .inr (3, [.ref a1, .null, .int 0])), (a1, .inl (cA 0, 10, .inl (fun _ => 0))), (a2, .inl (cA 0, 11264, .inl (fun _ => 0)))] := hD
  refine va_putF (D := D) (ci := 3) (v := .ref a2) (ty := tyX3 1) (C := RX3) (T := TX3) (N := 3) hx hb hts inTW_X3 tyX3 tyX3_ok nmX3 hown hK hP hD hS 0 rfl rfl 1 (by decide) (hts _ q_153) (fun _ h9 => h9) rfl hin rfl (by decide +kernel) rfl rfl (Nat.le_of_ble_eq_true rfl) di_X3_init_18 (fun H locs hP hD hS => ?_)
  have hP : va_P D vwCl [(h0, .inr (3, [.ref a1, .ref a2, .int 0])), (a1, .inl (cA 0, 10, .inl (fun _ => 0))), (a2, .inl (cA 0, 11264, .inl (fun _ => 0)))] _ := hP
  have hD : va_D A [(h0, .inr (3, [.ref a1, .ref a2, .int 0])), (a1, .inl (cA 0, 10, .inl (fun _ => 0))), (a2, .inl (cA 0, 11264, .inl (fun _ => 0)))] := hD
  refine lv_aload_n hx hb di_X3_init_21 rfl (lv_at hl 0 rfl) ?_
  refine lv_iconst (v := 0) hx hb di_X3_init_22 (by decide) ?_
  refine va_put (D := D) (ci := 3) (v := .int 0) (ty := tyX3 2) (C := RX3) (T := TX3) (N := 3) hx hb hts inTW_X3 tyX3 tyX3_ok nmX3 hown hK hP hD hS 0 rfl rfl 2 (by decide) (hts _ q_154) (fun _ h9 => h9) rfl (by decide +kernel) rfl rfl (Nat.le_of_ble_eq_true rfl) di_X3_init_23 (fun H locs hP hD hS => ?_)
  have hP : va_P D vwCl [(h0, .inr (3, [.ref a1, .ref a2, .int 0])), (a1, .inl (cA 0, 10, .inl (fun _ => 0))), (a2, .inl (cA 0, 11264, .inl (fun _ => 0)))] _ := hP
  have hD : va_D A [(h0, .inr (3, [.ref a1, .ref a2, .int 0])), (a1, .inl (cA 0, 10, .inl (fun _ => 0))), (a2, .inl (cA 0, 11264, .inl (fun _ => 0)))] := hD
  refine W.widen (k := 2) (n := 11274) (by decide) (by decide) ?_
  subst hAe
  exact W.vret hx hb hr (fun t ht hW => ⟨⟨(), rfl, trivial, _, ⟨a1, a2, rfl⟩, by rw [ht]; exact hP, hD⟩, hS.F ht⟩) hS.2.2 di_X3_init_26
theorem di_X4_init_0 : decode cX4_init 0 = .ok (.aload_n 0, 1) := by decide +kernel
theorem di_X4_init_1 : decode cX4_init 1 = .ok (.invokespecial 3, 3) := by decide +kernel
theorem di_X4_init_4 : decode cX4_init 4 = .ok (.aload_n 0, 1) := by decide +kernel
theorem di_X4_init_5 : decode cX4_init 5 = .ok (.sipush 144, 3) := by decide +kernel
theorem di_X4_init_8 : decode cX4_init 8 = .ok (.newarray .int, 2) := by decide +kernel
theorem di_X4_init_10 : decode cX4_init 10 = .ok (.putfield 9, 3) := by decide +kernel
theorem di_X4_init_13 : decode cX4_init 13 = .ok (.aload_n 0, 1) := by decide +kernel
theorem di_X4_init_14 : decode cX4_init 14 = .ok (.sipush 600, 3) := by decide +kernel
theorem di_X4_init_17 : decode cX4_init 17 = .ok (.putfield 15, 3) := by decide +kernel
theorem di_X4_init_20 : decode cX4_init 20 = .ok (.return_, 1) := by decide +kernel
set_option maxHeartbeats 4000000 in
set_option maxRecDepth 100000 in
theorem ci_X4_init : ci_S yX4_init cX4_init 1 { frames := 1, cells := 1, slots := 144, locals := 36 } 4 [.null, .int 0] (fun cA h0 W1 => ∃ a1 : Nat, W1 = [(h0, .inr (4, [.ref a1, .int 600])), (a1, .inl (cA 0, 144, .inl (fun _ => 0)))]) := by
  intro l D cA h0 sz
  refine Met.ofW (cc := cX4_init) (maxL := 1) (ret := none) (by decide) rfl ?_
  intro p e s m args below meth c s₁ B hml hv
  obtain ⟨rfl, hsz, hP, ⟨hK, hnw⟩, hD0⟩ := hv
  have hx := B.exec
  have hb := B.bytes
  have hr := B.returns
  have hts : ∀ w ∈ ez_TW, w.before _ s = true := fun w hw => atoms_spec (ws := .code yX4_init cX4_init 1 none :: ez_TW) B.pre w (List.mem_cons_of_mem _ hw)
  have hown : s.vm.findClass RX4 = some m.cls := findClass_of_methodNamed B.named
  have hin : meth.name = "<init>" := (name_of_methodNamed B.named B.method).1
  subst hsz
  have hD := hD0.self (sz := s.heap.size)
  generalize hAe : va_A [(h0, .inr (4, [.null, .int 0]))] s.heap.size = A at hD ⊢
  have hA : ∀ q : Nat, s.heap.size ≤ q → A q := fun q h => by rw [← hAe]; exact Or.inr h
  have hS : va_S A s.heap s.heap [] := va_S.rf
  have hP : va_P D vwCl [(h0, .inr (4, [.null, .int 0]))] s.heap := hP
  have hl := lv_entry ([.ref h0]) (n := 1) (Nat.le_of_ble_eq_true rfl)
  rw [lg_entry_eq]
  generalize (lg_sl ([.ref h0]) ++ List.replicate (1 - (lg_sl ([.ref h0])).length) Slot.unset).toArray = ls at hl ⊢
  have hl : lv_has ls 1 [(0, .ref h0)] := hl
  refine lv_aload_n hx hb di_X4_init_0 rfl (lv_at hl 0 rfl) ?_
  refine W.objInit hx hb hown (hts _ q_94) (hts _ q_87) (hts _ q_88) rfl (by rw [hml]; exact hl.1) rfl di_X4_init_1 (Nat.le_of_ble_eq_true rfl) (Nat.le_of_ble_eq_true rfl) ?_
  refine W.eq (g2 := F0 m 4 ls []) rfl ?_
  refine lv_aload_n hx hb di_X4_init_4 rfl (lv_at hl 0 rfl) ?_
  refine lv_sipush (v := 144) hx hb di_X4_init_5 (by decide) ?_
  refine kz_newa (atype := .int) (ty := .int) (ca := cA 0) (N' := 144) (a0 := (144, .inl (fun _ => 0))) (j := 0) hx (hts _ q_103) rfl rfl hK hP hD hS hA (fun _ => rfl) (by decide) (by decide +kernel) (by decide) (by decide) (by decide) (by rw [hb]; exact di_X4_init_8) (fun a1 H hP hD hS => ?_)
  have hP : va_P D vwCl [(h0, .inr (4, [.null, .int 0])), (a1, .inl (cA 0, 144, .inl (fun _ => 0)))] _ := hP
  have hD : va_D A [(h0, .inr (4, [.null, .int 0])), (a1, .inl (cA 0, 144, .inl (fun _ => 0)))] := hD
  refine va_putF (D := D) (ci := 4) (v := .ref a1) (ty := tyX4 0) (C := RX4) (T := TX4) (N := 2) hx hb hts inTW_X4 tyX4 tyX4_ok nmX4 hown hK hP hD hS 0 rfl rfl 0 (by decide) (hts _ q_95) (fun _ h9 => h9) rfl hin rfl (by decide +kernel) rfl rfl (Nat.le_of_ble_eq_true rfl) di_X4_init_10 (fun H locs hP hD hS => ?_)
  have hP : va_P D vwCl [(h0, .inr (4, [.ref a1, .int 0])), (a1, .inl (cA 0, 144, .inl (fun _ => 0)))] _ := hP
  have hD : va_D A [(h0, .inr (4, [.ref a1, .int 0])), (a1, .inl (cA 0, 144, .inl (fun _ => 0)))] := hD
  refine lv_aload_n hx hb di_X4_init_13 rfl (lv_at hl 0 rfl) ?_
  refine lv_sipush (v := 600) hx hb di_X4_init_14 (by decide) ?_
  refine va_put (D := D) (ci := 4) (v := .int 600) (ty := tyX4 1) (C := RX4) (T := TX4) (N := 2) hx hb hts inTW_X4 tyX4 tyX4_ok nmX4 hown hK hP hD hS 0 rfl rfl 1 (by decide) (hts _ q_96) (fun _ h9 => h9) rfl (by decide +kernel) rfl rfl (Nat.le_of_ble_eq_true rfl) di_X4_init_17 (fun H locs hP hD hS => ?_)
  have hP : va_P D vwCl [(h0, .inr (4, [.ref a1, .int 600])), (a1, .inl (cA 0, 144, .inl (fun _ => 0)))] _ := hP
  have hD : va_D A [(h0, .inr (4, [.ref a1, .int 600])), (a1, .inl (cA 0, 144, .inl (fun _ => 0)))] := hD
  refine W.widen (k := 1) (n := 144) (by decide) (by decide) ?_
  subst hAe
  exact W.vret hx hb hr (fun t ht hW => ⟨⟨(), rfl, trivial, _, ⟨a1, rfl⟩, by rw [ht]; exact hP, hD⟩, hS.F ht⟩) hS.2.2 di_X4_init_20
theorem di_X5_init_0 : decode cX5_init 0 = .ok (.aload_n 0, 1) := by decide +kernel
theorem di_X5_init_1 : decode cX5_init 1 = .ok (.invokespecial 1, 3) := by decide +kernel
theorem di_X5_init_4 : decode cX5_init 4 = .ok (.aload_n 0, 1) := by decide +kernel
theorem di_X5_init_5 : decode cX5_init 5 = .ok (.new 7, 3) := by decide +kernel
theorem di_X5_init_8 : decode cX5_init 8 = .ok (.dup, 1) := by decide +kernel
theorem di_X5_init_9 : decode cX5_init 9 = .ok (.invokespecial 9, 3) := by decide +kernel
theorem di_X5_init_12 : decode cX5_init 12 = .ok (.putfield 10, 3) := by decide +kernel
theorem di_X5_init_15 : decode cX5_init 15 = .ok (.aload_n 0, 1) := by decide +kernel
theorem di_X5_init_16 : decode cX5_init 16 = .ok (.new 16, 3) := by decide +kernel
theorem di_X5_init_19 : decode cX5_init 19 = .ok (.dup, 1) := by decide +kernel
theorem di_X5_init_20 : decode cX5_init 20 = .ok (.invokespecial 18, 3) := by decide +kernel
theorem di_X5_init_23 : decode cX5_init 23 = .ok (.putfield 19, 3) := by decide +kernel
theorem di_X5_init_26 : decode cX5_init 26 = .ok (.aload_n 0, 1) := by decide +kernel
theorem di_X5_init_27 : decode cX5_init 27 = .ok (.new 23, 3) := by decide +kernel
theorem di_X5_init_30 : decode cX5_init 30 = .ok (.dup, 1) := by decide +kernel
theorem di_X5_init_31 : decode cX5_init 31 = .ok (.invokespecial 25, 3) := by decide +kernel
theorem di_X5_init_34 : decode cX5_init 34 = .ok (.putfield 26, 3) := by decide +kernel
theorem di_X5_init_37 : decode cX5_init 37 = .ok (.aload_n 0, 1) := by decide +kernel
theorem di_X5_init_38 : decode cX5_init 38 = .ok (.new 23, 3) := by decide +kernel
theorem di_X5_init_41 : decode cX5_init 41 = .ok (.dup, 1) := by decide +kernel
theorem di_X5_init_42 : decode cX5_init 42 = .ok (.invokespecial 25, 3) := by decide +kernel
theorem di_X5_init_45 : decode cX5_init 45 = .ok (.putfield 30, 3) := by decide +kernel
theorem di_X5_init_48 : decode cX5_init 48 = .ok (.aload_n 0, 1) := by decide +kernel
theorem di_X5_init_49 : decode cX5_init 49 = .ok (.new 23, 3) := by decide +kernel
theorem di_X5_init_52 : decode cX5_init 52 = .ok (.dup, 1) := by decide +kernel
theorem di_X5_init_53 : decode cX5_init 53 = .ok (.invokespecial 25, 3) := by decide +kernel
theorem di_X5_init_56 : decode cX5_init 56 = .ok (.putfield 33, 3) := by decide +kernel
theorem di_X5_init_59 : decode cX5_init 59 = .ok (.aload_n 0, 1) := by decide +kernel
theorem di_X5_init_60 : decode cX5_init 60 = .ok (.new 36, 3) := by decide +kernel
theorem di_X5_init_63 : decode cX5_init 63 = .ok (.dup, 1) := by decide +kernel
theorem di_X5_init_64 : decode cX5_init 64 = .ok (.invokespecial 38, 3) := by decide +kernel
theorem di_X5_init_67 : decode cX5_init 67 = .ok (.putfield 39, 3) := by decide +kernel
theorem di_X5_init_70 : decode cX5_init 70 = .ok (.aload_n 0, 1) := by decide +kernel
theorem di_X5_init_71 : decode cX5_init 71 = .ok (.new 43, 3) := by decide +kernel
theorem di_X5_init_74 : decode cX5_init 74 = .ok (.dup, 1) := by decide +kernel
theorem di_X5_init_75 : decode cX5_init 75 = .ok (.invokespecial 45, 3) := by decide +kernel
theorem di_X5_init_78 : decode cX5_init 78 = .ok (.putfield 46, 3) := by decide +kernel
theorem di_X5_init_81 : decode cX5_init 81 = .ok (.aload_n 0, 1) := by decide +kernel
theorem di_X5_init_82 : decode cX5_init 82 = .ok (.bipush 6, 2) := by decide +kernel
theorem di_X5_init_84 : decode cX5_init 84 = .ok (.newarray .int, 2) := by decide +kernel
theorem di_X5_init_86 : decode cX5_init 86 = .ok (.putfield 50, 3) := by decide +kernel
theorem di_X5_init_89 : decode cX5_init 89 = .ok (.aload_n 0, 1) := by decide +kernel
theorem di_X5_init_90 : decode cX5_init 90 = .ok (.bipush 10, 2) := by decide +kernel
theorem di_X5_init_92 : decode cX5_init 92 = .ok (.newarray .int, 2) := by decide +kernel
theorem di_X5_init_94 : decode cX5_init 94 = .ok (.putfield 54, 3) := by decide +kernel
theorem di_X5_init_97 : decode cX5_init 97 = .ok (.aload_n 0, 1) := by decide +kernel
theorem di_X5_init_98 : decode cX5_init 98 = .ok (.iconst 0, 1) := by decide +kernel
theorem di_X5_init_99 : decode cX5_init 99 = .ok (.putfield 57, 3) := by decide +kernel
theorem di_X5_init_102 : decode cX5_init 102 = .ok (.iconst 0, 1) := by decide +kernel
theorem di_X5_init_103 : decode cX5_init 103 = .ok (.istore_n 1, 1) := by decide +kernel
theorem di_X5_init_104 : decode cX5_init 104 = .ok (.iload_n 1, 1) := by decide +kernel
theorem di_X5_init_105 : decode cX5_init 105 = .ok (.bipush 6, 2) := by decide +kernel
theorem di_X5_init_107 : decode cX5_init 107 = .ok (.if_icmp .ge 18, 3) := by decide +kernel
theorem di_X5_init_110 : decode cX5_init 110 = .ok (.aload_n 0, 1) := by decide +kernel
theorem di_X5_init_111 : decode cX5_init 111 = .ok (.getfield 50, 3) := by decide +kernel
theorem di_X5_init_114 : decode cX5_init 114 = .ok (.iload_n 1, 1) := by decide +kernel
theorem di_X5_init_115 : decode cX5_init 115 = .ok (.iconst 1, 1) := by decide +kernel
theorem di_X5_init_116 : decode cX5_init 116 = .ok (.invokestatic 61, 3) := by decide +kernel
theorem di_X5_init_119 : decode cX5_init 119 = .ok (.iinc 1 1, 3) := by decide +kernel
theorem di_X5_init_122 : decode cX5_init 122 = .ok (.goto (-18), 3) := by decide +kernel
theorem di_X5_init_125 : decode cX5_init 125 = .ok (.return_, 1) := by decide +kernel
theorem di_X6_init_0 : decode cX6_init 0 = .ok (.aload_n 0, 1) := by decide +kernel
theorem di_X6_init_1 : decode cX6_init 1 = .ok (.invokespecial 1, 3) := by decide +kernel
theorem di_X6_init_4 : decode cX6_init 4 = .ok (.aload_n 0, 1) := by decide +kernel
theorem di_X6_init_5 : decode cX6_init 5 = .ok (.sipush 144, 3) := by decide +kernel
theorem di_X6_init_8 : decode cX6_init 8 = .ok (.newarray .int, 2) := by decide +kernel
theorem di_X6_init_10 : decode cX6_init 10 = .ok (.putfield 7, 3) := by decide +kernel
theorem di_X6_init_13 : decode cX6_init 13 = .ok (.aload_n 0, 1) := by decide +kernel
theorem di_X6_init_14 : decode cX6_init 14 = .ok (.sipush 600, 3) := by decide +kernel
theorem di_X6_init_17 : decode cX6_init 17 = .ok (.putfield 13, 3) := by decide +kernel
theorem di_X6_init_20 : decode cX6_init 20 = .ok (.aload_n 0, 1) := by decide +kernel
theorem di_X6_init_21 : decode cX6_init 21 = .ok (.bipush 48, 2) := by decide +kernel
theorem di_X6_init_23 : decode cX6_init 23 = .ok (.newarray .int, 2) := by decide +kernel
theorem di_X6_init_25 : decode cX6_init 25 = .ok (.putfield 17, 3) := by decide +kernel
theorem di_X6_init_28 : decode cX6_init 28 = .ok (.aload_n 0, 1) := by decide +kernel
theorem di_X6_init_29 : decode cX6_init 29 = .ok (.bipush 12, 2) := by decide +kernel
theorem di_X6_init_31 : decode cX6_init 31 = .ok (.newarray .int, 2) := by decide +kernel
theorem di_X6_init_33 : decode cX6_init 33 = .ok (.putfield 20, 3) := by decide +kernel
theorem di_X6_init_36 : decode cX6_init 36 = .ok (.aload_n 0, 1) := by decide +kernel
theorem di_X6_init_37 : decode cX6_init 37 = .ok (.bipush 12, 2) := by decide +kernel
theorem di_X6_init_39 : decode cX6_init 39 = .ok (.newarray .int, 2) := by decide +kernel
theorem di_X6_init_41 : decode cX6_init 41 = .ok (.putfield 23, 3) := by decide +kernel
theorem di_X6_init_44 : decode cX6_init 44 = .ok (.aload_n 0, 1) := by decide +kernel
theorem di_X6_init_45 : decode cX6_init 45 = .ok (.bipush 12, 2) := by decide +kernel
theorem di_X6_init_47 : decode cX6_init 47 = .ok (.newarray .int, 2) := by decide +kernel
theorem di_X6_init_49 : decode cX6_init 49 = .ok (.putfield 26, 3) := by decide +kernel
theorem di_X6_init_52 : decode cX6_init 52 = .ok (.aload_n 0, 1) := by decide +kernel
theorem di_X6_init_53 : decode cX6_init 53 = .ok (.bipush 12, 2) := by decide +kernel
theorem di_X6_init_55 : decode cX6_init 55 = .ok (.newarray .int, 2) := by decide +kernel
theorem di_X6_init_57 : decode cX6_init 57 = .ok (.putfield 29, 3) := by decide +kernel
theorem di_X6_init_60 : decode cX6_init 60 = .ok (.aload_n 0, 1) := by decide +kernel
theorem di_X6_init_61 : decode cX6_init 61 = .ok (.bipush 110, 2) := by decide +kernel
theorem di_X6_init_63 : decode cX6_init 63 = .ok (.newarray .int, 2) := by decide +kernel
theorem di_X6_init_65 : decode cX6_init 65 = .ok (.putfield 32, 3) := by decide +kernel
theorem di_X6_init_68 : decode cX6_init 68 = .ok (.aload_n 0, 1) := by decide +kernel
theorem di_X6_init_69 : decode cX6_init 69 = .ok (.bipush 6, 2) := by decide +kernel
theorem di_X6_init_71 : decode cX6_init 71 = .ok (.newarray .int, 2) := by decide +kernel
theorem di_X6_init_73 : decode cX6_init 73 = .ok (.putfield 35, 3) := by decide +kernel
theorem di_X6_init_76 : decode cX6_init 76 = .ok (.aload_n 0, 1) := by decide +kernel
theorem di_X6_init_77 : decode cX6_init 77 = .ok (.sipush 220, 3) := by decide +kernel
theorem di_X6_init_80 : decode cX6_init 80 = .ok (.newarray .int, 2) := by decide +kernel
theorem di_X6_init_82 : decode cX6_init 82 = .ok (.putfield 38, 3) := by decide +kernel
theorem di_X6_init_85 : decode cX6_init 85 = .ok (.aload_n 0, 1) := by decide +kernel
theorem di_X6_init_86 : decode cX6_init 86 = .ok (.iconst 2, 1) := by decide +kernel
theorem di_X6_init_87 : decode cX6_init 87 = .ok (.newarray .int, 2) := by decide +kernel
theorem di_X6_init_89 : decode cX6_init 89 = .ok (.putfield 41, 3) := by decide +kernel
theorem di_X6_init_92 : decode cX6_init 92 = .ok (.aload_n 0, 1) := by decide +kernel
theorem di_X6_init_93 : decode cX6_init 93 = .ok (.iconst 2, 1) := by decide +kernel
theorem di_X6_init_94 : decode cX6_init 94 = .ok (.newarray .boolean, 2) := by decide +kernel
theorem di_X6_init_96 : decode cX6_init 96 = .ok (.putfield 44, 3) := by decide +kernel
theorem di_X6_init_99 : decode cX6_init 99 = .ok (.aload_n 0, 1) := by decide +kernel
theorem di_X6_init_100 : decode cX6_init 100 = .ok (.bipush 10, 2) := by decide +kernel
theorem di_X6_init_102 : decode cX6_init 102 = .ok (.newarray .int, 2) := by decide +kernel
theorem di_X6_init_104 : decode cX6_init 104 = .ok (.putfield 48, 3) := by decide +kernel
theorem di_X6_init_107 : decode cX6_init 107 = .ok (.aload_n 0, 1) := by decide +kernel
theorem di_X6_init_108 : decode cX6_init 108 = .ok (.bipush 10, 2) := by decide +kernel
theorem di_X6_init_110 : decode cX6_init 110 = .ok (.newarray .int, 2) := by decide +kernel
theorem di_X6_init_112 : decode cX6_init 112 = .ok (.putfield 51, 3) := by decide +kernel
theorem di_X6_init_115 : decode cX6_init 115 = .ok (.aload_n 0, 1) := by decide +kernel
theorem di_X6_init_116 : decode cX6_init 116 = .ok (.sipush 11264, 3) := by decide +kernel
theorem di_X6_init_119 : decode cX6_init 119 = .ok (.newarray .long, 2) := by decide +kernel
theorem di_X6_init_121 : decode cX6_init 121 = .ok (.putfield 54, 3) := by decide +kernel
theorem di_X6_init_124 : decode cX6_init 124 = .ok (.aload_n 0, 1) := by decide +kernel
theorem di_X6_init_125 : decode cX6_init 125 = .ok (.bipush 6, 2) := by decide +kernel
theorem di_X6_init_127 : decode cX6_init 127 = .ok (.newarray .int, 2) := by decide +kernel
theorem di_X6_init_129 : decode cX6_init 129 = .ok (.putfield 58, 3) := by decide +kernel
theorem di_X6_init_132 : decode cX6_init 132 = .ok (.aload_n 0, 1) := by decide +kernel
theorem di_X6_init_133 : decode cX6_init 133 = .ok (.bipush 10, 2) := by decide +kernel
theorem di_X6_init_135 : decode cX6_init 135 = .ok (.newarray .int, 2) := by decide +kernel
theorem di_X6_init_137 : decode cX6_init 137 = .ok (.putfield 61, 3) := by decide +kernel
theorem di_X6_init_140 : decode cX6_init 140 = .ok (.iconst 0, 1) := by decide +kernel
theorem di_X6_init_141 : decode cX6_init 141 = .ok (.istore_n 1, 1) := by decide +kernel
theorem di_X6_init_142 : decode cX6_init 142 = .ok (.iload_n 1, 1) := by decide +kernel
theorem di_X6_init_143 : decode cX6_init 143 = .ok (.bipush 6, 2) := by decide +kernel
theorem di_X6_init_145 : decode cX6_init 145 = .ok (.if_icmp .ge 16, 3) := by decide +kernel
theorem di_X6_init_148 : decode cX6_init 148 = .ok (.aload_n 0, 1) := by decide +kernel
theorem di_X6_init_149 : decode cX6_init 149 = .ok (.getfield 35, 3) := by decide +kernel
theorem di_X6_init_152 : decode cX6_init 152 = .ok (.iload_n 1, 1) := by decide +kernel
theorem di_X6_init_153 : decode cX6_init 153 = .ok (.iconst 1, 1) := by decide +kernel
theorem di_X6_init_154 : decode cX6_init 154 = .ok (.iastore, 1) := by decide +kernel
theorem di_X6_init_155 : decode cX6_init 155 = .ok (.iinc 1 1, 3) := by decide +kernel
theorem di_X6_init_158 : decode cX6_init 158 = .ok (.goto (-16), 3) := by decide +kernel
theorem di_X6_init_161 : decode cX6_init 161 = .ok (.return_, 1) := by decide +kernel

