/-! ===== the law: its start and its loop ===== -/
theorem kw_arr {args : Array Value} {s : State} {ty : FieldType} (h : (Cond.arrayClass ty).before args s = true) : ∃ cA : ClassId, ArrOfT s cA ty ∧ s.vm.findClass ("[" ++ ty.toString) = some cA := by
  obtain ⟨cA, kA, comp, h1, h2, h3⟩ := Cond.arrayClass_spec h
  exact ⟨cA, fun n z => ⟨fun k h => (by cases h), kA, h2, comp, h3⟩, h1⟩
theorem kw_nw {args : Array Value} {s : State} (h : ∀ w ∈ lw_tbl, w.before args s = true) : ∀ w ∈ ez_NW, va_Nw w s := by
  intro w hw
  have h1 := h w (List.mem_filter.mp hw).1
  have h2 := (List.mem_filter.mp hw).2
  cases w <;> first | exact va_Nw.of rfl h1 | cases h2
theorem kw_K {args : Array Value} {s : State} (hts : ∀ w ∈ ez_TW, w.before args s = true) : ∃ (D : va_G) (cA : Nat → ClassId), va_K D vwCl (ez_tys cA) s := by
  obtain ⟨c0, i0, k0⟩ := u_known (C := RX0) (T := TX0) (N := 5) hts inTW_X0 (hts _ q_105)
  obtain ⟨c1, i1, k1⟩ := u_known (C := RX1) (T := TX1) (N := 3) hts inTW_X1 (hts _ q_129)
  obtain ⟨c2, i2, k2⟩ := u_known (C := RX2) (T := TX2) (N := 4) hts inTW_X2 (hts _ q_163)
  obtain ⟨c3, i3, k3⟩ := u_known (C := RX3) (T := TX3) (N := 3) hts inTW_X3 (hts _ q_147)
  obtain ⟨c4, i4, k4⟩ := u_known (C := RX4) (T := TX4) (N := 2) hts inTW_X4 (hts _ q_90)
  obtain ⟨c5, i5, k5⟩ := u_known (C := RX5) (T := TX5) (N := 10) hts inTW_X5 (hts _ q_82)
  obtain ⟨c6, i6, k6⟩ := u_known (C := RX6) (T := TX6) (N := 28) hts inTW_X6 (hts _ q_661)
  obtain ⟨a0, hi0, hf0⟩ := kw_arr (hts _ q_103)
  obtain ⟨a1, hi1, hf1⟩ := kw_arr (hts _ q_752)
  obtain ⟨a2, hi2, hf2⟩ := kw_arr (hts _ q_751)
  refine ⟨(fun k => match k with | 0 => c0 | 1 => c1 | 2 => c2 | 3 => c3 | 4 => c4 | 5 => c5 | _ => c6, fun k => match k with | 0 => i0 | 1 => i1 | 2 => i2 | 3 => i3 | 4 => i4 | 5 => i5 | _ => i6), fun k => match k with | 0 => a0 | 1 => a1 | _ => a2, fun k q hq => ?_, fun k q hq => ?_⟩
  · match k, hq with
    | 0, hq => cases hq; exact k0
    | 1, hq => cases hq; exact k1
    | 2, hq => cases hq; exact k2
    | 3, hq => cases hq; exact k3
    | 4, hq => cases hq; exact k4
    | 5, hq => cases hq; exact k5
    | 6, hq => cases hq; exact k6
    | k + 7, hq => cases hq
  · match k, hq with
    | 0, hq => cases hq; exact ⟨hi0, hf0⟩
    | 1, hq => cases hq; exact ⟨hi1, hf1⟩
    | 2, hq => cases hq; exact ⟨hi2, hf2⟩
    | k + 3, hq => cases hq
theorem kw_split {A : Nat → Prop} {D : va_G} {cl : List vw_C} {ws W1 : va_W} {H : Heap} (hP : va_P D cl (ws ++ W1) H) (hD : va_D A (ws ++ W1)) : (va_P D cl ws H ∧ va_P D cl W1 H) ∧ (va_D A ws ∧ va_D A W1) ∧ ∀ (i j : Nat) (p q : Nat × va_E), ws[i]? = some p → W1[j]? = some q → p.1 ≠ q.1 := by
  have hl : ∀ (i : Nat) (p : Nat × va_E), ws[i]? = some p → i < ws.length ∧ (ws ++ W1)[i]? = some p := fun i p h => by
    have h1 := (List.getElem?_eq_some_iff.mp h).1
    exact ⟨h1, by rw [List.getElem?_append_left h1]; exact h⟩
  have hr : ∀ (j : Nat) (q : Nat × va_E), W1[j]? = some q → (ws ++ W1)[ws.length + j]? = some q := fun j q h => by
    rw [List.getElem?_append_right (by omega), Nat.add_sub_cancel_left]
    exact h
  refine ⟨⟨fun k q h => hP k q (hl k q h).2, fun k q h => hP _ q (hr k q h)⟩, ⟨⟨fun i j p q hi hj e => hD.1 i j p q (hl i p hi).2 (hl j q hj).2 e, fun k q h => hD.2 k q (hl k q h).2⟩, ⟨fun i j p q hi hj e => ?_, fun k q h => hD.2 _ q (hr k q h)⟩⟩, fun i j p q hi hj e => ?_⟩
  · have := hD.1 _ _ p q (hr i p hi) (hr j q hj) e
    omega
  · have := hD.1 _ _ p q (hl i p hi).2 (hr j q hj) e
    have := (hl i p hi).1
    omega
theorem kw_at {L : ez_L} {cA : Nat → ClassId} {ad : Nat → Nat} {M : ez_M} {k : Nat} {x : Nat × va_E} (h : (ez_ws L cA ad M)[k]? = some x) : k < L.length ∧ x.1 = ad k := by
  rw [ez_ws_get] at h
  cases hc : L[k]? with
  | none => rw [hc] at h; cases h
  | some c0 =>
    rw [hc] at h
    cases h
    exact ⟨(List.getElem?_eq_some_iff.mp hc).1, rfl⟩
theorem kw_has {L : ez_L} (cA : Nat → ClassId) {ad : Nat → Nat} (M : ez_M) {q : Nat} (h : ez_A L ad q) : ∃ (k : Nat) (x : Nat × va_E), (ez_ws L cA ad M)[k]? = some x ∧ x.1 = q := by
  obtain ⟨i, hi, rfl⟩ := h
  exact ⟨i, (ad i, ez_cell cA ad (M i) L[i]), by rw [ez_ws_get, List.getElem?_eq_getElem hi]; rfl, rfl⟩
theorem kw_DA {A : Nat → Prop} {L : ez_L} {cA : Nat → ClassId} {ad : Nat → Nat} {M : ez_M} (hD : va_D A (ez_ws L cA ad M)) (M' : ez_M) : va_D (ez_A L ad) (ez_ws L cA ad M') :=
  ⟨(ez_ad (M' := M') hD).1, fun k x h => ⟨k, (kw_at h).1, (kw_at h).2⟩⟩
theorem kw_AA {A : Nat → Prop} {L : ez_L} {cA : Nat → ClassId} {ad : Nat → Nat} {M : ez_M} (hD : va_D A (ez_ws L cA ad M)) : ∀ q, ez_A L ad q → A q := fun q h => by
  obtain ⟨k, x, hx, rfl⟩ := kw_has cA M h
  exact hD.2 k x hx
section KL
variable {p : Program} {l : Launch} {e : Env} {s : State} {m : MethodId} {below : List Frame} {meth : Method} {c : Code} {b L : Nat} {xs : Nat → Int32} {D : va_G} {cA : Nat → ClassId} {adX adN : Nat → Nat}
set_option maxHeartbeats 8000000 in
/-- a turn's switch -/
theorem kw_turn {H : Heap} {locs : List Loc} {ls : Array Slot} {n : Nat} {S : ff_S} {Qf : State → Prop} (w : Int32) (C : kw_C p s m c b L xs D cA adX adN) (hL : L ≤ 3072) (hn : n + 6 ≤ L) (hl : lv_has ls 4 (kw_l adX adN b n)) (hd : kw_D s D cA adX adN S H locs) (kk : ∀ (S' : ff_S) (H' : Heap) (locs' : List Loc), kw_D s D cA adX adN S' H' locs' → W p l e room_1 s m #[Value.ref b] below meth c H' locs' 39 23797 Qf (F0 m 1531 ls [])) : W p l e room_1 s m #[Value.ref b] below meth c H locs 39 23797 Qf (F0 m 33 ls [.int w]) := by
  by_cases ho : w.toInt < 0 ∨ 41 < w.toInt
  · exact lv_tableOut (tgt := 1531) C.hx C.hb dl_33 ho rfl (kk S H locs hd)
  · have h1 : ¬ w.toInt < 0 := fun h => ho (Or.inl h)
    have h2 : ¬ 41 < w.toInt := fun h => ho (Or.inr h)
    obtain ⟨k, hk⟩ : ∃ k : Nat, w.toInt = (k : Int) := ⟨w.toInt.toNat, by omega⟩
    have hk2 : k < 42 := by omega
    match k, hk, hk2 with
    | 0, hk, _ => exact lv_tableIn (off := 183) (tgt := 216) C.hx C.hb dl_33 h1 h2 (by rw [hk]; rfl) rfl (kc_off C hL hn hl hd kk)
    | 1, hk, _ => exact lv_tableIn (off := 216) (tgt := 249) C.hx C.hb dl_33 h1 h2 (by rw [hk]; rfl) rfl (kc_sun C hL hn hl hd kk)
    | 2, hk, _ => exact lv_tableIn (off := 239) (tgt := 272) C.hx C.hb dl_33 h1 h2 (by rw [hk]; rfl) rfl (kc_edge C hL hn hl hd kk)
    | 3, hk, _ => exact lv_tableIn (off := 282) (tgt := 315) C.hx C.hb dl_33 h1 h2 (by rw [hk]; rfl) rfl (kc_rise C hL hn hl hd kk)
    | 4, hk, _ => exact lv_tableIn (off := 315) (tgt := 348) C.hx C.hb dl_33 h1 h2 (by rw [hk]; rfl) rfl (kc_switched C hL hn hl hd kk)
    | 5, hk, _ => exact lv_tableIn (off := 338) (tgt := 371) C.hx C.hb dl_33 h1 h2 (by rw [hk]; rfl) rfl (kc_day C hL hn hl hd kk)
    | 6, hk, _ => exact lv_tableIn (off := 371) (tgt := 404) C.hx C.hb dl_33 h1 h2 (by rw [hk]; rfl) rfl (kc_feast C hL hn hl hd kk)
    | 7, hk, _ => exact lv_tableIn (off := 394) (tgt := 427) C.hx C.hb dl_33 h1 h2 (by rw [hk]; rfl) rfl (kc_write C hL hn hl hd kk)
    | 8, hk, _ => exact lv_tableIn (off := 457) (tgt := 490) C.hx C.hb dl_33 h1 h2 (by rw [hk]; rfl) rfl (kc_wipe C hL hn hl hd kk)
    | 9, hk, _ => exact lv_tableIn (off := 470) (tgt := 503) C.hx C.hb dl_33 h1 h2 (by rw [hk]; rfl) rfl (kc_fault C hL hn hl hd kk)
    | 10, hk, _ => exact lv_tableIn (off := 483) (tgt := 516) C.hx C.hb dl_33 h1 h2 (by rw [hk]; rfl) rfl (kc_book C hL hn hl hd kk)
    | 11, hk, _ => exact lv_tableIn (off := 496) (tgt := 529) C.hx C.hb dl_33 h1 h2 (by rw [hk]; rfl) rfl (kc_needle C hL hn hl hd kk)
    | 12, hk, _ => exact lv_tableIn (off := 519) (tgt := 552) C.hx C.hb dl_33 h1 h2 (by rw [hk]; rfl) rfl (kc_church C hL hn hl hd kk)
    | 13, hk, _ => exact lv_tableIn (off := 582) (tgt := 615) C.hx C.hb dl_33 h1 h2 (by rw [hk]; rfl) rfl (kc_tell C hL hn hl hd kk)
    | 14, hk, _ => exact lv_tableIn (off := 625) (tgt := 658) C.hx C.hb dl_33 h1 h2 (by rw [hk]; rfl) rfl (kc_about C hL hn hl hd kk)
    | 15, hk, _ => exact lv_tableIn (off := 658) (tgt := 691) C.hx C.hb dl_33 h1 h2 (by rw [hk]; rfl) rfl (kc_line C hL hn hl hd kk)
    | 16, hk, _ => exact lv_tableIn (off := 701) (tgt := 734) C.hx C.hb dl_33 h1 h2 (by rw [hk]; rfl) rfl (kc_hits C hL hn hl hd kk)
    | 17, hk, _ => exact lv_tableIn (off := 734) (tgt := 767) C.hx C.hb dl_33 h1 h2 (by rw [hk]; rfl) rfl (kc_hit C hL hn hl hd kk)
    | 18, hk, _ => exact lv_tableIn (off := 777) (tgt := 810) C.hx C.hb dl_33 h1 h2 (by rw [hk]; rfl) rfl (kc_explain C hL hn hl hd kk)
    | 19, hk, _ => exact lv_tableIn (off := 800) (tgt := 833) C.hx C.hb dl_33 h1 h2 (by rw [hk]; rfl) rfl (kc_chance C hL hn hl hd kk)
    | 20, hk, _ => exact lv_tableIn (off := 860) (tgt := 893) C.hx C.hb dl_33 h1 h2 (by rw [hk]; rfl) rfl (kc_weight C hL hn hl hd kk)
    | 21, hk, _ => exact lv_tableIn (off := 893) (tgt := 926) C.hx C.hb dl_33 h1 h2 (by rw [hk]; rfl) rfl (kc_odds C hL hn hl hd kk)
    | 22, hk, _ => exact lv_tableIn (off := 953) (tgt := 986) C.hx C.hb dl_33 h1 h2 (by rw [hk]; rfl) rfl (kc_best C hL hn hl hd kk)
    | 23, hk, _ => exact lv_tableIn (off := 976) (tgt := 1009) C.hx C.hb dl_33 h1 h2 (by rw [hk]; rfl) rfl (kc_fewest C hL hn hl hd kk)
    | 24, hk, _ => exact lv_tableIn (off := 989) (tgt := 1022) C.hx C.hb dl_33 h1 h2 (by rw [hk]; rfl) rfl (kc_look C hL hn hl hd kk)
    | 25, hk, _ => exact lv_tableIn (off := 1002) (tgt := 1035) C.hx C.hb dl_33 h1 h2 (by rw [hk]; rfl) rfl (kc_days C hL hn hl hd kk)
    | 26, hk, _ => exact lv_tableIn (off := 1025) (tgt := 1058) C.hx C.hb dl_33 h1 h2 (by rw [hk]; rfl) rfl (kc_on C hL hn hl hd kk)
    | 27, hk, _ => exact lv_tableIn (off := 1058) (tgt := 1091) C.hx C.hb dl_33 h1 h2 (by rw [hk]; rfl) rfl (kc_own C hL hn hl hd kk)
    | 28, hk, _ => exact lv_tableIn (off := 1071) (tgt := 1104) C.hx C.hb dl_33 h1 h2 (by rw [hk]; rfl) rfl (kc_deals C hL hn hl hd kk)
    | 29, hk, _ => exact lv_tableIn (off := 1095) (tgt := 1128) C.hx C.hb dl_33 h1 h2 (by rw [hk]; rfl) rfl (kc_dealt C hL hn hl hd kk)
    | 30, hk, _ => exact lv_tableIn (off := 1135) (tgt := 1168) C.hx C.hb dl_33 h1 h2 (by rw [hk]; rfl) rfl (kc_goes C hL hn hl hd kk)
    | 31, hk, _ => exact lv_tableIn (off := 1148) (tgt := 1181) C.hx C.hb dl_33 h1 h2 (by rw [hk]; rfl) rfl (kc_luck C hL hn hl hd kk)
    | 32, hk, _ => exact lv_tableIn (off := 1188) (tgt := 1221) C.hx C.hb dl_33 h1 h2 (by rw [hk]; rfl) rfl (kc_dated C hL hn hl hd kk)
    | 33, hk, _ => exact lv_tableIn (off := 1221) (tgt := 1254) C.hx C.hb dl_33 h1 h2 (by rw [hk]; rfl) rfl (kc_master C hL hn hl hd kk)
    | 34, hk, _ => exact lv_tableIn (off := 1254) (tgt := 1287) C.hx C.hb dl_33 h1 h2 (by rw [hk]; rfl) rfl (kc_choir C hL hn hl hd kk)
    | 35, hk, _ => exact lv_tableIn (off := 1307) (tgt := 1340) C.hx C.hb dl_33 h1 h2 (by rw [hk]; rfl) rfl (kc_bends C hL hn hl hd kk)
    | 36, hk, _ => exact lv_tableIn (off := 1330) (tgt := 1363) C.hx C.hb dl_33 h1 h2 (by rw [hk]; rfl) rfl (kc_why C hL hn hl hd kk)
    | 37, hk, _ => exact lv_tableIn (off := 1353) (tgt := 1386) C.hx C.hb dl_33 h1 h2 (by rw [hk]; rfl) rfl (kc_when C hL hn hl hd kk)
    | 38, hk, _ => exact lv_tableIn (off := 1396) (tgt := 1429) C.hx C.hb dl_33 h1 h2 (by rw [hk]; rfl) rfl (kc_since C hL hn hl hd kk)
    | 39, hk, _ => exact lv_tableIn (off := 1429) (tgt := 1462) C.hx C.hb dl_33 h1 h2 (by rw [hk]; rfl) rfl (kc_keep C hL hn hl hd kk)
    | 40, hk, _ => exact lv_tableIn (off := 1452) (tgt := 1485) C.hx C.hb dl_33 h1 h2 (by rw [hk]; rfl) rfl (kc_again C hL hn hl hd kk)
    | 41, hk, _ => exact lv_tableIn (off := 1475) (tgt := 1508) C.hx C.hb dl_33 h1 h2 (by rw [hk]; rfl) rfl (kc_count C hL hn hl hd kk)
    | k + 42, hk, hk2 => exact absurd hk2 (by omega)
set_option maxHeartbeats 4000000 in
theorem kw_loop (C : kw_C p s m c b L xs D cA adX adN) (hL : L ≤ 3072) (hr : meth.sig.returnType = ret) (hlocks : meth.locks = false) : ∀ (k n : Nat), L ≤ n + k → n ≤ L + 6 → ∀ (S : ff_S) (H : Heap) (locs : List Loc) (ls : Array Slot), lv_has ls 4 (kw_l adX adN b n) → kw_D s D cA adX adN S H locs → W p l e room_1 s m #[Value.ref b] below meth c H locs 39 23797 (lw_Z below #[Value.ref b] s) (F0 m 18 ls []) := by
  intro k
  induction k with
  | zero =>
    intro n hk hn S H locs ls hl hd
    obtain ⟨MX, MN, hPX, hPN, hmX, hmN, eX, eN, hI, hS⟩ := id hd
    refine lv_iload_n C.hx C.hb dl_18 rfl (lv_at hl 0 rfl) ?_
    refine lv_aload_n C.hx C.hb dl_19 rfl (lv_at hl 3 rfl) ?_
    refine va_slen C.hx C.hb C.hX C.hbl (fun h => absurd C.hbl (Nat.not_lt.mpr h)) hS dl_20 ?_
    refine lv_bipush (v := 6) C.hx C.hb dl_21 (by decide) ?_
    refine lv_isub C.hx C.hb dl_23 ?_
    refine lv_icmp_gt (tgt := 1537) C.hx C.hb dl_24 rfl (fun _ => ?_) (fun h => absurd ?_ h)
    · refine lv_iconst (v := 1) C.hx C.hb dl_1537 (by decide) ?_
      refine va_forget (fun q hq => hS.2.2 q hq) ?_
      exact lw_ret C.hx C.hb hr hlocks dl_1538
    · rw [← Int32.ofInt_eq_ofNat, show (6 : Int32) = Int32.ofInt 6 from rfl, ← Int32.ofInt_sub]
      exact (ez_lt (by unfold ez_ri; omega) (by unfold ez_ri; omega)).mpr (by omega)
  | succ k ih =>
    intro n hk hn S H locs ls hl hd
    obtain ⟨MX, MN, hPX, hPN, hmX, hmN, eX, eN, hI, hS⟩ := id hd
    refine lv_iload_n C.hx C.hb dl_18 rfl (lv_at hl 0 rfl) ?_
    refine lv_aload_n C.hx C.hb dl_19 rfl (lv_at hl 3 rfl) ?_
    refine va_slen C.hx C.hb C.hX C.hbl (fun h => absurd C.hbl (Nat.not_lt.mpr h)) hS dl_20 ?_
    refine lv_bipush (v := 6) C.hx C.hb dl_21 (by decide) ?_
    refine lv_isub C.hx C.hb dl_23 ?_
    rw [← Int32.ofInt_eq_ofNat, show (6 : Int32) = Int32.ofInt 6 from rfl, ← Int32.ofInt_sub]
    refine lv_icmp_gt (tgt := 1537) C.hx C.hb dl_24 rfl (fun _ => ?_) (fun h => ?_)
    · refine lv_iconst (v := 1) C.hx C.hb dl_1537 (by decide) ?_
      refine va_forget (fun q hq => hS.2.2 q hq) ?_
      exact lw_ret C.hx C.hb hr hlocks dl_1538
    · have hr0 : ez_ri (n : Int) := by
        unfold ez_ri
        omega
      rw [ez_lt (by unfold ez_ri; omega) hr0] at h
      have hn6 : n + 6 ≤ L := by omega
      refine lv_aload_n C.hx C.hb dl_27 rfl (lv_at hl 3 rfl) ?_
      refine lv_iload_n C.hx C.hb dl_28 rfl (lv_at hl 0 rfl) ?_
      refine va_sld C.hx C.hb C.hX C.hbl (fun h => absurd C.hbl (Nat.not_lt.mpr h)) hS (ez_vin (n := L) hr0 (by omega) (by omega)) dl_29 ?_
      refine lv_bipush (v := 63) C.hx C.hb dl_30 (by decide) ?_
      refine lv_iand C.hx C.hb dl_32 ?_
      refine kw_turn _ C hL hn6 hl hd (fun S' H' locs' hd' => ?_)
      refine lv_iinc (v := Int32.ofInt ((n + 6 : Nat) : Int)) C.hx C.hb dl_1531 hl (k := 0) rfl (by rw [← Int32.ofInt_add]; rfl) (by decide) rfl (fun ls hl => ?_)
      refine lv_goto (tgt := 18) C.hx C.hb dl_1534 rfl ?_
      exact ih (n + 6) (by omega) (by omega) S' H' locs' ls hl hd'
end KL
set_option maxHeartbeats 4000000 in
/-- THE LAW, from its entry -/
theorem whole_start {p : Program} {e : Env} {s : State} {m : MethodId} {below : List Frame} {meth : Method} {c : Code} (l : Launch) (hflags : l.flags = flags0) {b L : Nat} {xs : Nat → Int32} (hL : L ≤ 3072) (C0 : lw_At p s m meth c b L xs) : W p l e room_1 s m #[Value.ref b] below meth c s.heap [] 0 0 (lw_Z below #[Value.ref b] s) (entryFrame m ([Value.ref b] : List Value).toArray 4) := by
  obtain ⟨hx, hb, hr, hml, hown, htbl, hX, hbl, hlocks, hgv⟩ := id C0
  have hts : ∀ w ∈ ez_TW, w.before #[Value.ref b] s = true := fun w hw => htbl w (List.mem_filter.mp hw).1
  have hnw := kw_nw htbl
  obtain ⟨D, cA, hK⟩ := kw_K hts
  have hA : ∀ q : Nat, s.heap.size ≤ q → kw_A s q := fun _ h => h
  have hS : va_S (kw_A s) s.heap s.heap [] := va_S.rf
  have hP : va_P D vwCl [] s.heap := fun k q h => by simp at h
  have hD : va_D (kw_A s) [] := ⟨fun i j p q h => by simp at h, fun k q h => by simp at h⟩
  have hl := lv_entry ([.ref b]) (n := 4) (Nat.le_of_ble_eq_true rfl)
  rw [lg_entry_eq]
  generalize (lg_sl ([.ref b]) ++ List.replicate (4 - (lg_sl ([.ref b])).length) Slot.unset).toArray = ls at hl ⊢
  have hl : lv_has ls 4 [(0, .ref b)] := hl
  refine kz_make (R := room_1) (N := 10) (T := TX5) hx hown hts hnw hK ci_X5_init q_85 q_72 ⟨by decide +kernel, by decide +kernel, by decide +kernel⟩ (Or.inl q_83) q_84 rfl rfl inTW_X5 tyX5 tyX5_ok q_81 q_82 (fun j hj => by rcases (show j = 0 ∨ j = 1 ∨ j = 2 ∨ j = 3 ∨ j = 4 ∨ j = 5 ∨ j = 6 ∨ j = 7 ∨ j = 8 ∨ j = 9 by omega) with rfl | rfl | rfl | rfl | rfl | rfl | rfl | rfl | rfl | rfl <;> rfl) ⟨by decide, by decide⟩ ⟨by decide, by decide⟩ hP hD hS hA (by rw [hml]; exact hl.1) (Nat.le_of_ble_eq_true rfl) (by rw [hb]; exact dl_0) (by rw [hb]; exact dl_3) (by rw [hb]; exact dl_4) (fun q W1 H locs hpo hP hD hS => ?_)
  obtain ⟨adX, hqX, hWX⟩ := hpo
  rw [hWX, List.nil_append] at hP hD
  clear hWX
  subst hqX
  refine W.eq (g2 := F0 m 7 ls [.ref (adX 0)]) rfl ?_
  refine lv_astore_n (lv' := [(1, .ref (adX 0)), (0, .ref b)]) hx hb dl_7 rfl hl (by decide) rfl (fun ls hl => ?_)
  refine kz_make (R := room_1) (N := 28) (T := TX6) hx hown hts hnw hK ci_X6_init q_664 q_78 ⟨by decide +kernel, by decide +kernel, by decide +kernel⟩ (Or.inl q_662) q_663 rfl rfl inTW_X6 tyX6 tyX6_ok q_660 q_661 (fun j hj => by rcases (show j = 0 ∨ j = 1 ∨ j = 2 ∨ j = 3 ∨ j = 4 ∨ j = 5 ∨ j = 6 ∨ j = 7 ∨ j = 8 ∨ j = 9 ∨ j = 10 ∨ j = 11 ∨ j = 12 ∨ j = 13 ∨ j = 14 ∨ j = 15 ∨ j = 16 ∨ j = 17 ∨ j = 18 ∨ j = 19 ∨ j = 20 ∨ j = 21 ∨ j = 22 ∨ j = 23 ∨ j = 24 ∨ j = 25 ∨ j = 26 ∨ j = 27 by omega) with rfl | rfl | rfl | rfl | rfl | rfl | rfl | rfl | rfl | rfl | rfl | rfl | rfl | rfl | rfl | rfl | rfl | rfl | rfl | rfl | rfl | rfl | rfl | rfl | rfl | rfl | rfl | rfl <;> rfl) ⟨by decide, by decide⟩ ⟨by decide, by decide⟩ hP hD hS hA (by rw [hml]; exact hl.1) (Nat.le_of_ble_eq_true rfl) (by rw [hb]; exact dl_8) (by rw [hb]; exact dl_11) (by rw [hb]; exact dl_12) (fun q W1 H locs hpo hP hD hS => ?_)
  obtain ⟨adN, hqN, hWN⟩ := hpo
  rw [hWN] at hP hD
  clear hWN
  subst hqN
  refine W.eq (g2 := F0 m 15 ls [.ref (adN 0)]) rfl ?_
  refine lv_astore_n (lv' := [(2, .ref (adN 0)), (1, .ref (adX 0)), (0, .ref b)]) hx hb dl_15 rfl hl (by decide) rfl (fun ls hl => ?_)
  refine lv_iconst (v := 0) hx hb dl_16 (by decide) ?_
  refine lv_istore_n (lv' := kw_l adX adN b 0) hx hb dl_17 rfl hl (by decide) rfl (fun ls hl => ?_)
  refine W.widen (k := 39) (n := 23797) (Nat.le_of_ble_eq_true rfl) (Nat.le_of_ble_eq_true rfl) ?_
  obtain ⟨⟨hPX, hPN⟩, ⟨hDX, hDN⟩, hap⟩ := kw_split hP hD
  have C : kw_C p s m c b L xs D cA adX adN := ⟨hx, hb, hml, hown, hts, hnw, hK, hX, hbl, kw_DA hDX, kw_DA hDN, kw_AA hDX, kw_AA hDN, fun M k x hk hz => by
    obtain ⟨i, y, hy, ey⟩ := kw_has cA ff_M0X hz
    obtain ⟨j, z, hz2, ez⟩ := kw_has cA ff_M0N ⟨k, (kw_at hk).1, (kw_at hk).2⟩
    exact hap i j y z hy hz2 (by rw [ey, ez]), fun M k x hk hz => by
    obtain ⟨i, y, hy, ey⟩ := kw_has cA ff_M0X ⟨k, (kw_at hk).1, (kw_at hk).2⟩
    obtain ⟨j, z, hz2, ez⟩ := kw_has cA ff_M0N hz
    exact hap i j y z hy hz2 (by rw [ey, ez])⟩
  exact kw_loop C hL hr hlocks L 0 (by omega) (by omega) (ff_X ff_M0X) H locs ls hl ⟨ff_M0X, ff_M0N, hPX, hPN, ff_M0X_ok, ff_M0N_ok, rfl, ff_M0_eq.symm, ff_M0_Inv, hS⟩

