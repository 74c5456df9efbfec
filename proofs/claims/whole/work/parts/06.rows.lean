/-! ===== numbers ===== -/
theorem ez_i {x : Int} (h : ez_ri x) : (Int32.ofInt x).toInt = x := Int32.toInt_ofInt_of_le (by have := h.1; omega) (by have := h.2; omega)
theorem ez_l {x : Int} (h : ez_rl x) : (Int64.ofInt x).toInt = x := Int64.toInt_ofInt_of_le (by have := h.1; omega) (by have := h.2; omega)
theorem ez_ir (a : Int32) : ez_ri a.toInt := ⟨by have := a.le_toInt; omega, by have := a.toInt_lt; omega⟩
theorem ez_lr (a : Int64) : ez_rl a.toInt := ⟨by have := a.le_toInt; omega, by have := a.toInt_lt; omega⟩
theorem ez_r0 : ez_ri 0 := ⟨by decide, by decide⟩
theorem ez_of32 (a : Int32) : Int32.ofInt a.toInt = a := Int32.ofInt_toInt a
theorem ez_of64 (a : Int64) : Int64.ofInt a.toInt = a := Int64.ofInt_toInt a
theorem ez_lt {x y : Int} (hx : ez_ri x) (hy : ez_ri y) : Int32.ofInt x < Int32.ofInt y ↔ x < y := by rw [Int32.lt_iff_toInt_lt, ez_i hx, ez_i hy]
theorem ez_le {x y : Int} (hx : ez_ri x) (hy : ez_ri y) : Int32.ofInt x ≤ Int32.ofInt y ↔ x ≤ y := by rw [Int32.le_iff_toInt_le, ez_i hx, ez_i hy]
theorem ez_eq {x y : Int} (hx : ez_ri x) (hy : ez_ri y) : Int32.ofInt x = Int32.ofInt y ↔ x = y := by rw [← Int32.toInt_inj, ez_i hx, ez_i hy]
theorem ez_eql {x y : Int} (hx : ez_rl x) (hy : ez_rl y) : Int64.ofInt x = Int64.ofInt y ↔ x = y := by rw [← Int64.toInt_inj, ez_l hx, ez_l hy]
theorem ez_z : (0 : Int32) = Int32.ofInt 0 := rfl
theorem ez_div {x y : Int} (hx : ez_ri x) (hy : ez_ri y) : Int32.ofInt x / Int32.ofInt y = Int32.ofInt (Int.tdiv x y) := Int32.toInt_inj.1 (by rw [Int32.toInt_div, ez_i hx, ez_i hy, Int32.toInt_ofInt])
theorem ez_rem {x y : Int} (hx : ez_ri x) (hy : ez_ri y) : Int32.ofInt x - Int32.ofInt x / Int32.ofInt y * Int32.ofInt y = Int32.ofInt (Int.tmod x y) := by
  rw [ez_div hx hy, Int.tmod_def, Int32.ofInt_sub, Int32.ofInt_mul, Int32.mul_comm]
theorem ez_ldiv {x y : Int} (hx : ez_rl x) (hy : ez_rl y) : Int64.ofInt x / Int64.ofInt y = Int64.ofInt (Int.tdiv x y) := Int64.toInt_inj.1 (by rw [Int64.toInt_div, ez_l hx, ez_l hy, Int64.toInt_ofInt])
theorem ez_lrem {x y : Int} (hx : ez_rl x) (hy : ez_rl y) : Int64.ofInt x - Int64.ofInt x / Int64.ofInt y * Int64.ofInt y = Int64.ofInt (Int.tmod x y) := by
  rw [ez_ldiv hx hy, Int.tmod_def, Int64.ofInt_sub, Int64.ofInt_mul, Int64.mul_comm]
theorem ez_i2l {x : Int} (hx : ez_ri x) : (Int32.ofInt x).toInt64 = Int64.ofInt x := Int64.toInt_inj.1 (by rw [Int32.toInt_toInt64, ez_i hx, ez_l ⟨by have := hx.1; omega, by have := hx.2; omega⟩])
theorem ez_i2l_r {x : Int} (hx : ez_ri x) : ez_rl x := ⟨by have := hx.1; omega, by have := hx.2; omega⟩
theorem ez_tmod_le (x y : Int) : (Int.tmod x y).natAbs ≤ x.natAbs := by
  rw [Int.natAbs_tmod]
  exact Nat.mod_le _ _
theorem ez_ll {x y : Int} (hx : ez_rl x) (hy : ez_rl y) : Int64.ofInt x < Int64.ofInt y ↔ x < y := by rw [Int64.lt_iff_toInt_lt, ez_l hx, ez_l hy]
theorem ez_ne0 {y : Int} (hy : ez_ri y) (h : ¬ y = 0) : ¬ Int32.ofInt y = 0 := fun q => h ((ez_eq hy ez_r0).mp q)
theorem ez_ne0l {y : Int} (hy : ez_rl y) (h : ¬ y = 0) : ¬ Int64.ofInt y = 0 := fun q => h ((ez_eql hy ⟨by decide, by decide⟩).mp q)
theorem ez_byte {n : Int} (h : n.natAbs < 128) : (Int8.ofInt n).toInt32 = Int32.ofInt n := Int32.toInt_inj.1 (by
  rw [Int8.toInt_toInt32, Int8.toInt_ofInt_of_le (by omega) (by omega), ez_i ⟨by omega, by omega⟩])
theorem ez_shrt {n : Int} (h : n.natAbs < 32768) : (Int16.ofInt n).toInt32 = Int32.ofInt n := Int32.toInt_inj.1 (by
  rw [Int16.toInt_toInt32, Int16.toInt_ofInt_of_le (by omega) (by omega), ez_i ⟨by omega, by omega⟩])
theorem ez_vin {i : Int} {n : Nat} (hi : ez_ri i) (h0 : 0 ≤ i) (h1 : i < (n : Int)) : vp_in (Int32.ofInt i) n := vp_in_iff.mpr (by rw [ez_i hi]; exact ⟨h0, h1⟩)
theorem ez_nat {i : Int} (hi : ez_ri i) : (Int32.ofInt i).toNatClampNeg = i.toNat := by
  show (Int32.ofInt i).toInt.toNat = _
  rw [ez_i hi]
theorem ez_tg {pc : Nat} {off : Int} (h : ez_tgtok pc off = true) : (pc : Int) + off = ((ez_tgt pc off : Nat) : Int) := by
  unfold ez_tgtok at h
  unfold ez_tgt
  show Int.add (Int.ofNat pc) off = _
  split at h <;> rename_i he
  · rw [he]; rfl
  · cases h
theorem ez_cat2 (ad : Nat → Nat) (v : ez_V) : ((ez_cv ad v).category == 2) = ez_is2 v := by
  rcases v with x | x | x <;> rfl
theorem ez_sum_eq (ad : Nat → Nat) : ∀ r : List ez_V, ((r.map (ez_cv ad)).map fun v => v.category).sum = ez_sum r
  | [] => rfl
  | v :: r => by
    simp only [List.map_cons, List.sum_cons, ez_sum, ez_sum_eq ad r]
    rcases v with x | x | x <;> rfl
theorem ez_st1_map (ad : Nat → Nat) (i : Nat) (v : ez_V) (ls : ez_Ls) : (i, ez_cv ad v) :: (ls.map (fun q => (q.1, ez_cv ad q.2))).filter (fun q => !(q.1 == i) && !(q.1 + 1 == i && q.2.category == 2)) = (ez_st1 i v ls).map (fun q => (q.1, ez_cv ad q.2)) := by
  unfold ez_st1
  rw [List.map_cons, List.filter_map]
  congr 2
  apply List.filter_congr
  intro q _
  simp only [Function.comp, ez_cat2]
theorem ez_st2_map (ad : Nat → Nat) (i : Nat) (v : ez_V) (ls : ez_Ls) : (i, ez_cv ad v) :: (ls.map (fun q => (q.1, ez_cv ad q.2))).filter (fun q => !(q.1 == i) && (!(q.1 == i + 1) && !(q.1 + 1 == i && q.2.category == 2))) = (ez_st2 i v ls).map (fun q => (q.1, ez_cv ad q.2)) := by
  unfold ez_st2
  rw [List.map_cons, List.filter_map]
  congr 2
  apply List.filter_congr
  intro q _
  simp only [Function.comp, ez_cat2]
theorem ez_st1_ok {n i : Nat} {v : ez_V} {ls : ez_Ls} (h : ∀ q ∈ ls, ez_ok n q.2) (hv : ez_ok n v) : ∀ q ∈ ez_st1 i v ls, ez_ok n q.2 := by
  intro q hq
  rcases List.mem_cons.mp hq with rfl | hq
  · exact hv
  · exact h q (List.mem_filter.mp hq).1
theorem ez_st2_ok {n i : Nat} {v : ez_V} {ls : ez_Ls} (h : ∀ q ∈ ls, ez_ok n q.2) (hv : ez_ok n v) : ∀ q ∈ ez_st2 i v ls, ez_ok n q.2 := by
  intro q hq
  rcases List.mem_cons.mp hq with rfl | hq
  · exact hv
  · exact h q (List.mem_filter.mp hq).1
theorem ez_lk_at {ad : Nat → Nat} {lsC : Array Slot} {nL i : Nat} {ls : ez_Ls} {v : ez_V} (hl : lv_has lsC nL (ls.map (fun q => (q.1, ez_cv ad q.2)))) (h : ez_lk i ls = some v) : lsC[i]? = some (.val (ez_cv ad v)) :=
  hl.2.2 (i, ez_cv ad v) (List.mem_map.mpr ⟨(i, v), ez_lk_mem h, rfl⟩)
theorem ez_mok_up {L : ez_L} {M : ez_M} {q k : Nat} {x : Int} (h : ez_mok L M) (hx : match ez_nth L q with
  | some (.inl (1, _)) => ez_rl x
  | _ => ez_ri x) : ez_mok L (ez_up M q k x) := by
  intro i j
  have h1 := h i j
  unfold ez_up
  by_cases hq : i = q ∧ j = k
  · obtain ⟨rfl, rfl⟩ := hq
    simp only [and_self, if_true]
    exact hx
  · simp only [if_neg hq]
    exact h1
theorem ez_cons_ok {n : Nat} {v : ez_V} {st : List ez_V} (hv : ez_ok n v) (h : ∀ w ∈ st, ez_ok n w) : ∀ w ∈ v :: st, ez_ok n w := by
  intro w hw
  rcases List.mem_cons.mp hw with rfl | hw
  · exact hv
  · exact h w hw
theorem ez_hd {n : Nat} {v : ez_V} {st : List ez_V} (h : ∀ w ∈ v :: st, ez_ok n w) : ez_ok n v := h v List.mem_cons_self
theorem ez_tl {n : Nat} {v : ez_V} {st : List ez_V} (h : ∀ w ∈ v :: st, ez_ok n w) : ∀ w ∈ st, ez_ok n w := fun w hw => h w (List.mem_cons_of_mem _ hw)
def ez_RetOK (meth : Method) : Nat → Prop
  | 0 => meth.sig.returnType = some .int
  | 1 => meth.sig.returnType = some .boolean
  | 2 => meth.sig.returnType = some .long
  | 3 => meth.sig.returnType = none
  | _ => ∃ n, meth.sig.returnType = some (.object n)

section EZS
variable {p : Program} {l : Launch} {e : Env} {s : State} {m : MethodId} {args : Array Value} {below : List Frame} {meth : Method} {c : Code}
variable {L : ez_L} {D : va_G} {cA : Nat → ClassId} {ad : Nat → Nat} {Q : Option ez_V → ez_M → Prop} {own : String} {E : ez_E} {d : Nat} {K : Nat → ez_Ls → List ez_V → ez_M → Prop} {pc : Nat} {ls : ez_Ls} {st : List ez_V} {M : ez_M}

set_option maxHeartbeats 4000000 in
theorem ez_s_iconst {n : Int} (hx : p.tables.exec = Jvm.exec) (hgo : ∀ pc ls st M, K pc ls st M → ez_AW p l e { frames := d, cells := 0, slots := 0, locals := 36 * d } s m args below meth c L D cA ad Q pc ls st M)  (hdg : decode c.code pc = .ok (.iconst n, 1)) (h : ez_step L E K Q pc ls st M (.iconst n)) : ez_AW p l e { frames := d, cells := 0, slots := 0, locals := 36 * d } s m args below meth c L D cA ad Q pc ls st M := by
  intro hls hst hM H locs lsC hP hD hS hl
  dsimp only [ez_step] at h
  split at h
  · rename_i hn
    have hn := Nat.le_of_ble_eq_true hn
    refine lv_iconst (v := Int32.ofInt n) hx rfl hdg rfl ?_
    exact hgo _ _ _ _ h hls (ez_cons_ok (v := .inl n) ⟨by omega, by omega⟩ hst) hM H locs lsC hP hD hS hl
  · exact h.elim
set_option maxHeartbeats 4000000 in
theorem ez_s_bipush {n : Int} (hx : p.tables.exec = Jvm.exec) (hgo : ∀ pc ls st M, K pc ls st M → ez_AW p l e { frames := d, cells := 0, slots := 0, locals := 36 * d } s m args below meth c L D cA ad Q pc ls st M)  (hdg : decode c.code pc = .ok (.bipush n, 2)) (h : ez_step L E K Q pc ls st M (.bipush n)) : ez_AW p l e { frames := d, cells := 0, slots := 0, locals := 36 * d } s m args below meth c L D cA ad Q pc ls st M := by
  intro hls hst hM H locs lsC hP hD hS hl
  dsimp only [ez_step] at h
  split at h
  · rename_i hn
    have hn : n.natAbs < 128 := Nat.le_of_ble_eq_true hn
    refine lv_bipush (v := Int32.ofInt n) hx rfl hdg (ez_byte hn) ?_
    exact hgo _ _ _ _ h hls (ez_cons_ok (v := .inl n) ⟨by omega, by omega⟩ hst) hM H locs lsC hP hD hS hl
  · exact h.elim
set_option maxHeartbeats 4000000 in
theorem ez_s_sipush {n : Int} (hx : p.tables.exec = Jvm.exec) (hgo : ∀ pc ls st M, K pc ls st M → ez_AW p l e { frames := d, cells := 0, slots := 0, locals := 36 * d } s m args below meth c L D cA ad Q pc ls st M)  (hdg : decode c.code pc = .ok (.sipush n, 3)) (h : ez_step L E K Q pc ls st M (.sipush n)) : ez_AW p l e { frames := d, cells := 0, slots := 0, locals := 36 * d } s m args below meth c L D cA ad Q pc ls st M := by
  intro hls hst hM H locs lsC hP hD hS hl
  dsimp only [ez_step] at h
  split at h
  · rename_i hn
    have hn : n.natAbs < 32768 := Nat.le_of_ble_eq_true hn
    refine lv_sipush (v := Int32.ofInt n) hx rfl hdg (ez_shrt hn) ?_
    exact hgo _ _ _ _ h hls (ez_cons_ok (v := .inl n) ⟨by omega, by omega⟩ hst) hM H locs lsC hP hD hS hl
  · exact h.elim
set_option maxHeartbeats 4000000 in
theorem ez_s_lconst {n : Fin 2} (hx : p.tables.exec = Jvm.exec) (hgo : ∀ pc ls st M, K pc ls st M → ez_AW p l e { frames := d, cells := 0, slots := 0, locals := 36 * d } s m args below meth c L D cA ad Q pc ls st M)  (hdg : decode c.code pc = .ok (.lconst n, 1)) (h : ez_step L E K Q pc ls st M (.lconst n)) : ez_AW p l e { frames := d, cells := 0, slots := 0, locals := 36 * d } s m args below meth c L D cA ad Q pc ls st M := by
  intro hls hst hM H locs lsC hP hD hS hl
  dsimp only [ez_step] at h
  refine lv_lconst (v := Int64.ofInt ((n.val : Nat) : Int)) hx rfl hdg (Int64.ofInt_eq_ofNat.symm) ?_
  have hn := n.isLt
  exact hgo _ _ _ _ h hls (ez_cons_ok (v := .inr (.inl _)) ⟨by omega, by omega⟩ hst) hM H locs lsC hP hD hS hl
set_option maxHeartbeats 4000000 in
theorem ez_s_ldc_w {i : Nat} (hx : p.tables.exec = Jvm.exec) (hgo : ∀ pc ls st M, K pc ls st M → ez_AW p l e { frames := d, cells := 0, slots := 0, locals := 36 * d } s m args below meth c L D cA ad Q pc ls st M) (hown : s.vm.findClass own = some m.cls) (hts : ∀ w ∈ ez_TW, w.before args s = true) (hCo : ∀ q ∈ E.2.1, ez_ConOK own q) (hdg : decode c.code pc = .ok (.ldc_w i, 3)) (h : ez_step L E K Q pc ls st M (.ldc_w i)) : ez_AW p l e { frames := d, cells := 0, slots := 0, locals := 36 * d } s m args below meth c L D cA ad Q pc ls st M := by
  intro hls hst hM H locs lsC hP hD hS hl
  dsimp only [ez_step] at h
  split at h
  · rename_i v hv
    have hc := (hCo _ (ez_lk_mem hv) i).1 rfl
    refine lv_ldcw (v := Int32.ofInt v) hx rfl hown (hts _ hc.2) hdg ?_
    exact hgo _ _ _ _ h hls (ez_cons_ok (v := .inl v) hc.1 hst) hM H locs lsC hP hD hS hl
  · exact h.elim
set_option maxHeartbeats 4000000 in
theorem ez_s_ldc2_w {i : Nat} (hx : p.tables.exec = Jvm.exec) (hgo : ∀ pc ls st M, K pc ls st M → ez_AW p l e { frames := d, cells := 0, slots := 0, locals := 36 * d } s m args below meth c L D cA ad Q pc ls st M) (hown : s.vm.findClass own = some m.cls) (hts : ∀ w ∈ ez_TW, w.before args s = true) (hCo : ∀ q ∈ E.2.1, ez_ConOK own q) (hdg : decode c.code pc = .ok (.ldc2_w i, 3)) (h : ez_step L E K Q pc ls st M (.ldc2_w i)) : ez_AW p l e { frames := d, cells := 0, slots := 0, locals := 36 * d } s m args below meth c L D cA ad Q pc ls st M := by
  intro hls hst hM H locs lsC hP hD hS hl
  dsimp only [ez_step] at h
  split at h
  · rename_i v hv
    have hc := (hCo _ (ez_lk_mem hv) i).2 rfl
    refine lv_ldc2 (v := Int64.ofInt v) hx rfl hown (hts _ hc.2) hdg ?_
    exact hgo _ _ _ _ h hls (ez_cons_ok (v := .inr (.inl v)) hc.1 hst) hM H locs lsC hP hD hS hl
  · exact h.elim
set_option maxHeartbeats 4000000 in
theorem ez_s_iload {i : Nat} (hx : p.tables.exec = Jvm.exec) (hgo : ∀ pc ls st M, K pc ls st M → ez_AW p l e { frames := d, cells := 0, slots := 0, locals := 36 * d } s m args below meth c L D cA ad Q pc ls st M)  (hdg : decode c.code pc = .ok (.iload i, 2)) (h : ez_step L E K Q pc ls st M (.iload i)) : ez_AW p l e { frames := d, cells := 0, slots := 0, locals := 36 * d } s m args below meth c L D cA ad Q pc ls st M := by
  intro hls hst hM H locs lsC hP hD hS hl
  dsimp only [ez_step] at h
  split at h
  · rename_i x hv
    refine lv_iload hx rfl hdg (ez_lk_at hl hv) ?_
    exact hgo _ _ _ _ h hls (ez_cons_ok (v := .inl x) (hls _ (ez_lk_mem hv)) hst) hM H locs lsC hP hD hS hl
  · exact h.elim
set_option maxHeartbeats 4000000 in
theorem ez_s_iload_n {i : Fin 4} (hx : p.tables.exec = Jvm.exec) (hgo : ∀ pc ls st M, K pc ls st M → ez_AW p l e { frames := d, cells := 0, slots := 0, locals := 36 * d } s m args below meth c L D cA ad Q pc ls st M)  (hdg : decode c.code pc = .ok (.iload_n i, 1)) (h : ez_step L E K Q pc ls st M (.iload_n i)) : ez_AW p l e { frames := d, cells := 0, slots := 0, locals := 36 * d } s m args below meth c L D cA ad Q pc ls st M := by
  intro hls hst hM H locs lsC hP hD hS hl
  dsimp only [ez_step] at h
  split at h
  · rename_i x hv
    refine lv_iload_n hx rfl hdg rfl (ez_lk_at hl hv) ?_
    exact hgo _ _ _ _ h hls (ez_cons_ok (v := .inl x) (hls _ (ez_lk_mem hv)) hst) hM H locs lsC hP hD hS hl
  · exact h.elim
set_option maxHeartbeats 4000000 in
theorem ez_s_lload {i : Nat} (hx : p.tables.exec = Jvm.exec) (hgo : ∀ pc ls st M, K pc ls st M → ez_AW p l e { frames := d, cells := 0, slots := 0, locals := 36 * d } s m args below meth c L D cA ad Q pc ls st M)  (hdg : decode c.code pc = .ok (.lload i, 2)) (h : ez_step L E K Q pc ls st M (.lload i)) : ez_AW p l e { frames := d, cells := 0, slots := 0, locals := 36 * d } s m args below meth c L D cA ad Q pc ls st M := by
  intro hls hst hM H locs lsC hP hD hS hl
  dsimp only [ez_step] at h
  split at h
  · rename_i x hv
    refine lv_lload hx rfl hdg (ez_lk_at hl hv) ?_
    exact hgo _ _ _ _ h hls (ez_cons_ok (v := .inr (.inl x)) (hls _ (ez_lk_mem hv)) hst) hM H locs lsC hP hD hS hl
  · exact h.elim
set_option maxHeartbeats 4000000 in
theorem ez_s_lload_n {i : Fin 4} (hx : p.tables.exec = Jvm.exec) (hgo : ∀ pc ls st M, K pc ls st M → ez_AW p l e { frames := d, cells := 0, slots := 0, locals := 36 * d } s m args below meth c L D cA ad Q pc ls st M)  (hdg : decode c.code pc = .ok (.lload_n i, 1)) (h : ez_step L E K Q pc ls st M (.lload_n i)) : ez_AW p l e { frames := d, cells := 0, slots := 0, locals := 36 * d } s m args below meth c L D cA ad Q pc ls st M := by
  intro hls hst hM H locs lsC hP hD hS hl
  dsimp only [ez_step] at h
  split at h
  · rename_i x hv
    refine lv_lload_n hx rfl hdg rfl (ez_lk_at hl hv) ?_
    exact hgo _ _ _ _ h hls (ez_cons_ok (v := .inr (.inl x)) (hls _ (ez_lk_mem hv)) hst) hM H locs lsC hP hD hS hl
  · exact h.elim
set_option maxHeartbeats 4000000 in
theorem ez_s_aload {i : Nat} (hx : p.tables.exec = Jvm.exec) (hgo : ∀ pc ls st M, K pc ls st M → ez_AW p l e { frames := d, cells := 0, slots := 0, locals := 36 * d } s m args below meth c L D cA ad Q pc ls st M)  (hdg : decode c.code pc = .ok (.aload i, 2)) (h : ez_step L E K Q pc ls st M (.aload i)) : ez_AW p l e { frames := d, cells := 0, slots := 0, locals := 36 * d } s m args below meth c L D cA ad Q pc ls st M := by
  intro hls hst hM H locs lsC hP hD hS hl
  dsimp only [ez_step] at h
  split at h
  · rename_i x hv
    refine lv_aload hx rfl hdg (ez_lk_at hl hv) ?_
    exact hgo _ _ _ _ h hls (ez_cons_ok (v := .inr (.inr x)) (hls _ (ez_lk_mem hv)) hst) hM H locs lsC hP hD hS hl
  · exact h.elim
set_option maxHeartbeats 4000000 in
theorem ez_s_aload_n {i : Fin 4} (hx : p.tables.exec = Jvm.exec) (hgo : ∀ pc ls st M, K pc ls st M → ez_AW p l e { frames := d, cells := 0, slots := 0, locals := 36 * d } s m args below meth c L D cA ad Q pc ls st M)  (hdg : decode c.code pc = .ok (.aload_n i, 1)) (h : ez_step L E K Q pc ls st M (.aload_n i)) : ez_AW p l e { frames := d, cells := 0, slots := 0, locals := 36 * d } s m args below meth c L D cA ad Q pc ls st M := by
  intro hls hst hM H locs lsC hP hD hS hl
  dsimp only [ez_step] at h
  split at h
  · rename_i x hv
    refine lv_aload_n hx rfl hdg rfl (ez_lk_at hl hv) ?_
    exact hgo _ _ _ _ h hls (ez_cons_ok (v := .inr (.inr x)) (hls _ (ez_lk_mem hv)) hst) hM H locs lsC hP hD hS hl
  · exact h.elim
set_option maxHeartbeats 4000000 in
theorem ez_s_istore {i : Nat} (hx : p.tables.exec = Jvm.exec) (hgo : ∀ pc ls st M, K pc ls st M → ez_AW p l e { frames := d, cells := 0, slots := 0, locals := 36 * d } s m args below meth c L D cA ad Q pc ls st M) (hml : c.maxLocals = E.2.2.2.2) (hdg : decode c.code pc = .ok (.istore i, 2)) (h : ez_step L E K Q pc ls st M (.istore i)) : ez_AW p l e { frames := d, cells := 0, slots := 0, locals := 36 * d } s m args below meth c L D cA ad Q pc ls st M := by
  intro hls hst hM H locs lsC hP hD hS hl
  dsimp only [ez_step] at h
  split at h
  · rename_i x r hn
    have hn : i < c.maxLocals := by rw [hml]; exact Nat.le_of_ble_eq_true hn
    refine lv_istore hx rfl hdg hl hn (ez_st1_map ad i (.inl x) ls) (fun lsC hl => ?_)
    exact hgo _ _ _ _ h (ez_st1_ok hls (ez_hd hst)) (ez_tl hst) hM H locs lsC hP hD hS hl
  · exact h.elim
set_option maxHeartbeats 4000000 in
theorem ez_s_istore_n {i : Fin 4} (hx : p.tables.exec = Jvm.exec) (hgo : ∀ pc ls st M, K pc ls st M → ez_AW p l e { frames := d, cells := 0, slots := 0, locals := 36 * d } s m args below meth c L D cA ad Q pc ls st M) (hml : c.maxLocals = E.2.2.2.2) (hdg : decode c.code pc = .ok (.istore_n i, 1)) (h : ez_step L E K Q pc ls st M (.istore_n i)) : ez_AW p l e { frames := d, cells := 0, slots := 0, locals := 36 * d } s m args below meth c L D cA ad Q pc ls st M := by
  intro hls hst hM H locs lsC hP hD hS hl
  dsimp only [ez_step] at h
  split at h
  · rename_i x r hn
    have hn : i.val < c.maxLocals := by rw [hml]; exact Nat.le_of_ble_eq_true hn
    refine lv_istore_n hx rfl hdg rfl hl hn (ez_st1_map ad i.val (.inl x) ls) (fun lsC hl => ?_)
    exact hgo _ _ _ _ h (ez_st1_ok hls (ez_hd hst)) (ez_tl hst) hM H locs lsC hP hD hS hl
  · exact h.elim
set_option maxHeartbeats 4000000 in
theorem ez_s_lstore {i : Nat} (hx : p.tables.exec = Jvm.exec) (hgo : ∀ pc ls st M, K pc ls st M → ez_AW p l e { frames := d, cells := 0, slots := 0, locals := 36 * d } s m args below meth c L D cA ad Q pc ls st M) (hml : c.maxLocals = E.2.2.2.2) (hdg : decode c.code pc = .ok (.lstore i, 2)) (h : ez_step L E K Q pc ls st M (.lstore i)) : ez_AW p l e { frames := d, cells := 0, slots := 0, locals := 36 * d } s m args below meth c L D cA ad Q pc ls st M := by
  intro hls hst hM H locs lsC hP hD hS hl
  dsimp only [ez_step] at h
  split at h
  · rename_i x r hn
    have hn : i + 1 < c.maxLocals := by rw [hml]; exact Nat.le_of_ble_eq_true hn
    refine lv_lstore hx rfl hdg hl hn (ez_st2_map ad i (.inr (.inl x)) ls) (fun lsC hl => ?_)
    exact hgo _ _ _ _ h (ez_st2_ok hls (ez_hd hst)) (ez_tl hst) hM H locs lsC hP hD hS hl
  · exact h.elim
set_option maxHeartbeats 4000000 in
theorem ez_s_lstore_n {i : Fin 4} (hx : p.tables.exec = Jvm.exec) (hgo : ∀ pc ls st M, K pc ls st M → ez_AW p l e { frames := d, cells := 0, slots := 0, locals := 36 * d } s m args below meth c L D cA ad Q pc ls st M) (hml : c.maxLocals = E.2.2.2.2) (hdg : decode c.code pc = .ok (.lstore_n i, 1)) (h : ez_step L E K Q pc ls st M (.lstore_n i)) : ez_AW p l e { frames := d, cells := 0, slots := 0, locals := 36 * d } s m args below meth c L D cA ad Q pc ls st M := by
  intro hls hst hM H locs lsC hP hD hS hl
  dsimp only [ez_step] at h
  split at h
  · rename_i x r hn
    have hn : i.val + 1 < c.maxLocals := by rw [hml]; exact Nat.le_of_ble_eq_true hn
    refine lv_lstore_n hx rfl hdg rfl hl hn (ez_st2_map ad i.val (.inr (.inl x)) ls) (fun lsC hl => ?_)
    exact hgo _ _ _ _ h (ez_st2_ok hls (ez_hd hst)) (ez_tl hst) hM H locs lsC hP hD hS hl
  · exact h.elim
set_option maxHeartbeats 4000000 in
theorem ez_s_iinc {i : Nat} {n : Int} (hx : p.tables.exec = Jvm.exec) (hgo : ∀ pc ls st M, K pc ls st M → ez_AW p l e { frames := d, cells := 0, slots := 0, locals := 36 * d } s m args below meth c L D cA ad Q pc ls st M) (hml : c.maxLocals = E.2.2.2.2) (hdg : decode c.code pc = .ok (.iinc i n, 3)) (h : ez_step L E K Q pc ls st M (.iinc i n)) : ez_AW p l e { frames := d, cells := 0, slots := 0, locals := 36 * d } s m args below meth c L D cA ad Q pc ls st M := by
  intro hls hst hM H locs lsC hP hD hS hl
  dsimp only [ez_step] at h
  split at h
  · rename_i x hv hn
    have hn : i < c.maxLocals := by rw [hml]; exact Nat.le_of_ble_eq_true hn
    obtain ⟨hr, h⟩ := h
    obtain ⟨k, hk⟩ := List.getElem?_of_mem (List.mem_map.mpr ⟨(i, .inl x), ez_lk_mem hv, rfl⟩ : (i, ez_cv ad (.inl x)) ∈ ls.map (fun q => (q.1, ez_cv ad q.2)))
    refine lv_iinc (v := Int32.ofInt (x + n)) (k := k) hx rfl hdg hl hk (by rw [Int32.ofInt_add]) hn (ez_st1_map ad i (.inl (x + n)) ls) (fun lsC hl => ?_)
    exact hgo _ _ _ _ h (ez_st1_ok hls hr) hst hM H locs lsC hP hD hS hl
  · exact h.elim
set_option maxHeartbeats 4000000 in
theorem ez_s_iadd  (hx : p.tables.exec = Jvm.exec) (hgo : ∀ pc ls st M, K pc ls st M → ez_AW p l e { frames := d, cells := 0, slots := 0, locals := 36 * d } s m args below meth c L D cA ad Q pc ls st M)  (hdg : decode c.code pc = .ok (.iadd, 1)) (h : ez_step L E K Q pc ls st M (.iadd)) : ez_AW p l e { frames := d, cells := 0, slots := 0, locals := 36 * d } s m args below meth c L D cA ad Q pc ls st M := by
  intro hls hst hM H locs lsC hP hD hS hl
  dsimp only [ez_step] at h
  split at h
  · rename_i y x r
    have hy := ez_hd hst
    have hxx := ez_hd (ez_tl hst)
    obtain ⟨hr, h⟩ := h
    refine lv_iadd hx rfl hdg ?_
    rw [← Int32.ofInt_add]
    exact hgo _ _ _ _ h hls (ez_cons_ok (v := .inl _) hr (ez_tl (ez_tl hst))) hM H locs lsC hP hD hS hl
  · exact h.elim
set_option maxHeartbeats 4000000 in
theorem ez_s_isub  (hx : p.tables.exec = Jvm.exec) (hgo : ∀ pc ls st M, K pc ls st M → ez_AW p l e { frames := d, cells := 0, slots := 0, locals := 36 * d } s m args below meth c L D cA ad Q pc ls st M)  (hdg : decode c.code pc = .ok (.isub, 1)) (h : ez_step L E K Q pc ls st M (.isub)) : ez_AW p l e { frames := d, cells := 0, slots := 0, locals := 36 * d } s m args below meth c L D cA ad Q pc ls st M := by
  intro hls hst hM H locs lsC hP hD hS hl
  dsimp only [ez_step] at h
  split at h
  · rename_i y x r
    have hy := ez_hd hst
    have hxx := ez_hd (ez_tl hst)
    obtain ⟨hr, h⟩ := h
    refine lv_isub hx rfl hdg ?_
    rw [← Int32.ofInt_sub]
    exact hgo _ _ _ _ h hls (ez_cons_ok (v := .inl _) hr (ez_tl (ez_tl hst))) hM H locs lsC hP hD hS hl
  · exact h.elim
set_option maxHeartbeats 4000000 in
theorem ez_s_imul  (hx : p.tables.exec = Jvm.exec) (hgo : ∀ pc ls st M, K pc ls st M → ez_AW p l e { frames := d, cells := 0, slots := 0, locals := 36 * d } s m args below meth c L D cA ad Q pc ls st M)  (hdg : decode c.code pc = .ok (.imul, 1)) (h : ez_step L E K Q pc ls st M (.imul)) : ez_AW p l e { frames := d, cells := 0, slots := 0, locals := 36 * d } s m args below meth c L D cA ad Q pc ls st M := by
  intro hls hst hM H locs lsC hP hD hS hl
  dsimp only [ez_step] at h
  split at h
  · rename_i y x r
    have hy := ez_hd hst
    have hxx := ez_hd (ez_tl hst)
    obtain ⟨hr, h⟩ := h
    refine lv_imul hx rfl hdg ?_
    rw [← Int32.ofInt_mul]
    exact hgo _ _ _ _ h hls (ez_cons_ok (v := .inl _) hr (ez_tl (ez_tl hst))) hM H locs lsC hP hD hS hl
  · exact h.elim
set_option maxHeartbeats 4000000 in
theorem ez_s_idiv  (hx : p.tables.exec = Jvm.exec) (hgo : ∀ pc ls st M, K pc ls st M → ez_AW p l e { frames := d, cells := 0, slots := 0, locals := 36 * d } s m args below meth c L D cA ad Q pc ls st M)  (hdg : decode c.code pc = .ok (.idiv, 1)) (h : ez_step L E K Q pc ls st M (.idiv)) : ez_AW p l e { frames := d, cells := 0, slots := 0, locals := 36 * d } s m args below meth c L D cA ad Q pc ls st M := by
  intro hls hst hM H locs lsC hP hD hS hl
  dsimp only [ez_step] at h
  split at h
  · rename_i y x r
    have hy := ez_hd hst
    have hxx := ez_hd (ez_tl hst)
    obtain ⟨hne, h⟩ := h
    have h := h _ rfl (fun a _ => Int.tdiv_eq_ediv_of_nonneg a) (Int.natAbs_tdiv_le_natAbs _ _)
    obtain ⟨hr, h⟩ := h
    refine lv_idiv hx rfl hdg (ez_ne0 hy hne) ?_
    rw [ez_div hxx hy]
    exact hgo _ _ _ _ h hls (ez_cons_ok (v := .inl _) hr (ez_tl (ez_tl hst))) hM H locs lsC hP hD hS hl
  · exact h.elim
set_option maxHeartbeats 4000000 in
theorem ez_s_irem  (hx : p.tables.exec = Jvm.exec) (hgo : ∀ pc ls st M, K pc ls st M → ez_AW p l e { frames := d, cells := 0, slots := 0, locals := 36 * d } s m args below meth c L D cA ad Q pc ls st M)  (hdg : decode c.code pc = .ok (.irem, 1)) (h : ez_step L E K Q pc ls st M (.irem)) : ez_AW p l e { frames := d, cells := 0, slots := 0, locals := 36 * d } s m args below meth c L D cA ad Q pc ls st M := by
  intro hls hst hM H locs lsC hP hD hS hl
  dsimp only [ez_step] at h
  split at h
  · rename_i y x r
    have hy := ez_hd hst
    have hxx := ez_hd (ez_tl hst)
    obtain ⟨hne, h⟩ := h
    have h := h _ rfl (fun a _ => Int.tmod_eq_emod_of_nonneg a) (ez_tmod_le _ _)
    obtain ⟨hr, h⟩ := h
    refine lv_irem hx rfl hdg (ez_ne0 hy hne) ?_
    rw [ez_rem hxx hy]
    exact hgo _ _ _ _ h hls (ez_cons_ok (v := .inl _) hr (ez_tl (ez_tl hst))) hM H locs lsC hP hD hS hl
  · exact h.elim
set_option maxHeartbeats 4000000 in
theorem ez_s_ladd  (hx : p.tables.exec = Jvm.exec) (hgo : ∀ pc ls st M, K pc ls st M → ez_AW p l e { frames := d, cells := 0, slots := 0, locals := 36 * d } s m args below meth c L D cA ad Q pc ls st M)  (hdg : decode c.code pc = .ok (.ladd, 1)) (h : ez_step L E K Q pc ls st M (.ladd)) : ez_AW p l e { frames := d, cells := 0, slots := 0, locals := 36 * d } s m args below meth c L D cA ad Q pc ls st M := by
  intro hls hst hM H locs lsC hP hD hS hl
  dsimp only [ez_step] at h
  split at h
  · rename_i y x r
    have hy := ez_hd hst
    have hxx := ez_hd (ez_tl hst)
    obtain ⟨hr, h⟩ := h
    refine lv_ladd hx rfl hdg ?_
    rw [← Int64.ofInt_add]
    exact hgo _ _ _ _ h hls (ez_cons_ok (v := .inr (.inl _)) hr (ez_tl (ez_tl hst))) hM H locs lsC hP hD hS hl
  · exact h.elim
set_option maxHeartbeats 4000000 in
theorem ez_s_ldiv  (hx : p.tables.exec = Jvm.exec) (hgo : ∀ pc ls st M, K pc ls st M → ez_AW p l e { frames := d, cells := 0, slots := 0, locals := 36 * d } s m args below meth c L D cA ad Q pc ls st M)  (hdg : decode c.code pc = .ok (.ldiv, 1)) (h : ez_step L E K Q pc ls st M (.ldiv)) : ez_AW p l e { frames := d, cells := 0, slots := 0, locals := 36 * d } s m args below meth c L D cA ad Q pc ls st M := by
  intro hls hst hM H locs lsC hP hD hS hl
  dsimp only [ez_step] at h
  split at h
  · rename_i y x r
    have hy := ez_hd hst
    have hxx := ez_hd (ez_tl hst)
    obtain ⟨hne, h⟩ := h
    have h := h _ rfl (fun a _ => Int.tdiv_eq_ediv_of_nonneg a) (Int.natAbs_tdiv_le_natAbs _ _)
    obtain ⟨hr, h⟩ := h
    refine lv_ldiv hx rfl hdg (ez_ne0l hy hne) ?_
    rw [ez_ldiv hxx hy]
    exact hgo _ _ _ _ h hls (ez_cons_ok (v := .inr (.inl _)) hr (ez_tl (ez_tl hst))) hM H locs lsC hP hD hS hl
  · exact h.elim
set_option maxHeartbeats 4000000 in
theorem ez_s_lrem  (hx : p.tables.exec = Jvm.exec) (hgo : ∀ pc ls st M, K pc ls st M → ez_AW p l e { frames := d, cells := 0, slots := 0, locals := 36 * d } s m args below meth c L D cA ad Q pc ls st M)  (hdg : decode c.code pc = .ok (.lrem, 1)) (h : ez_step L E K Q pc ls st M (.lrem)) : ez_AW p l e { frames := d, cells := 0, slots := 0, locals := 36 * d } s m args below meth c L D cA ad Q pc ls st M := by
  intro hls hst hM H locs lsC hP hD hS hl
  dsimp only [ez_step] at h
  split at h
  · rename_i y x r
    have hy := ez_hd hst
    have hxx := ez_hd (ez_tl hst)
    obtain ⟨hne, h⟩ := h
    have h := h _ rfl (fun a _ => Int.tmod_eq_emod_of_nonneg a) (ez_tmod_le _ _)
    obtain ⟨hr, h⟩ := h
    refine lv_lrem hx rfl hdg (ez_ne0l hy hne) ?_
    rw [ez_lrem hxx hy]
    exact hgo _ _ _ _ h hls (ez_cons_ok (v := .inr (.inl _)) hr (ez_tl (ez_tl hst))) hM H locs lsC hP hD hS hl
  · exact h.elim
set_option maxHeartbeats 4000000 in
theorem ez_s_ineg  (hx : p.tables.exec = Jvm.exec) (hgo : ∀ pc ls st M, K pc ls st M → ez_AW p l e { frames := d, cells := 0, slots := 0, locals := 36 * d } s m args below meth c L D cA ad Q pc ls st M)  (hdg : decode c.code pc = .ok (.ineg, 1)) (h : ez_step L E K Q pc ls st M (.ineg)) : ez_AW p l e { frames := d, cells := 0, slots := 0, locals := 36 * d } s m args below meth c L D cA ad Q pc ls st M := by
  intro hls hst hM H locs lsC hP hD hS hl
  dsimp only [ez_step] at h
  split at h
  · rename_i x r
    obtain ⟨hr, h⟩ := h
    refine lv_ineg hx rfl hdg ?_
    rw [← Int32.ofInt_neg]
    exact hgo _ _ _ _ h hls (ez_cons_ok (v := .inl _) hr (ez_tl hst)) hM H locs lsC hP hD hS hl
  · exact h.elim
set_option maxHeartbeats 4000000 in
theorem ez_s_iand  (hx : p.tables.exec = Jvm.exec) (hgo : ∀ pc ls st M, K pc ls st M → ez_AW p l e { frames := d, cells := 0, slots := 0, locals := 36 * d } s m args below meth c L D cA ad Q pc ls st M)  (hdg : decode c.code pc = .ok (.iand, 1)) (h : ez_step L E K Q pc ls st M (.iand)) : ez_AW p l e { frames := d, cells := 0, slots := 0, locals := 36 * d } s m args below meth c L D cA ad Q pc ls st M := by
  intro hls hst hM H locs lsC hP hD hS hl
  dsimp only [ez_step] at h
  split at h
  · rename_i y x r
    refine lv_iand hx rfl hdg ?_
    rw [← ez_of32 ((Int32.ofInt x) &&& (Int32.ofInt y))]
    exact hgo _ _ _ _ h hls (ez_cons_ok (v := .inl (ez_and x y)) (ez_ir _) (ez_tl (ez_tl hst))) hM H locs lsC hP hD hS hl
  · exact h.elim
set_option maxHeartbeats 4000000 in
theorem ez_s_ior  (hx : p.tables.exec = Jvm.exec) (hgo : ∀ pc ls st M, K pc ls st M → ez_AW p l e { frames := d, cells := 0, slots := 0, locals := 36 * d } s m args below meth c L D cA ad Q pc ls st M)  (hdg : decode c.code pc = .ok (.ior, 1)) (h : ez_step L E K Q pc ls st M (.ior)) : ez_AW p l e { frames := d, cells := 0, slots := 0, locals := 36 * d } s m args below meth c L D cA ad Q pc ls st M := by
  intro hls hst hM H locs lsC hP hD hS hl
  dsimp only [ez_step] at h
  split at h
  · rename_i y x r
    refine lv_ior hx rfl hdg ?_
    rw [← ez_of32 ((Int32.ofInt x) ||| (Int32.ofInt y))]
    exact hgo _ _ _ _ h hls (ez_cons_ok (v := .inl (ez_or x y)) (ez_ir _) (ez_tl (ez_tl hst))) hM H locs lsC hP hD hS hl
  · exact h.elim
set_option maxHeartbeats 4000000 in
theorem ez_s_ixor  (hx : p.tables.exec = Jvm.exec) (hgo : ∀ pc ls st M, K pc ls st M → ez_AW p l e { frames := d, cells := 0, slots := 0, locals := 36 * d } s m args below meth c L D cA ad Q pc ls st M)  (hdg : decode c.code pc = .ok (.ixor, 1)) (h : ez_step L E K Q pc ls st M (.ixor)) : ez_AW p l e { frames := d, cells := 0, slots := 0, locals := 36 * d } s m args below meth c L D cA ad Q pc ls st M := by
  intro hls hst hM H locs lsC hP hD hS hl
  dsimp only [ez_step] at h
  split at h
  · rename_i y x r
    refine lv_ixor hx rfl hdg ?_
    rw [← ez_of32 ((Int32.ofInt x) ^^^ (Int32.ofInt y))]
    exact hgo _ _ _ _ h hls (ez_cons_ok (v := .inl (ez_xor x y)) (ez_ir _) (ez_tl (ez_tl hst))) hM H locs lsC hP hD hS hl
  · exact h.elim
set_option maxHeartbeats 4000000 in
theorem ez_s_ishl  (hx : p.tables.exec = Jvm.exec) (hgo : ∀ pc ls st M, K pc ls st M → ez_AW p l e { frames := d, cells := 0, slots := 0, locals := 36 * d } s m args below meth c L D cA ad Q pc ls st M)  (hdg : decode c.code pc = .ok (.ishl, 1)) (h : ez_step L E K Q pc ls st M (.ishl)) : ez_AW p l e { frames := d, cells := 0, slots := 0, locals := 36 * d } s m args below meth c L D cA ad Q pc ls st M := by
  intro hls hst hM H locs lsC hP hD hS hl
  dsimp only [ez_step] at h
  split at h
  · rename_i y x r
    refine lv_ishl hx rfl hdg ?_
    rw [← ez_of32 ((Int32.ofInt x) <<< ((Int32.ofInt y) &&& 31))]
    exact hgo _ _ _ _ h hls (ez_cons_ok (v := .inl (ez_shl x y)) (ez_ir _) (ez_tl (ez_tl hst))) hM H locs lsC hP hD hS hl
  · exact h.elim
set_option maxHeartbeats 4000000 in
theorem ez_s_ishr  (hx : p.tables.exec = Jvm.exec) (hgo : ∀ pc ls st M, K pc ls st M → ez_AW p l e { frames := d, cells := 0, slots := 0, locals := 36 * d } s m args below meth c L D cA ad Q pc ls st M)  (hdg : decode c.code pc = .ok (.ishr, 1)) (h : ez_step L E K Q pc ls st M (.ishr)) : ez_AW p l e { frames := d, cells := 0, slots := 0, locals := 36 * d } s m args below meth c L D cA ad Q pc ls st M := by
  intro hls hst hM H locs lsC hP hD hS hl
  dsimp only [ez_step] at h
  split at h
  · rename_i y x r
    refine lv_ishr hx rfl hdg ?_
    rw [← ez_of32 ((Int32.ofInt x) >>> ((Int32.ofInt y) &&& 31))]
    exact hgo _ _ _ _ h hls (ez_cons_ok (v := .inl (ez_shr x y)) (ez_ir _) (ez_tl (ez_tl hst))) hM H locs lsC hP hD hS hl
  · exact h.elim
set_option maxHeartbeats 4000000 in
theorem ez_s_iushr  (hx : p.tables.exec = Jvm.exec) (hgo : ∀ pc ls st M, K pc ls st M → ez_AW p l e { frames := d, cells := 0, slots := 0, locals := 36 * d } s m args below meth c L D cA ad Q pc ls st M)  (hdg : decode c.code pc = .ok (.iushr, 1)) (h : ez_step L E K Q pc ls st M (.iushr)) : ez_AW p l e { frames := d, cells := 0, slots := 0, locals := 36 * d } s m args below meth c L D cA ad Q pc ls st M := by
  intro hls hst hM H locs lsC hP hD hS hl
  dsimp only [ez_step] at h
  split at h
  · rename_i y x r
    refine lv_iushr hx rfl hdg rfl ?_
    rw [← ez_of32 ((Int32.ofInt x).toUInt32 >>> ((Int32.ofInt y).toUInt32 &&& Int32.toUInt32 31)).toInt32]
    exact hgo _ _ _ _ h hls (ez_cons_ok (v := .inl (ez_ushr x y)) (ez_ir _) (ez_tl (ez_tl hst))) hM H locs lsC hP hD hS hl
  · exact h.elim
set_option maxHeartbeats 4000000 in
theorem ez_s_land  (hx : p.tables.exec = Jvm.exec) (hgo : ∀ pc ls st M, K pc ls st M → ez_AW p l e { frames := d, cells := 0, slots := 0, locals := 36 * d } s m args below meth c L D cA ad Q pc ls st M)  (hdg : decode c.code pc = .ok (.land, 1)) (h : ez_step L E K Q pc ls st M (.land)) : ez_AW p l e { frames := d, cells := 0, slots := 0, locals := 36 * d } s m args below meth c L D cA ad Q pc ls st M := by
  intro hls hst hM H locs lsC hP hD hS hl
  dsimp only [ez_step] at h
  split at h
  · rename_i y x r
    refine lv_land hx rfl hdg ?_
    rw [← ez_of64 ((Int64.ofInt x) &&& (Int64.ofInt y))]
    exact hgo _ _ _ _ h hls (ez_cons_ok (v := .inr (.inl (ez_land x y))) (ez_lr _) (ez_tl (ez_tl hst))) hM H locs lsC hP hD hS hl
  · exact h.elim
set_option maxHeartbeats 4000000 in
theorem ez_s_lor  (hx : p.tables.exec = Jvm.exec) (hgo : ∀ pc ls st M, K pc ls st M → ez_AW p l e { frames := d, cells := 0, slots := 0, locals := 36 * d } s m args below meth c L D cA ad Q pc ls st M)  (hdg : decode c.code pc = .ok (.lor, 1)) (h : ez_step L E K Q pc ls st M (.lor)) : ez_AW p l e { frames := d, cells := 0, slots := 0, locals := 36 * d } s m args below meth c L D cA ad Q pc ls st M := by
  intro hls hst hM H locs lsC hP hD hS hl
  dsimp only [ez_step] at h
  split at h
  · rename_i y x r
    refine lv_lor hx rfl hdg ?_
    rw [← ez_of64 ((Int64.ofInt x) ||| (Int64.ofInt y))]
    exact hgo _ _ _ _ h hls (ez_cons_ok (v := .inr (.inl (ez_lor x y))) (ez_lr _) (ez_tl (ez_tl hst))) hM H locs lsC hP hD hS hl
  · exact h.elim
set_option maxHeartbeats 4000000 in
theorem ez_s_lshl  (hx : p.tables.exec = Jvm.exec) (hgo : ∀ pc ls st M, K pc ls st M → ez_AW p l e { frames := d, cells := 0, slots := 0, locals := 36 * d } s m args below meth c L D cA ad Q pc ls st M)  (hdg : decode c.code pc = .ok (.lshl, 1)) (h : ez_step L E K Q pc ls st M (.lshl)) : ez_AW p l e { frames := d, cells := 0, slots := 0, locals := 36 * d } s m args below meth c L D cA ad Q pc ls st M := by
  intro hls hst hM H locs lsC hP hD hS hl
  dsimp only [ez_step] at h
  split at h
  · rename_i y x r
    refine lv_lshl hx rfl hdg rfl ?_
    rw [← ez_of64 ((Int64.ofInt x) <<< ((Int32.ofInt y).toInt64 &&& 63))]
    exact hgo _ _ _ _ h hls (ez_cons_ok (v := .inr (.inl (ez_lshl x y))) (ez_lr _) (ez_tl (ez_tl hst))) hM H locs lsC hP hD hS hl
  · exact h.elim
set_option maxHeartbeats 4000000 in
theorem ez_s_lshr  (hx : p.tables.exec = Jvm.exec) (hgo : ∀ pc ls st M, K pc ls st M → ez_AW p l e { frames := d, cells := 0, slots := 0, locals := 36 * d } s m args below meth c L D cA ad Q pc ls st M)  (hdg : decode c.code pc = .ok (.lshr, 1)) (h : ez_step L E K Q pc ls st M (.lshr)) : ez_AW p l e { frames := d, cells := 0, slots := 0, locals := 36 * d } s m args below meth c L D cA ad Q pc ls st M := by
  intro hls hst hM H locs lsC hP hD hS hl
  dsimp only [ez_step] at h
  split at h
  · rename_i y x r
    refine lv_lshr hx rfl hdg rfl ?_
    rw [← ez_of64 ((Int64.ofInt x) >>> ((Int32.ofInt y).toInt64 &&& 63))]
    exact hgo _ _ _ _ h hls (ez_cons_ok (v := .inr (.inl (ez_lshr x y))) (ez_lr _) (ez_tl (ez_tl hst))) hM H locs lsC hP hD hS hl
  · exact h.elim
set_option maxHeartbeats 4000000 in
theorem ez_s_i2l  (hx : p.tables.exec = Jvm.exec) (hgo : ∀ pc ls st M, K pc ls st M → ez_AW p l e { frames := d, cells := 0, slots := 0, locals := 36 * d } s m args below meth c L D cA ad Q pc ls st M)  (hdg : decode c.code pc = .ok (.i2l, 1)) (h : ez_step L E K Q pc ls st M (.i2l)) : ez_AW p l e { frames := d, cells := 0, slots := 0, locals := 36 * d } s m args below meth c L D cA ad Q pc ls st M := by
  intro hls hst hM H locs lsC hP hD hS hl
  dsimp only [ez_step] at h
  split at h
  · rename_i x r
    refine lv_i2l (v := Int64.ofInt x) hx rfl hdg (ez_i2l (ez_hd hst)) ?_
    exact hgo _ _ _ _ h hls (ez_cons_ok (v := .inr (.inl x)) (ez_i2l_r (ez_hd hst)) (ez_tl hst)) hM H locs lsC hP hD hS hl
  · exact h.elim
set_option maxHeartbeats 4000000 in
theorem ez_s_l2i  (hx : p.tables.exec = Jvm.exec) (hgo : ∀ pc ls st M, K pc ls st M → ez_AW p l e { frames := d, cells := 0, slots := 0, locals := 36 * d } s m args below meth c L D cA ad Q pc ls st M)  (hdg : decode c.code pc = .ok (.l2i, 1)) (h : ez_step L E K Q pc ls st M (.l2i)) : ez_AW p l e { frames := d, cells := 0, slots := 0, locals := 36 * d } s m args below meth c L D cA ad Q pc ls st M := by
  intro hls hst hM H locs lsC hP hD hS hl
  dsimp only [ez_step] at h
  split at h
  · rename_i x r
    refine lv_l2i hx rfl hdg rfl ?_
    rw [← ez_of32 (Int64.ofInt x).toInt32]
    exact hgo _ _ _ _ h hls (ez_cons_ok (v := .inl (ez_l2i x)) (ez_ir _) (ez_tl hst)) hM H locs lsC hP hD hS hl
  · exact h.elim
set_option maxHeartbeats 4000000 in
theorem ez_s_lcmp  (hx : p.tables.exec = Jvm.exec) (hgo : ∀ pc ls st M, K pc ls st M → ez_AW p l e { frames := d, cells := 0, slots := 0, locals := 36 * d } s m args below meth c L D cA ad Q pc ls st M)  (hdg : decode c.code pc = .ok (.lcmp, 1)) (h : ez_step L E K Q pc ls st M (.lcmp)) : ez_AW p l e { frames := d, cells := 0, slots := 0, locals := 36 * d } s m args below meth c L D cA ad Q pc ls st M := by
  intro hls hst hM H locs lsC hP hD hS hl
  dsimp only [ez_step] at h
  split at h
  · rename_i y x r
    have hy := ez_hd hst
    have hxx := ez_hd (ez_tl hst)
    refine W.lcmp hx rfl hdg ?_
    obtain ⟨h1, h2, h3⟩ := h
    rcases Int.lt_trichotomy x y with q | q | q
    · have hc : lg_cmp (Int64.ofInt x) (Int64.ofInt y) = Int32.ofInt (-1) := by unfold lg_cmp; rw [if_neg (fun z => by have z := (ez_ll hy hxx).mp z; omega), if_neg (fun z => by have z := (ez_eql hxx hy).mp z; omega)]; rfl
      rw [hc]
      exact hgo _ _ _ _ (h1 q) hls (ez_cons_ok (v := .inl (-1)) ⟨by decide, by decide⟩ (ez_tl (ez_tl hst))) hM H locs lsC hP hD hS hl
    · have hc : lg_cmp (Int64.ofInt x) (Int64.ofInt y) = Int32.ofInt 0 := by unfold lg_cmp; rw [if_neg (fun z => by have z := (ez_ll hy hxx).mp z; omega), if_pos ((ez_eql hxx hy).mpr q)]; rfl
      rw [hc]
      exact hgo _ _ _ _ (h2 q) hls (ez_cons_ok (v := .inl 0) ⟨by decide, by decide⟩ (ez_tl (ez_tl hst))) hM H locs lsC hP hD hS hl
    · have hc : lg_cmp (Int64.ofInt x) (Int64.ofInt y) = Int32.ofInt 1 := by unfold lg_cmp; rw [if_pos ((ez_ll hy hxx).mpr q)]; rfl
      rw [hc]
      exact hgo _ _ _ _ (h3 q) hls (ez_cons_ok (v := .inl 1) ⟨by decide, by decide⟩ (ez_tl (ez_tl hst))) hM H locs lsC hP hD hS hl
  · exact h.elim
set_option maxHeartbeats 4000000 in
theorem ez_s_if_icmp {cc : ClassFile.Cond} {off : Int} (hx : p.tables.exec = Jvm.exec) (hgo : ∀ pc ls st M, K pc ls st M → ez_AW p l e { frames := d, cells := 0, slots := 0, locals := 36 * d } s m args below meth c L D cA ad Q pc ls st M)  (hdg : decode c.code pc = .ok (.if_icmp cc off, 3)) (h : ez_step L E K Q pc ls st M (.if_icmp cc off)) : ez_AW p l e { frames := d, cells := 0, slots := 0, locals := 36 * d } s m args below meth c L D cA ad Q pc ls st M := by
  intro hls hst hM H locs lsC hP hD hS hl
  dsimp only [ez_step] at h
  split at h
  · rename_i y x r ht
    have hy := ez_hd hst
    have hxx := ez_hd (ez_tl hst)
    have ht := ez_tg ht
    cases cc <;> dsimp only [ez_br] at h <;> obtain ⟨h1, h2⟩ := h
    case eq => exact lv_icmp_eq hx rfl hdg ht (fun z => hgo _ _ _ _ (h1 ((ez_eq hxx hy).mp z)) hls (ez_tl (ez_tl hst)) hM H locs lsC hP hD hS hl) (fun z => hgo _ _ _ _ (h2 (fun q => z ((ez_eq hxx hy).mpr q))) hls (ez_tl (ez_tl hst)) hM H locs lsC hP hD hS hl)
    case ne => exact lv_icmp_ne hx rfl hdg ht (fun z => hgo _ _ _ _ (h1 (fun q => z ((ez_eq hxx hy).mpr q))) hls (ez_tl (ez_tl hst)) hM H locs lsC hP hD hS hl) (fun z => hgo _ _ _ _ (h2 ((ez_eq hxx hy).mp z)) hls (ez_tl (ez_tl hst)) hM H locs lsC hP hD hS hl)
    case lt => exact lv_icmp_lt hx rfl hdg ht (fun z => hgo _ _ _ _ (h1 ((ez_lt hxx hy).mp z)) hls (ez_tl (ez_tl hst)) hM H locs lsC hP hD hS hl) (fun z => hgo _ _ _ _ (h2 (Int.not_lt.mp (fun q => z ((ez_lt hxx hy).mpr q)))) hls (ez_tl (ez_tl hst)) hM H locs lsC hP hD hS hl)
    case ge => exact lv_icmp_ge hx rfl hdg ht (fun z => hgo _ _ _ _ (h1 ((ez_le hy hxx).mp z)) hls (ez_tl (ez_tl hst)) hM H locs lsC hP hD hS hl) (fun z => hgo _ _ _ _ (h2 (Int.not_le.mp (fun q => z ((ez_le hy hxx).mpr q)))) hls (ez_tl (ez_tl hst)) hM H locs lsC hP hD hS hl)
    case gt => exact lv_icmp_gt hx rfl hdg ht (fun z => hgo _ _ _ _ (h1 ((ez_lt hy hxx).mp z)) hls (ez_tl (ez_tl hst)) hM H locs lsC hP hD hS hl) (fun z => hgo _ _ _ _ (h2 (Int.not_lt.mp (fun q => z ((ez_lt hy hxx).mpr q)))) hls (ez_tl (ez_tl hst)) hM H locs lsC hP hD hS hl)
    case le => exact lv_icmp_le hx rfl hdg ht (fun z => hgo _ _ _ _ (h1 ((ez_le hxx hy).mp z)) hls (ez_tl (ez_tl hst)) hM H locs lsC hP hD hS hl) (fun z => hgo _ _ _ _ (h2 (Int.not_le.mp (fun q => z ((ez_le hxx hy).mpr q)))) hls (ez_tl (ez_tl hst)) hM H locs lsC hP hD hS hl)
  · exact h.elim
set_option maxHeartbeats 4000000 in
theorem ez_s_ifCond {cc : ClassFile.Cond} {off : Int} (hx : p.tables.exec = Jvm.exec) (hgo : ∀ pc ls st M, K pc ls st M → ez_AW p l e { frames := d, cells := 0, slots := 0, locals := 36 * d } s m args below meth c L D cA ad Q pc ls st M)  (hdg : decode c.code pc = .ok (.ifCond cc off, 3)) (h : ez_step L E K Q pc ls st M (.ifCond cc off)) : ez_AW p l e { frames := d, cells := 0, slots := 0, locals := 36 * d } s m args below meth c L D cA ad Q pc ls st M := by
  intro hls hst hM H locs lsC hP hD hS hl
  dsimp only [ez_step] at h
  split at h
  · rename_i x r ht
    have hxx := ez_hd hst
    have hy := ez_r0
    have ht := ez_tg ht
    cases cc <;> dsimp only [ez_br] at h <;> obtain ⟨h1, h2⟩ := h
    case eq => exact lv_if_eq hx rfl hdg ht (fun z => hgo _ _ _ _ (h1 ((ez_eq hxx hy).mp z)) hls (ez_tl hst) hM H locs lsC hP hD hS hl) (fun z => hgo _ _ _ _ (h2 (fun q => z ((ez_eq hxx hy).mpr q))) hls (ez_tl hst) hM H locs lsC hP hD hS hl)
    case ne => exact lv_if_ne hx rfl hdg ht (fun z => hgo _ _ _ _ (h1 (fun q => z ((ez_eq hxx hy).mpr q))) hls (ez_tl hst) hM H locs lsC hP hD hS hl) (fun z => hgo _ _ _ _ (h2 ((ez_eq hxx hy).mp z)) hls (ez_tl hst) hM H locs lsC hP hD hS hl)
    case lt => exact lv_if_lt hx rfl hdg ht (fun z => hgo _ _ _ _ (h1 ((ez_lt hxx hy).mp z)) hls (ez_tl hst) hM H locs lsC hP hD hS hl) (fun z => hgo _ _ _ _ (h2 (Int.not_lt.mp (fun q => z ((ez_lt hxx hy).mpr q)))) hls (ez_tl hst) hM H locs lsC hP hD hS hl)
    case ge => exact lv_if_ge hx rfl hdg ht (fun z => hgo _ _ _ _ (h1 ((ez_le hy hxx).mp z)) hls (ez_tl hst) hM H locs lsC hP hD hS hl) (fun z => hgo _ _ _ _ (h2 (Int.not_le.mp (fun q => z ((ez_le hy hxx).mpr q)))) hls (ez_tl hst) hM H locs lsC hP hD hS hl)
    case gt => exact lv_if_gt hx rfl hdg ht (fun z => hgo _ _ _ _ (h1 ((ez_lt hy hxx).mp z)) hls (ez_tl hst) hM H locs lsC hP hD hS hl) (fun z => hgo _ _ _ _ (h2 (Int.not_lt.mp (fun q => z ((ez_lt hy hxx).mpr q)))) hls (ez_tl hst) hM H locs lsC hP hD hS hl)
    case le => exact lv_if_le hx rfl hdg ht (fun z => hgo _ _ _ _ (h1 ((ez_le hxx hy).mp z)) hls (ez_tl hst) hM H locs lsC hP hD hS hl) (fun z => hgo _ _ _ _ (h2 (Int.not_le.mp (fun q => z ((ez_le hxx hy).mpr q)))) hls (ez_tl hst) hM H locs lsC hP hD hS hl)
  · exact h.elim
set_option maxHeartbeats 4000000 in
theorem ez_s_goto {off : Int} (hx : p.tables.exec = Jvm.exec) (hgo : ∀ pc ls st M, K pc ls st M → ez_AW p l e { frames := d, cells := 0, slots := 0, locals := 36 * d } s m args below meth c L D cA ad Q pc ls st M)  (hdg : decode c.code pc = .ok (.goto off, 3)) (h : ez_step L E K Q pc ls st M (.goto off)) : ez_AW p l e { frames := d, cells := 0, slots := 0, locals := 36 * d } s m args below meth c L D cA ad Q pc ls st M := by
  intro hls hst hM H locs lsC hP hD hS hl
  dsimp only [ez_step] at h
  split at h
  · rename_i ht
    exact lv_goto hx rfl hdg (ez_tg ht) (hgo _ _ _ _ h hls hst hM H locs lsC hP hD hS hl)
  · exact h.elim
set_option maxHeartbeats 4000000 in
theorem ez_s_ifnull {off : Int} (hx : p.tables.exec = Jvm.exec) (hgo : ∀ pc ls st M, K pc ls st M → ez_AW p l e { frames := d, cells := 0, slots := 0, locals := 36 * d } s m args below meth c L D cA ad Q pc ls st M)  (hdg : decode c.code pc = .ok (.ifnull off, 3)) (h : ez_step L E K Q pc ls st M (.ifnull off)) : ez_AW p l e { frames := d, cells := 0, slots := 0, locals := 36 * d } s m args below meth c L D cA ad Q pc ls st M := by
  intro hls hst hM H locs lsC hP hD hS hl
  dsimp only [ez_step] at h
  split at h
  · exact lv_ifnull hx rfl hdg (hgo _ _ _ _ h hls (ez_tl hst) hM H locs lsC hP hD hS hl)
  · exact h.elim
set_option maxHeartbeats 4000000 in
theorem ez_s_ifnonnull {off : Int} (hx : p.tables.exec = Jvm.exec) (hgo : ∀ pc ls st M, K pc ls st M → ez_AW p l e { frames := d, cells := 0, slots := 0, locals := 36 * d } s m args below meth c L D cA ad Q pc ls st M)  (hdg : decode c.code pc = .ok (.ifnonnull off, 3)) (h : ez_step L E K Q pc ls st M (.ifnonnull off)) : ez_AW p l e { frames := d, cells := 0, slots := 0, locals := 36 * d } s m args below meth c L D cA ad Q pc ls st M := by
  intro hls hst hM H locs lsC hP hD hS hl
  dsimp only [ez_step] at h
  split at h
  · rename_i ht
    exact lv_ifnonnull hx rfl hdg (ez_tg ht) (hgo _ _ _ _ h hls (ez_tl hst) hM H locs lsC hP hD hS hl)
  · exact h.elim
set_option maxHeartbeats 4000000 in
theorem ez_s_dup  (hx : p.tables.exec = Jvm.exec) (hgo : ∀ pc ls st M, K pc ls st M → ez_AW p l e { frames := d, cells := 0, slots := 0, locals := 36 * d } s m args below meth c L D cA ad Q pc ls st M)  (hdg : decode c.code pc = .ok (.dup, 1)) (h : ez_step L E K Q pc ls st M (.dup)) : ez_AW p l e { frames := d, cells := 0, slots := 0, locals := 36 * d } s m args below meth c L D cA ad Q pc ls st M := by
  intro hls hst hM H locs lsC hP hD hS hl
  dsimp only [ez_step] at h
  split at h
  · exact lv_dup hx rfl hdg rfl (hgo _ _ _ _ h hls (ez_cons_ok (ez_hd hst) hst) hM H locs lsC hP hD hS hl)
  · exact lv_dup hx rfl hdg rfl (hgo _ _ _ _ h hls (ez_cons_ok (ez_hd hst) hst) hM H locs lsC hP hD hS hl)
  · exact h.elim
set_option maxHeartbeats 4000000 in
theorem ez_s_dup2  (hx : p.tables.exec = Jvm.exec) (hgo : ∀ pc ls st M, K pc ls st M → ez_AW p l e { frames := d, cells := 0, slots := 0, locals := 36 * d } s m args below meth c L D cA ad Q pc ls st M)  (hdg : decode c.code pc = .ok (.dup2, 1)) (h : ez_step L E K Q pc ls st M (.dup2)) : ez_AW p l e { frames := d, cells := 0, slots := 0, locals := 36 * d } s m args below meth c L D cA ad Q pc ls st M := by
  intro hls hst hM H locs lsC hP hD hS hl
  dsimp only [ez_step] at h
  split at h
  · exact lv_dup2_11 hx rfl hdg rfl rfl (hgo _ _ _ _ h hls (ez_cons_ok (ez_hd hst) (ez_cons_ok (ez_hd (ez_tl hst)) hst)) hM H locs lsC hP hD hS hl)
  · exact h.elim
set_option maxHeartbeats 4000000 in
theorem ez_s_pop  (hx : p.tables.exec = Jvm.exec) (hgo : ∀ pc ls st M, K pc ls st M → ez_AW p l e { frames := d, cells := 0, slots := 0, locals := 36 * d } s m args below meth c L D cA ad Q pc ls st M)  (hdg : decode c.code pc = .ok (.pop, 1)) (h : ez_step L E K Q pc ls st M (.pop)) : ez_AW p l e { frames := d, cells := 0, slots := 0, locals := 36 * d } s m args below meth c L D cA ad Q pc ls st M := by
  intro hls hst hM H locs lsC hP hD hS hl
  dsimp only [ez_step] at h
  split at h
  · exact lv_pop hx rfl hdg rfl (hgo _ _ _ _ h hls (ez_tl hst) hM H locs lsC hP hD hS hl)
  · exact h.elim
set_option maxHeartbeats 4000000 in
theorem ez_s_arraylength  (hx : p.tables.exec = Jvm.exec) (hgo : ∀ pc ls st M, K pc ls st M → ez_AW p l e { frames := d, cells := 0, slots := 0, locals := 36 * d } s m args below meth c L D cA ad Q pc ls st M) (hK : va_K D vwCl (ez_tys cA) s) (hdg : decode c.code pc = .ok (.arraylength, 1)) (h : ez_step L E K Q pc ls st M (.arraylength)) : ez_AW p l e { frames := d, cells := 0, slots := 0, locals := 36 * d } s m args below meth c L D cA ad Q pc ls st M := by
  intro hls hst hM H locs lsC hP hD hS hl
  dsimp only [ez_step] at h
  split at h
  · rename_i q r
    split at h
    · rename_i n hq
      split at h
      · rename_i hn
        have hn : n < 100000 := Nat.le_of_ble_eq_true hn
        refine va_alen hx rfl hK hP q 0 (ez_ws_at hq) rfl (v := Int32.ofInt (n : Int)) (Int32.ofInt_eq_ofNat.symm) hdg ?_
        exact hgo _ _ _ _ h hls (ez_cons_ok (v := .inl (n : Int)) ⟨by omega, by omega⟩ (ez_tl hst)) hM H locs lsC hP hD hS hl
      · exact h.elim
    · exact h.elim
  · exact h.elim
set_option maxHeartbeats 4000000 in
theorem ez_s_iaload  (hx : p.tables.exec = Jvm.exec) (hgo : ∀ pc ls st M, K pc ls st M → ez_AW p l e { frames := d, cells := 0, slots := 0, locals := 36 * d } s m args below meth c L D cA ad Q pc ls st M) (hK : va_K D vwCl (ez_tys cA) s) (hdg : decode c.code pc = .ok (.iaload, 1)) (h : ez_step L E K Q pc ls st M (.iaload)) : ez_AW p l e { frames := d, cells := 0, slots := 0, locals := 36 * d } s m args below meth c L D cA ad Q pc ls st M := by
  intro hls hst hM H locs lsC hP hD hS hl
  dsimp only [ez_step] at h
  split at h
  · rename_i i q r
    split at h
    · rename_i n hq
      obtain ⟨⟨h0, h1⟩, h⟩ := h
      have hi := ez_hd hst
      have hm := hM q i.toNat
      rw [hq] at hm
      refine va_iald hx rfl hK hP q 0 (ez_ws_at hq) rfl (ez_vin hi h0 h1) hdg ?_
      rw [ez_nat hi]
      exact hgo _ _ _ _ h hls (ez_cons_ok (v := .inl (M q i.toNat)) hm (ez_tl (ez_tl hst))) hM H locs lsC hP hD hS hl
    · exact h.elim
  · exact h.elim
set_option maxHeartbeats 4000000 in
theorem ez_s_laload  (hx : p.tables.exec = Jvm.exec) (hgo : ∀ pc ls st M, K pc ls st M → ez_AW p l e { frames := d, cells := 0, slots := 0, locals := 36 * d } s m args below meth c L D cA ad Q pc ls st M) (hK : va_K D vwCl (ez_tys cA) s) (hdg : decode c.code pc = .ok (.laload, 1)) (h : ez_step L E K Q pc ls st M (.laload)) : ez_AW p l e { frames := d, cells := 0, slots := 0, locals := 36 * d } s m args below meth c L D cA ad Q pc ls st M := by
  intro hls hst hM H locs lsC hP hD hS hl
  dsimp only [ez_step] at h
  split at h
  · rename_i i q r
    split at h
    · rename_i n hq
      obtain ⟨⟨h0, h1⟩, h⟩ := h
      have hi := ez_hd hst
      have hm := hM q i.toNat
      rw [hq] at hm
      refine va_lald hx rfl hK hP q 1 (ez_ws_at hq) rfl (ez_vin hi h0 h1) hdg ?_
      rw [ez_nat hi]
      exact hgo _ _ _ _ h hls (ez_cons_ok (v := .inr (.inl (M q i.toNat))) hm (ez_tl (ez_tl hst))) hM H locs lsC hP hD hS hl
    · exact h.elim
  · exact h.elim
set_option maxHeartbeats 4000000 in
theorem ez_s_baload  (hx : p.tables.exec = Jvm.exec) (hgo : ∀ pc ls st M, K pc ls st M → ez_AW p l e { frames := d, cells := 0, slots := 0, locals := 36 * d } s m args below meth c L D cA ad Q pc ls st M) (hK : va_K D vwCl (ez_tys cA) s) (hdg : decode c.code pc = .ok (.baload, 1)) (h : ez_step L E K Q pc ls st M (.baload)) : ez_AW p l e { frames := d, cells := 0, slots := 0, locals := 36 * d } s m args below meth c L D cA ad Q pc ls st M := by
  intro hls hst hM H locs lsC hP hD hS hl
  dsimp only [ez_step] at h
  split at h
  · rename_i i q r
    split at h
    · rename_i n hq
      obtain ⟨⟨h0, h1⟩, h⟩ := h
      have hi := ez_hd hst
      have hm := hM q i.toNat
      rw [hq] at hm
      refine va_zald hx rfl hK hP q 2 (ez_ws_at hq) rfl (ez_vin hi h0 h1) hdg ?_
      rw [ez_nat hi]
      exact hgo _ _ _ _ h hls (ez_cons_ok (v := .inl (M q i.toNat)) hm (ez_tl (ez_tl hst))) hM H locs lsC hP hD hS hl
    · exact h.elim
  · exact h.elim
set_option maxHeartbeats 4000000 in
theorem ez_s_iastore  (hx : p.tables.exec = Jvm.exec) (hgo : ∀ pc ls st M, K pc ls st M → ez_AW p l e { frames := d, cells := 0, slots := 0, locals := 36 * d } s m args below meth c L D cA ad Q pc ls st M) (hK : va_K D vwCl (ez_tys cA) s) (hdg : decode c.code pc = .ok (.iastore, 1)) (h : ez_step L E K Q pc ls st M (.iastore)) : ez_AW p l e { frames := d, cells := 0, slots := 0, locals := 36 * d } s m args below meth c L D cA ad Q pc ls st M := by
  intro hls hst hM H locs lsC hP hD hS hl
  dsimp only [ez_step] at h
  split at h
  · rename_i x i q r
    split at h
    · rename_i n hq
      obtain ⟨⟨h0, h1⟩, h⟩ := h
      have hxx := ez_hd hst
      have hi := ez_hd (ez_tl hst)
      have hm : ez_mok L (ez_up M q i.toNat x) := ez_mok_up hM (by rw [hq]; exact hxx)
      refine va_iast hx rfl hK hP hD hS q 0 (ez_ws_at hq) rfl (ez_vin hi h0 h1) hdg (fun H locs hP hD hS => ?_)
      rw [ez_nat hi] at hP hD
      rw [ez_ws_set (M' := ez_up M q i.toNat x) hq (by
        rw [ez_up_row]
        show Sum.inl _ = Sum.inl _
        congr 4
        funext j
        by_cases hj : j = i.toNat <;> simp [upd, hj]) ez_up_ne] at hP hD
      exact hgo _ _ _ _ h hls (ez_tl (ez_tl (ez_tl hst))) hm H locs lsC hP hD hS hl
    · exact h.elim
  · exact h.elim
set_option maxHeartbeats 4000000 in
theorem ez_s_lastore  (hx : p.tables.exec = Jvm.exec) (hgo : ∀ pc ls st M, K pc ls st M → ez_AW p l e { frames := d, cells := 0, slots := 0, locals := 36 * d } s m args below meth c L D cA ad Q pc ls st M) (hK : va_K D vwCl (ez_tys cA) s) (hdg : decode c.code pc = .ok (.lastore, 1)) (h : ez_step L E K Q pc ls st M (.lastore)) : ez_AW p l e { frames := d, cells := 0, slots := 0, locals := 36 * d } s m args below meth c L D cA ad Q pc ls st M := by
  intro hls hst hM H locs lsC hP hD hS hl
  dsimp only [ez_step] at h
  split at h
  · rename_i x i q r
    split at h
    · rename_i n hq
      obtain ⟨⟨h0, h1⟩, h⟩ := h
      have hxx := ez_hd hst
      have hi := ez_hd (ez_tl hst)
      have hm : ez_mok L (ez_up M q i.toNat x) := ez_mok_up hM (by rw [hq]; exact hxx)
      refine va_last hx rfl hK hP hD hS q 1 (ez_ws_at hq) rfl (ez_vin hi h0 h1) hdg (fun H locs hP hD hS => ?_)
      rw [ez_nat hi] at hP hD
      rw [ez_ws_set (M' := ez_up M q i.toNat x) hq (by
        rw [ez_up_row]
        show Sum.inl _ = Sum.inl _
        congr 5
        funext j
        by_cases hj : j = i.toNat <;> simp [vp_updL, hj]) ez_up_ne] at hP hD
      exact hgo _ _ _ _ h hls (ez_tl (ez_tl (ez_tl hst))) hm H locs lsC hP hD hS hl
    · exact h.elim
  · exact h.elim
set_option maxHeartbeats 4000000 in
theorem ez_s_bastore  (hx : p.tables.exec = Jvm.exec) (hgo : ∀ pc ls st M, K pc ls st M → ez_AW p l e { frames := d, cells := 0, slots := 0, locals := 36 * d } s m args below meth c L D cA ad Q pc ls st M) (hK : va_K D vwCl (ez_tys cA) s) (hdg : decode c.code pc = .ok (.bastore, 1)) (h : ez_step L E K Q pc ls st M (.bastore)) : ez_AW p l e { frames := d, cells := 0, slots := 0, locals := 36 * d } s m args below meth c L D cA ad Q pc ls st M := by
  intro hls hst hM H locs lsC hP hD hS hl
  dsimp only [ez_step] at h
  split at h
  · rename_i x i q r
    split at h
    · rename_i n hq
      obtain ⟨⟨⟨h0, h1⟩, hz⟩, h⟩ := h
      have hxx := ez_hd hst
      have hi := ez_hd (ez_tl hst)
      have hm : ez_mok L (ez_up M q i.toNat x) := ez_mok_up hM (by rw [hq]; exact hxx)
      refine va_zast hx rfl hK hP hD hS q 2 (ez_ws_at hq) rfl (ez_vin hi h0 h1) hdg (fun H locs hP hD hS => ?_)
      rw [ez_nat hi] at hP hD
      have hnx : vp_nar .boolean (Int32.ofInt x) = Int32.ofInt x := by rcases hz with rfl | rfl <;> rfl
      rw [hnx] at hP hD
      rw [ez_ws_set (M' := ez_up M q i.toNat x) hq (by
        rw [ez_up_row]
        show Sum.inl _ = Sum.inl _
        congr 4
        funext j
        by_cases hj : j = i.toNat <;> simp [upd, hj]) ez_up_ne] at hP hD
      exact hgo _ _ _ _ h hls (ez_tl (ez_tl (ez_tl hst))) hm H locs lsC hP hD hS hl
    · exact h.elim
  · exact h.elim
end EZS
