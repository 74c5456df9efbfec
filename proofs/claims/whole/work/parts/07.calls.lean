/-! ===== switches, fields, calls, ends ===== -/
def ez_Lok (L : ez_L) : Prop := ∀ (q ci : Nat) (fs : List (Option Nat)), ez_nth L q = some (.inr (ci, fs)) → ∀ k t : Nat, ez_nth fs k = some (some t) → t < L.length
theorem ez_fl_get {ad : Nat → Nat} {f : Nat → Int} {fs : List (Option Nat)} {k : Nat} {o : Option Nat} (h : ez_nth fs k = some o) : (fs.mapIdx (ez_fl ad f))[k]? = some (ez_fl ad f k o) := by
  rw [ez_nth_eq] at h
  rw [List.getElem?_mapIdx, h]
  rfl
theorem ez_fl_set {ad : Nat → Nat} {M : ez_M} {q k : Nat} {x : Int} {fs : List (Option Nat)} (h : ez_nth fs k = some none) : (fs.mapIdx (ez_fl ad (M q))).set k (.int (Int32.ofInt x)) = fs.mapIdx (ez_fl ad (ez_up M q k x q)) := by
  rw [ez_nth_eq] at h
  apply List.ext_getElem?
  intro i
  rw [List.getElem?_set, List.getElem?_mapIdx, List.getElem?_mapIdx]
  by_cases hk : k = i
  · subst hk
    have hl : k < (fs.mapIdx (ez_fl ad (M q))).length := by
      have := (List.getElem?_eq_some_iff.mp h).1
      simpa using this
    rw [if_pos rfl, if_pos hl, h]
    simp [ez_fl, ez_up]
  · rw [if_neg hk]
    cases hf : fs[i]? with
    | none => rfl
    | some o =>
      cases o with
      | some t => rfl
      | none =>
        have : ¬ i = k := fun e => hk e.symm
        simp [ez_fl, ez_up, this]
theorem ez_tsw_at {K : Nat → Prop} {pc : Nat} {x lo : Int} : ∀ {l : List Int} {n : Nat}, ez_tsw K pc x lo n l → ∀ (j : Nat) (off : Int), l[j]? = some off → x = lo + ((n + j : Nat) : Int) → ez_tgtok pc off = true ∧ K (ez_tgt pc off)
  | [], n, _, j, off, hj, _ => by simp at hj
  | o :: r, n, h, 0, off, hj, hx => by
    simp at hj
    subst hj
    exact h.1 hx
  | o :: r, n, h, j + 1, off, hj, hx => by
    refine ez_tsw_at h.2 j off (by simpa using hj) (by rw [hx]; congr 2; omega)
theorem ez_take_eq : ∀ {n : Nat} {acc st as r : List ez_V}, ez_take n acc st = some (as, r) → ∃ pre : List ez_V, pre.length = n ∧ st = pre ++ r ∧ as = pre.reverse ++ acc
  | 0, acc, st, as, r, h => by
    cases h
    exact ⟨[], rfl, rfl, rfl⟩
  | n + 1, acc, [], as, r, h => by cases h
  | n + 1, acc, v :: st, as, r, h => by
    obtain ⟨pre, h1, h2, h3⟩ := ez_take_eq (n := n) (acc := v :: acc) h
    exact ⟨v :: pre, by rw [List.length_cons, h1], by rw [h2]; rfl, by rw [h3]; simp⟩
theorem ez_goodAll {y : MethodName} {bytes : ByteArray} {maxL : Nat} {ret : Option FieldType} (h : Cond.code y bytes maxL ret ∈ ez_TW) : GoodIn ez_TW (Cond.code y bytes maxL ret :: ez_TW) := by
  intro w hw
  have hm : w ∈ ez_TW := by
    rcases List.mem_cons.mp hw with rfl | hw
    · exact h
    · exact hw
  exact ⟨hm, good_of_word (List.mem_filter.mp hm).2⟩
section EZC
variable {p : Program} {l : Launch} {e : Env} {s : State} {m : MethodId} {args : Array Value} {below : List Frame} {meth : Method} {c : Code}
variable {L : ez_L} {D : va_G} {cA : Nat → ClassId} {ad : Nat → Nat} {Q : Option ez_V → ez_M → Prop} {own : String} {E : ez_E} {d : Nat} {K : Nat → ez_Ls → List ez_V → ez_M → Prop} {pc : Nat} {ls : ez_Ls} {st : List ez_V} {M : ez_M}
set_option maxHeartbeats 4000000 in
theorem ez_s_tableswitch {d0 lo hi : Int} {offs : Array Int} {n : Nat} (hx : p.tables.exec = Jvm.exec) (hgo : ∀ pc ls st M, K pc ls st M → ez_AW p l e { frames := d, cells := 0, slots := 0, locals := 36 * d } s m args below meth c L D cA ad Q pc ls st M) (hdg : decode c.code pc = .ok (.tableswitch d0 lo hi offs, n)) (h : ez_step L E K Q pc ls st M (.tableswitch d0 lo hi offs)) : ez_AW p l e { frames := d, cells := 0, slots := 0, locals := 36 * d } s m args below meth c L D cA ad Q pc ls st M := by
  intro hls hst hM H locs lsC hP hD hS hl
  dsimp only [ez_step] at h
  split at h
  · rename_i x r ht
    obtain ⟨h1, h2, h3⟩ := h
    have hxx := ez_i (ez_hd hst)
    by_cases ho : x < lo ∨ hi < x
    · exact lv_tableOut hx rfl hdg (by rw [hxx]; exact ho) (ez_tg ht) (hgo _ _ _ _ (h1 ho) hls (ez_tl hst) hM H locs lsC hP hD hS hl)
    · have hlo : ¬ x < lo := fun q => ho (Or.inl q)
      have hhi : ¬ hi < x := fun q => ho (Or.inr q)
      have hj : (x - lo).toNat < offs.toList.length := by omega
      have hge : offs.toList[(x - lo).toNat]? = some (offs.toList[(x - lo).toNat]) := List.getElem?_eq_getElem hj
      obtain ⟨g1, g2⟩ := ez_tsw_at h3 _ _ hge (by omega)
      refine lv_tableIn hx rfl hdg (by rw [hxx]; exact hlo) (by rw [hxx]; exact hhi) (off := offs.toList[(x - lo).toNat]) (by rw [hxx, ← Array.getElem?_toList]; exact hge) (ez_tg g1) ?_
      exact hgo _ _ _ _ g2 hls (ez_tl hst) hM H locs lsC hP hD hS hl
  · exact h.elim
set_option maxHeartbeats 4000000 in
theorem ez_s_getfield {i : Nat} (hx : p.tables.exec = Jvm.exec) (hgo : ∀ pc ls st M, K pc ls st M → ez_AW p l e { frames := d, cells := 0, slots := 0, locals := 36 * d } s m args below meth c L D cA ad Q pc ls st M) (hL : ez_Lok L) (hown : s.vm.findClass own = some m.cls) (hts : ∀ w ∈ ez_TW, w.before args s = true) (hnw : ∀ w ∈ ez_NW, va_Nw w s) (hK : va_K D vwCl (ez_tys cA) s) (hF : ∀ q ∈ E.1, ez_FldOK own q)
    (hdg : decode c.code pc = .ok (.getfield i, 3)) (h : ez_step L E K Q pc ls st M (.getfield i)) : ez_AW p l e { frames := d, cells := 0, slots := 0, locals := 36 * d } s m args below meth c L D cA ad Q pc ls st M := by
  intro hls hst hM H locs lsC hP hD hS hl
  dsimp only [ez_step] at h
  split at h
  · rename_i q r ci k b hlk
    obtain ⟨C, T, N, ty, hc, hkN, hin, hty, hnm, -, -, hlink⟩ := hF _ (ez_lk_mem hlk)
    dsimp only at hc hkN hlink
    split at h
    · rename_i cj fs hq
      split at h
      · rename_i t hbe hkt
        have hcc : ci = cj := Nat.eq_of_beq_eq_true hbe
        subst hcc
        have hv : (fs.mapIdx (ez_fl ad (M q)))[k]? = some (.ref (ad t)) := ez_fl_get hkt
        have go := hgo _ _ _ _ h hls (ez_cons_ok (v := .inr (.inr t)) (hL q ci fs hq k t hkt) (ez_tl hst)) hM H locs lsC hP hD hS hl
        rcases hlink with hlink | ⟨host, hlink⟩
        · exact va_get hx rfl hts hin hown hK hP q (ez_ws_at hq) hc k hkN (hts _ hlink) (fun _ h9 => h9) hv hdg go
        · exact va_getN hx rfl hts hin hown hK hP q (ez_ws_at hq) hc k hkN (va_Nw.use rfl (hnw _ hlink)) (fun _ h9 => h9) hv hdg go
      · rename_i hbe hkt
        have hcc : ci = cj := Nat.eq_of_beq_eq_true hbe
        subst hcc
        have hv : (fs.mapIdx (ez_fl ad (M q)))[k]? = some (.int (Int32.ofInt (M q k))) := ez_fl_get hkt
        have hm := hM q k
        rw [hq] at hm
        have go := hgo _ _ _ _ h hls (ez_cons_ok (v := .inl (M q k)) hm (ez_tl hst)) hM H locs lsC hP hD hS hl
        rcases hlink with hlink | ⟨host, hlink⟩
        · exact va_get hx rfl hts hin hown hK hP q (ez_ws_at hq) hc k hkN (hts _ hlink) (fun _ h9 => h9) hv hdg go
        · exact va_getN hx rfl hts hin hown hK hP q (ez_ws_at hq) hc k hkN (va_Nw.use rfl (hnw _ hlink)) (fun _ h9 => h9) hv hdg go
      · exact h.elim
    · exact h.elim
  · exact h.elim
theorem ez_put_go {i ci k q : Nat} {x : Int} {r : List ez_V} {fs : List (Option Nat)} {ty : FieldType} {C : String} {T : u_T} {N : Nat} {tyf : Nat → FieldType} (hx : p.tables.exec = Jvm.exec) (hgo : ∀ pc ls st M, K pc ls st M → ez_AW p l e { frames := d, cells := 0, slots := 0, locals := 36 * d } s m args below meth c L D cA ad Q pc ls st M) (hown : s.vm.findClass own = some m.cls) (hts : ∀ w ∈ ez_TW, w.before args s = true) (hnw : ∀ w ∈ ez_NW, va_Nw w s) (hK : va_K D vwCl (ez_tys cA) s)
    (hc : vwCl[ci]? = some (C, T, N)) (hkN : k < N) (hin : ∀ w ∈ u_ws C T N, w ∈ ez_TW) (hty : ∀ k, k < N → parseFieldDescriptor (T k).2.2.1 = some (tyf k)) (hnm : ∀ a, a < N → ∀ b, b < N → a ≠ b → (T a).2.1 ≠ (T b).2.1) (hfin : (T k).2.2.2 = false) (htk : tyf k = ty)
    (hlink : Cond.fieldLink own i (T k).1 (T k).2.1 (T k).2.2.1 ∈ ez_TW ∨ ∃ host, Cond.fieldLinkNest own i (T k).1 (T k).2.1 (T k).2.2.1 host ∈ ez_NW)
    (hq : ez_nth L q = some (.inr (ci, fs))) (hkt : ez_nth fs k = some none) (hn : narrow ty (.int (Int32.ofInt x)) = .int (Int32.ofInt x)) (hfit : fits ty (.int (Int32.ofInt x)) = true)
    (hdg : decode c.code pc = .ok (.putfield i, 3)) (h : K (pc + 3) ls r (ez_up M q k x)) : ez_AW p l e { frames := d, cells := 0, slots := 0, locals := 36 * d } s m args below meth c L D cA ad Q pc ls (.inl x :: .inr (.inr q) :: r) M := by
  intro hls hst hM H locs lsC hP hD hS hl
  have hm : ez_mok L (ez_up M q k x) := ez_mok_up hM (by rw [hq]; exact ez_hd hst)
  have hd : parseFieldDescriptor (T k).2.2.1 = some ty := by rw [← htk]; exact hty k hkN
  have hlen : k < (fs.mapIdx (ez_fl ad (M q))).length := by
    have h1 := hkt
    rw [ez_nth_eq] at h1
    have := (List.getElem?_eq_some_iff.mp h1).1
    simpa using this
  have go : ∀ (H1 : Heap) (locs1 : List Loc), va_P D vwCl ((ez_ws L cA ad M).set q (ad q, .inr (ci, (fs.mapIdx (ez_fl ad (M q))).set k (.int (Int32.ofInt x))))) H1 → va_D (ez_A L ad) ((ez_ws L cA ad M).set q (ad q, .inr (ci, (fs.mapIdx (ez_fl ad (M q))).set k (.int (Int32.ofInt x))))) → va_S (ez_A L ad) s.heap H1 locs1 → W p l e { frames := d, cells := 0, slots := 0, locals := 36 * d } s m args below meth c H1 locs1 0 0 (MQ below (ez_Qc L D cA ad (ez_A L ad) Q) args s 0 0 (ez_A L ad)) (F0 m (pc + 3) lsC (r.map (ez_cv ad))) := by
    intro H1 locs1 hP hD hS
    rw [ez_ws_set (M' := ez_up M q k x) hq (by rw [ez_fl_set hkt]; rfl) ez_up_ne] at hP hD
    exact hgo _ _ _ _ h hls (ez_tl (ez_tl hst)) hm H1 locs1 lsC hP hD hS hl
  rcases hlink with hlink | ⟨host, hlink⟩
  · exact va_put hx rfl hts hin tyf hty hnm hown hK hP hD hS q (ez_ws_at hq) hc k hkN (hts _ hlink) (fun _ h9 => h9) hfin hd hn hfit hlen hdg go
  · exact va_putN hx rfl hts hin tyf hty hnm hown hK hP hD hS q (ez_ws_at hq) hc k hkN (va_Nw.use rfl (hnw _ hlink)) (fun _ h9 => h9) hfin hd hn hfit hlen hdg go
set_option maxHeartbeats 4000000 in
theorem ez_s_putfield {i : Nat} (hx : p.tables.exec = Jvm.exec) (hgo : ∀ pc ls st M, K pc ls st M → ez_AW p l e { frames := d, cells := 0, slots := 0, locals := 36 * d } s m args below meth c L D cA ad Q pc ls st M) (hown : s.vm.findClass own = some m.cls) (hts : ∀ w ∈ ez_TW, w.before args s = true) (hnw : ∀ w ∈ ez_NW, va_Nw w s) (hK : va_K D vwCl (ez_tys cA) s) (hF : ∀ q ∈ E.1, ez_FldOK own q)
    (hdg : decode c.code pc = .ok (.putfield i, 3)) (h : ez_step L E K Q pc ls st M (.putfield i)) : ez_AW p l e { frames := d, cells := 0, slots := 0, locals := 36 * d } s m args below meth c L D cA ad Q pc ls st M := by
  dsimp only [ez_step] at h
  split at h
  · rename_i x q r ci k b hlk
    obtain ⟨C, T, N, ty, hc, hkN, hin, hty, hnm, hb0, hb1, hlink⟩ := hF _ (ez_lk_mem hlk)
    dsimp only at hc hkN hlink hb0 hb1
    split at h
    · rename_i cj fs hq
      split at h
      · rename_i hbe hkt
        have hcc : ci = cj := Nat.eq_of_beq_eq_true hbe
        subst hcc
        exact ez_put_go hx hgo hown hts hnw hK hc hkN hin hty hnm (hb0 rfl).1 (hb0 rfl).2 hlink hq hkt rfl rfl hdg h
      · rename_i hbe hkt
        have hcc : ci = cj := Nat.eq_of_beq_eq_true hbe
        subst hcc
        obtain ⟨hz, h⟩ := h
        exact ez_put_go hx hgo hown hts hnw hK hc hkN hin hty hnm (hb1 rfl).1 (hb1 rfl).2 hlink hq hkt (by rcases hz with rfl | rfl <;> rfl) (by rcases hz with rfl | rfl <;> rfl) hdg h
      · exact h.elim
    · exact h.elim
  · exact h.elim
/-- behind a call -/
theorem ez_fin {H : Heap} {locs : List Loc} {lsC : Array Slot} {st0 : List Value} {r : List ez_V} {a : Array Value} (hgo : ∀ pc ls st M, K pc ls st M → ez_AW p l e { frames := d, cells := 0, slots := 0, locals := 36 * d } s m args below meth c L D cA ad Q pc ls st M)
    (hr : va_Run p l e { frames := d, cells := 0, slots := 0, locals := 36 * d } s m args below meth c H locs 0 0 0 0 (F0 m pc lsC st0) (r.map (ez_cv ad)) (ez_Qc L D cA ad (ez_A L ad) (fun v M' => K (pc + 3) ls (ez_psh v r) M') a) (ez_A L ad))
    (hls : ∀ q ∈ ls, ez_ok L.length q.2) (hst : ∀ v ∈ r, ez_ok L.length v) (hD : va_D (ez_A L ad) (ez_ws L cA ad M)) (hS : va_S (ez_A L ad) s.heap H locs) (hl : lv_has lsC c.maxLocals (ls.map (fun q => (q.1, ez_cv ad q.2)))) :
    W p l e { frames := d, cells := 0, slots := 0, locals := 36 * d } s m args below meth c H locs 0 0 (MQ below (ez_Qc L D cA ad (ez_A L ad) Q) args s 0 0 (ez_A L ad)) (F0 m pc lsC st0) := by
  intro T hT X
  obtain ⟨v, st₀, t, T', L9, h0, X', hL, e1, e2, ⟨⟨w, M', hv, hwo, hm, hq, hp⟩, hz, hk⟩, steps⟩ := hr T hT X
  have hv : v = w.map (ez_cv ad) := by injection hv
  rw [h0] at hz hk
  have go := hgo _ _ _ _ hq hls (by
    cases w with
    | none => exact hst
    | some w => exact ez_cons_ok (hwo w rfl) hst) hm T'.heap (locs ++ L9) lsC (by rw [e1]; exact hp) (ez_ad hD) ⟨Nat.le_trans hS.1 (by rw [e1]; exact hz), fun q h1 h2 => by rw [e1, hk q (Nat.lt_of_lt_of_le h1 hS.1) h2]; exact hS.2.1 q h1 h2, fun q hq => by
      rcases List.mem_append.mp hq with h | h
      · exact hS.2.2 q h
      · exact hL q h⟩ hl
  obtain ⟨t2, a1, b1⟩ := go T' rfl X'
  refine ⟨t2, steps t2 ?_, b1⟩
  subst hv
  cases w <;> exact a1
set_option maxHeartbeats 4000000 in
theorem ez_s_invokestatic {i : Nat} (hx : p.tables.exec = Jvm.exec) (hgo : ∀ pc ls st M, K pc ls st M → ez_AW p l e { frames := d, cells := 0, slots := 0, locals := 36 * d } s m args below meth c L D cA ad Q pc ls st M) (hown : s.vm.findClass own = some m.cls) (hts : ∀ w ∈ ez_TW, w.before args s = true) (hnw : ∀ w ∈ ez_NW, va_Nw w s) (hK : va_K D vwCl (ez_tys cA) s) (hCa : ∀ q ∈ E.2.2.1, ez_CallOK L own d q)
    (hdg : decode c.code pc = .ok (.invokestatic i, 3)) (h : ez_step L E K Q pc ls st M (.invokestatic i)) : ez_AW p l e { frames := d, cells := 0, slots := 0, locals := 36 * d } s m args below meth c L D cA ad Q pc ls st M := by
  intro hls hst hM H locs lsC hP hD hS hl
  dsimp only [ez_step] at h
  split at h
  · rename_i n sp hlk
    obtain ⟨y, bytes, maxL, ret, d', hSo, hdd, hmx, hcode, hini, hno, hlink, hkind⟩ := hCa _ (ez_lk_mem hlk)
    dsimp only at hSo hno hlink hkind
    split at h
    · rename_i as r htk
      split at h
      · rename_i hroom
        have hroom : ez_sum r ≤ 8 := Nat.le_of_ble_eq_true hroom
        obtain ⟨pre, hp1, hp2, hp3⟩ := ez_take_eq htk
        rw [List.append_nil] at hp3
        subst hp3
        subst hp2
        have hsr : ∀ v ∈ r, ez_ok L.length v := fun v hv => hst v (List.mem_append_right _ hv)
        have hsa : ∀ v ∈ pre.reverse, ez_ok L.length v := fun v hv => hst v (List.mem_append_left _ (List.mem_reverse.mp hv))
        have hMet := hSo l D cA ad pre.reverse M _ hsa hM h
        have hpre : PreS s H (ez_Pc L D cA ad pre.reverse M) (pre.reverse.map (ez_cv ad)) := ⟨ez_blind, fun U hU hW => ⟨rfl, by rw [hU]; exact hP, hD, va_K.moved hW.alike hK, ez_nwMove hW hnw⟩⟩
        have hstk : ((pre ++ r).map (ez_cv ad)) = (pre.reverse.map (ez_cv ad)).reverse ++ r.map (ez_cv ad) := by simp
        have hR : ({ frames := d', cells := 0, slots := 0, locals := 36 * d' } : Room).frames + 1 ≤ ({ frames := d, cells := 0, slots := 0, locals := 36 * d } : Room).frames ∧ 8 + (maxL + 11) + ({ frames := d', cells := 0, slots := 0, locals := 36 * d' } : Room).locals ≤ ({ frames := d, cells := 0, slots := 0, locals := 36 * d } : Room).locals := ⟨by show d' + 1 ≤ d; omega, by show 8 + (maxL + 11) + 36 * d' ≤ 36 * d; omega⟩
        have hCF : CallFix p m c c.code c.maxLocals s args ez_TW own := ⟨hx, rfl, rfl, hown, hts⟩
        rcases hlink with hlink | ⟨host, hlink⟩
        · exact ez_fin hgo (va_runS (n := n) hCF hMet ⟨callB_of n hts (ez_goodAll hcode) rfl rfl rfl (hts _ hini) (hts _ hlink) hno hR, hts _ hkind⟩ hpre rfl (by simp [hp1]) hl.1 hstk (lv_room (by rw [ez_sum_eq]; exact hroom)) hdg ⟨Nat.le_refl _, Nat.le_refl _⟩) hls hsr hD hS hl
        · exact ez_fin hgo (va_runSN (n := n) hCF hMet ⟨va_cnB n hts (ez_goodAll hcode) rfl rfl rfl (hnw _ hlink) (hts _ hini) hno hR, hts _ hkind, trivial⟩ hpre rfl (by simp [hp1]) hl.1 hstk (lv_room (by rw [ez_sum_eq]; exact hroom)) hdg ⟨Nat.le_refl _, Nat.le_refl _⟩) hls hsr hD hS hl
      · exact h.elim
    · exact h.elim
  · exact h.elim
set_option maxHeartbeats 4000000 in
theorem ez_s_invokevirtual {i : Nat} (hx : p.tables.exec = Jvm.exec) (hgo : ∀ pc ls st M, K pc ls st M → ez_AW p l e { frames := d, cells := 0, slots := 0, locals := 36 * d } s m args below meth c L D cA ad Q pc ls st M) (hown : s.vm.findClass own = some m.cls) (hts : ∀ w ∈ ez_TW, w.before args s = true) (hnw : ∀ w ∈ ez_NW, va_Nw w s) (hK : va_K D vwCl (ez_tys cA) s) (hCa : ∀ q ∈ E.2.2.1, ez_CallOK L own d q)
    (hdg : decode c.code pc = .ok (.invokevirtual i, 3)) (h : ez_step L E K Q pc ls st M (.invokevirtual i)) : ez_AW p l e { frames := d, cells := 0, slots := 0, locals := 36 * d } s m args below meth c L D cA ad Q pc ls st M := by
  intro hls hst hM H locs lsC hP hD hS hl
  dsimp only [ez_step] at h
  split at h
  · rename_i ci n sp hlk
    obtain ⟨y, bytes, maxL, ret, d', hSo, hdd, hmx, hcode, hini, hno, hlink, hinst, hsel, TT, NN, hcl⟩ := hCa _ (ez_lk_mem hlk)
    dsimp only at hSo hno hlink hcl
    split at h
    · rename_i as q r htk
      split at h
      · rename_i cj fs hq hroom
        split at h
        · rename_i hbe
          have hcc : ci = cj := Nat.eq_of_beq_eq_true hbe
          subst hcc
          have hroom : ez_sum r ≤ 8 := Nat.le_of_ble_eq_true hroom
          obtain ⟨pre, hp1, hp2, hp3⟩ := ez_take_eq htk
          rw [List.append_nil] at hp3
          subst hp3
          subst hp2
          have hsr : ∀ v ∈ r, ez_ok L.length v := fun v hv => hst v (List.mem_append_right _ (List.mem_cons_of_mem _ hv))
          have hsa : ∀ v ∈ (.inr (.inr q) :: pre.reverse : List ez_V), ez_ok L.length v := ez_cons_ok (hst _ (List.mem_append_right _ List.mem_cons_self)) (fun v hv => hst v (List.mem_append_left _ (List.mem_reverse.mp hv)))
          have hMet := hSo l D cA ad (.inr (.inr q) :: pre.reverse) M _ hsa hM h
          have hpre : PreV s H y.cls (ad q) (ez_Pc L D cA ad (.inr (.inr q) :: pre.reverse) M) (pre.reverse.map (ez_cv ad)) := ⟨ez_blind, va_recv hK hP hcl (ez_ws_at hq), fun U hU hW => ⟨rfl, by rw [hU]; exact hP, hD, va_K.moved hW.alike hK, ez_nwMove hW hnw⟩⟩
          have hstk : ((pre ++ .inr (.inr q) :: r).map (ez_cv ad)) = (pre.reverse.map (ez_cv ad)).reverse ++ .ref (ad q) :: r.map (ez_cv ad) := by simp [ez_cv]
          have hR : ({ frames := d', cells := 0, slots := 0, locals := 36 * d' } : Room).frames + 1 ≤ ({ frames := d, cells := 0, slots := 0, locals := 36 * d } : Room).frames ∧ 8 + (maxL + 11) + ({ frames := d', cells := 0, slots := 0, locals := 36 * d' } : Room).locals ≤ ({ frames := d, cells := 0, slots := 0, locals := 36 * d } : Room).locals := ⟨by show d' + 1 ≤ d; omega, by show 8 + (maxL + 11) + 36 * d' ≤ 36 * d; omega⟩
          have hCF : CallFix p m c c.code c.maxLocals s args ez_TW own := ⟨hx, rfl, rfl, hown, hts⟩
          rcases hlink with hlink | ⟨host, hlink⟩
          · exact ez_fin hgo (va_runV (n := n) hCF hMet ⟨callB_of n hts (ez_goodAll hcode) rfl rfl rfl (hts _ hini) (hts _ hlink) hno hR, hts _ hinst, hts _ hsel⟩ hpre rfl (by simp [hp1]) hl.1 hstk (lv_room (by rw [ez_sum_eq]; exact hroom)) hdg ⟨Nat.le_refl _, Nat.le_refl _⟩) hls hsr hD hS hl
          · exact ez_fin hgo (va_runVN (n := n) hCF hMet ⟨va_cnB n hts (ez_goodAll hcode) rfl rfl rfl (hnw _ hlink) (hts _ hini) hno hR, hts _ hinst, hts _ hsel⟩ hpre rfl (by simp [hp1]) hl.1 hstk (lv_room (by rw [ez_sum_eq]; exact hroom)) hdg ⟨Nat.le_refl _, Nat.le_refl _⟩) hls hsr hD hS hl
        · exact h.elim
      · exact h.elim
    · exact h.elim
  · exact h.elim
set_option maxHeartbeats 4000000 in
theorem ez_s_ireturn (hx : p.tables.exec = Jvm.exec) (hlocks : meth.locks = false) (hret : ez_RetOK meth E.2.2.2.1) (hdg : decode c.code pc = .ok (.ireturn, 1)) (h : ez_step L E K Q pc ls st M .ireturn) : ez_AW p l e { frames := d, cells := 0, slots := 0, locals := 36 * d } s m args below meth c L D cA ad Q pc ls st M := by
  intro hls hst hM H locs lsC hP hD hS hl
  dsimp only [ez_step] at h
  split at h
  · rename_i x hk
    rw [hk] at hret
    have hret : meth.sig.returnType = some .int := hret
    exact W.iret (v := Int32.ofInt x) hx rfl hret (fun t ht hW => ⟨⟨some (.inl x), M, rfl, (fun w hw => by cases hw; exact ez_hd hst), hM, h, by rw [ht]; exact hP⟩, hS.F ht⟩) hS.2.2 hdg hlocks
  · rename_i x hk
    rw [hk] at hret
    have hret : meth.sig.returnType = some .boolean := hret
    obtain ⟨hz, h⟩ := h
    exact W.zret (v := Int32.ofInt x) hx rfl hret (by rcases hz with rfl | rfl <;> rfl) (fun t ht hW => ⟨⟨some (.inl x), M, rfl, (fun w hw => by cases hw; exact ez_hd hst), hM, h, by rw [ht]; exact hP⟩, hS.F ht⟩) hS.2.2 hdg hlocks
  · exact h.elim
set_option maxHeartbeats 4000000 in
theorem ez_s_lreturn (hx : p.tables.exec = Jvm.exec) (hlocks : meth.locks = false) (hret : ez_RetOK meth E.2.2.2.1) (hdg : decode c.code pc = .ok (.lreturn, 1)) (h : ez_step L E K Q pc ls st M .lreturn) : ez_AW p l e { frames := d, cells := 0, slots := 0, locals := 36 * d } s m args below meth c L D cA ad Q pc ls st M := by
  intro hls hst hM H locs lsC hP hD hS hl
  dsimp only [ez_step] at h
  split at h
  · rename_i x hk
    rw [hk] at hret
    have hret : meth.sig.returnType = some .long := hret
    exact W.lret (v := Int64.ofInt x) hx rfl hret (fun t ht hW => ⟨⟨some (.inr (.inl x)), M, rfl, (fun w hw => by cases hw; exact ez_hd hst), hM, h, by rw [ht]; exact hP⟩, hS.F ht⟩) hS.2.2 hdg hlocks
  · exact h.elim
set_option maxHeartbeats 4000000 in
theorem ez_s_return_ (hx : p.tables.exec = Jvm.exec) (hlocks : meth.locks = false) (hret : ez_RetOK meth E.2.2.2.1) (hdg : decode c.code pc = .ok (.return_, 1)) (h : ez_step L E K Q pc ls st M .return_) : ez_AW p l e { frames := d, cells := 0, slots := 0, locals := 36 * d } s m args below meth c L D cA ad Q pc ls st M := by
  intro hls hst hM H locs lsC hP hD hS hl
  dsimp only [ez_step] at h
  split at h
  · rename_i hk
    rw [hk] at hret
    have hret : meth.sig.returnType = none := hret
    exact W.vret hx rfl hret (fun t ht hW => ⟨⟨none, M, rfl, (fun w hw => by cases hw), hM, h, by rw [ht]; exact hP⟩, hS.F ht⟩) hS.2.2 hdg hlocks
  · exact h.elim
set_option maxHeartbeats 4000000 in
theorem ez_s_areturn (hx : p.tables.exec = Jvm.exec) (hlocks : meth.locks = false) (hret : ez_RetOK meth E.2.2.2.1) (hdg : decode c.code pc = .ok (.areturn, 1)) (h : ez_step L E K Q pc ls st M .areturn) : ez_AW p l e { frames := d, cells := 0, slots := 0, locals := 36 * d } s m args below meth c L D cA ad Q pc ls st M := by
  intro hls hst hM H locs lsC hP hD hS hl
  dsimp only [ez_step] at h
  split at h
  · rename_i q hk
    rw [hk] at hret
    obtain ⟨n, hret⟩ := hret
    exact W.aret (v := .ref (ad q)) hx rfl hret (Or.inl ⟨n, rfl⟩) (Or.inr ⟨_, rfl⟩) (fun t ht hW => ⟨⟨some (.inr (.inr q)), M, rfl, (fun w hw => by cases hw; exact ez_hd hst), hM, h, by rw [ht]; exact hP⟩, hS.F ht⟩) hS.2.2 hdg hlocks
  · exact h.elim
end EZC
