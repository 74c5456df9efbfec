/-! ===== the law: what holds at its loop's head, and its steps ===== -/
theorem q_1066 : (Jvm.Cond.constantLong "EastNearlyLaw" (44 : Nat) (4294967295 : Int64)) ∈ ez_TW := ez_tw 1066 (by decide +kernel) rfl
def ka (xs : Nat → Int32) (j : Nat) : Int := (xs j).toInt
def kb (x : Int32) : Int := if x = 0 then 0 else 1
theorem ka_ri (xs : Nat → Int32) (j : Nat) : ez_ri (ka xs j) := ez_ir (xs j)
theorem kb_01 (x : Int32) : kb x = 0 ∨ kb x = 1 := by
  unfold kb
  split
  · exact Or.inl rfl
  · exact Or.inr rfl
theorem kb_ri (x : Int32) : ez_ri (kb x) := by
  rcases kb_01 x with h | h <;> rw [h] <;> unfold ez_ri <;> omega
def kw_C (p : Program) (s : State) (m : MethodId) (c : Code) (b L : Nat) (xs : Nat → Int32) (D : va_G) (cA : Nat → ClassId) (adX adN : Nat → Nat) : Prop :=
  (p.tables.exec = Jvm.exec) ∧ (c.code = code) ∧ (c.maxLocals = 4) ∧ (s.vm.findClass R_law = some m.cls) ∧ (∀ w ∈ ez_TW, w.before #[Value.ref b] s = true) ∧ (∀ w ∈ ez_NW, va_Nw w s) ∧ (va_K D vwCl (ez_tys cA) s) ∧ (va_X b L xs s s.heap) ∧ (b < s.heap.size) ∧ (∀ M, va_D (ez_A LX adX) (ez_ws LX cA adX M)) ∧ (∀ M, va_D (ez_A LM adN) (ez_ws LM cA adN M)) ∧ (∀ q, ez_A LX adX q → s.heap.size ≤ q) ∧ (∀ q, ez_A LM adN q → s.heap.size ≤ q) ∧ (∀ (M : ez_M) (k : Nat) (x : Nat × va_E), (ez_ws LM cA adN M)[k]? = some x → ¬ ez_A LX adX x.1) ∧ (∀ (M : ez_M) (k : Nat) (x : Nat × va_E), (ez_ws LX cA adX M)[k]? = some x → ¬ ez_A LM adN x.1)
theorem kw_C.hx {p : Program} {s : State} {m : MethodId} {c : Code} {b L : Nat} {xs : Nat → Int32} {D : va_G} {cA : Nat → ClassId} {adX adN : Nat → Nat} (C : kw_C p s m c b L xs D cA adX adN) : p.tables.exec = Jvm.exec := C.1
theorem kw_C.hb {p : Program} {s : State} {m : MethodId} {c : Code} {b L : Nat} {xs : Nat → Int32} {D : va_G} {cA : Nat → ClassId} {adX adN : Nat → Nat} (C : kw_C p s m c b L xs D cA adX adN) : c.code = code := C.2.1
theorem kw_C.hml {p : Program} {s : State} {m : MethodId} {c : Code} {b L : Nat} {xs : Nat → Int32} {D : va_G} {cA : Nat → ClassId} {adX adN : Nat → Nat} (C : kw_C p s m c b L xs D cA adX adN) : c.maxLocals = 4 := C.2.2.1
theorem kw_C.hown {p : Program} {s : State} {m : MethodId} {c : Code} {b L : Nat} {xs : Nat → Int32} {D : va_G} {cA : Nat → ClassId} {adX adN : Nat → Nat} (C : kw_C p s m c b L xs D cA adX adN) : s.vm.findClass R_law = some m.cls := C.2.2.2.1
theorem kw_C.hts {p : Program} {s : State} {m : MethodId} {c : Code} {b L : Nat} {xs : Nat → Int32} {D : va_G} {cA : Nat → ClassId} {adX adN : Nat → Nat} (C : kw_C p s m c b L xs D cA adX adN) : ∀ w ∈ ez_TW, w.before #[Value.ref b] s = true := C.2.2.2.2.1
theorem kw_C.hnw {p : Program} {s : State} {m : MethodId} {c : Code} {b L : Nat} {xs : Nat → Int32} {D : va_G} {cA : Nat → ClassId} {adX adN : Nat → Nat} (C : kw_C p s m c b L xs D cA adX adN) : ∀ w ∈ ez_NW, va_Nw w s := C.2.2.2.2.2.1
theorem kw_C.hK {p : Program} {s : State} {m : MethodId} {c : Code} {b L : Nat} {xs : Nat → Int32} {D : va_G} {cA : Nat → ClassId} {adX adN : Nat → Nat} (C : kw_C p s m c b L xs D cA adX adN) : va_K D vwCl (ez_tys cA) s := C.2.2.2.2.2.2.1
theorem kw_C.hX {p : Program} {s : State} {m : MethodId} {c : Code} {b L : Nat} {xs : Nat → Int32} {D : va_G} {cA : Nat → ClassId} {adX adN : Nat → Nat} (C : kw_C p s m c b L xs D cA adX adN) : va_X b L xs s s.heap := C.2.2.2.2.2.2.2.1
theorem kw_C.hbl {p : Program} {s : State} {m : MethodId} {c : Code} {b L : Nat} {xs : Nat → Int32} {D : va_G} {cA : Nat → ClassId} {adX adN : Nat → Nat} (C : kw_C p s m c b L xs D cA adX adN) : b < s.heap.size := C.2.2.2.2.2.2.2.2.1
theorem kw_C.hDX {p : Program} {s : State} {m : MethodId} {c : Code} {b L : Nat} {xs : Nat → Int32} {D : va_G} {cA : Nat → ClassId} {adX adN : Nat → Nat} (C : kw_C p s m c b L xs D cA adX adN) : ∀ M, va_D (ez_A LX adX) (ez_ws LX cA adX M) := C.2.2.2.2.2.2.2.2.2.1
theorem kw_C.hDN {p : Program} {s : State} {m : MethodId} {c : Code} {b L : Nat} {xs : Nat → Int32} {D : va_G} {cA : Nat → ClassId} {adX adN : Nat → Nat} (C : kw_C p s m c b L xs D cA adX adN) : ∀ M, va_D (ez_A LM adN) (ez_ws LM cA adN M) := C.2.2.2.2.2.2.2.2.2.2.1
theorem kw_C.hAX {p : Program} {s : State} {m : MethodId} {c : Code} {b L : Nat} {xs : Nat → Int32} {D : va_G} {cA : Nat → ClassId} {adX adN : Nat → Nat} (C : kw_C p s m c b L xs D cA adX adN) : ∀ q, ez_A LX adX q → s.heap.size ≤ q := C.2.2.2.2.2.2.2.2.2.2.2.1
theorem kw_C.hAN {p : Program} {s : State} {m : MethodId} {c : Code} {b L : Nat} {xs : Nat → Int32} {D : va_G} {cA : Nat → ClassId} {adX adN : Nat → Nat} (C : kw_C p s m c b L xs D cA adX adN) : ∀ q, ez_A LM adN q → s.heap.size ≤ q := C.2.2.2.2.2.2.2.2.2.2.2.2.1
theorem kw_C.hdX {p : Program} {s : State} {m : MethodId} {c : Code} {b L : Nat} {xs : Nat → Int32} {D : va_G} {cA : Nat → ClassId} {adX adN : Nat → Nat} (C : kw_C p s m c b L xs D cA adX adN) : ∀ (M : ez_M) (k : Nat) (x : Nat × va_E), (ez_ws LM cA adN M)[k]? = some x → ¬ ez_A LX adX x.1 := C.2.2.2.2.2.2.2.2.2.2.2.2.2.1
theorem kw_C.hdN {p : Program} {s : State} {m : MethodId} {c : Code} {b L : Nat} {xs : Nat → Int32} {D : va_G} {cA : Nat → ClassId} {adX adN : Nat → Nat} (C : kw_C p s m c b L xs D cA adX adN) : ∀ (M : ez_M) (k : Nat) (x : Nat × va_E), (ez_ws LX cA adX M)[k]? = some x → ¬ ez_A LM adN x.1 := C.2.2.2.2.2.2.2.2.2.2.2.2.2.2
def kw_A (s : State) : Nat → Prop := fun q => s.heap.size ≤ q
def kw_D (s : State) (D : va_G) (cA : Nat → ClassId) (adX adN : Nat → Nat) (S : ff_S) (H : Heap) (locs : List Loc) : Prop := ∃ MX MN : ez_M, va_P D vwCl (ez_ws LX cA adX MX) H ∧ va_P D vwCl (ez_ws LM cA adN MN) H ∧ ez_mok LX MX ∧ ez_mok LM MN ∧ ff_X MX = S ∧ ff_N MN = S ∧ ff_Inv S ∧ va_S (kw_A s) s.heap H locs
def kw_l (adX adN : Nat → Nat) (b n : Nat) : List (Nat × Value) := [(3, .int (Int32.ofInt (n : Int))), (2, .ref (adN 0)), (1, .ref (adX 0)), (0, .ref b)]
def kw_case (pc : Nat) : Prop := ∀ {p : Program} {l : Launch} {e : Env} {s : State} {m : MethodId} {below : List Frame} {meth : Method} {c : Code} {b L : Nat} {xs : Nat → Int32} {D : va_G} {cA : Nat → ClassId} {adX adN : Nat → Nat} {H : Heap} {locs : List Loc} {ls : Array Slot} {n : Nat} {S : ff_S} {Qf : State → Prop}, kw_C p s m c b L xs D cA adX adN → L ≤ 3072 → n + 6 ≤ L → lv_has ls 4 (kw_l adX adN b n) → kw_D s D cA adX adN S H locs → (∀ (S' : ff_S) (H' : Heap) (locs' : List Loc), kw_D s D cA adX adN S' H' locs' → W p l e room_1 s m #[Value.ref b] below meth c H' locs' 39 23797 Qf (F0 m 1531 ls [])) → W p l e room_1 s m #[Value.ref b] below meth c H locs 39 23797 Qf (F0 m pc ls [])
section KG
variable {p : Program} {l : Launch} {e : Env} {s : State} {m : MethodId} {below : List Frame} {meth : Method} {c : Code} {b L : Nat} {xs : Nat → Int32} {D : va_G} {cA : Nat → ClassId} {adX adN : Nat → Nat} {H : Heap} {locs : List Loc} {ls : Array Slot} {n pc cells slots : Nat} {Qf : State → Prop} {rest : List Value} {R : Room}
/-- script[i + k] -/
theorem kg_arg {k : Nat} (C : kw_C p s m c b L xs D cA adX adN) (hL : L ≤ 3072) (hn : n + 6 ≤ L) (hl : lv_has ls 4 (kw_l adX adN b n)) (hS : va_S (kw_A s) s.heap H locs) (hk : k ≤ 5) (d1 : decode code pc = .ok (.aload_n 0, 1)) (d2 : decode code (pc + 1) = .ok (.iload_n 3, 1)) (d3 : decode code (pc + 2) = .ok (.iconst (k : Int), 1)) (d4 : decode code (pc + 3) = .ok (.iadd, 1)) (d5 : decode code (pc + 4) = .ok (.iaload, 1))
    (kk : W p l e R s m #[Value.ref b] below meth c H locs cells slots Qf (F0 m (pc + 5) ls (.int (Int32.ofInt (ka xs (n + k))) :: rest))) : W p l e R s m #[Value.ref b] below meth c H locs cells slots Qf (F0 m pc ls rest) := by
  refine lv_aload_n C.hx C.hb d1 rfl (lv_at hl 3 rfl) ?_
  refine lv_iload_n C.hx C.hb d2 rfl (lv_at hl 0 rfl) ?_
  refine lv_iconst C.hx C.hb d3 rfl ?_
  refine lv_iadd C.hx C.hb d4 ?_
  have hi : Int32.ofInt (n : Int) + Int32.ofInt (k : Int) = Int32.ofInt ((n + k : Nat) : Int) := by
    rw [← Int32.ofInt_add]
    congr 1
  have hr : ez_ri ((n + k : Nat) : Int) := by
    unfold ez_ri
    omega
  rw [hi]
  refine va_sld C.hx C.hb C.hX C.hbl (fun h => absurd C.hbl (Nat.not_lt.mpr h)) hS (ez_vin (n := L) hr (by omega) (by omega)) d5 ?_
  rw [ez_nat hr, Int.toNat_natCast]
  unfold ka at kk
  rw [ez_of32] at kk
  exact kk
/-- a boolean: script[i + k] != 0 -/
theorem kg_bool {v : Int32} (C : kw_C p s m c b L xs D cA adX adN) (d1 : decode code pc = .ok (.ifCond .eq 7, 3)) (d2 : decode code (pc + 3) = .ok (.iconst 1, 1)) (d3 : decode code (pc + 4) = .ok (.goto 4, 3)) (d4 : decode code (pc + 7) = .ok (.iconst 0, 1))
    (kk : W p l e R s m #[Value.ref b] below meth c H locs cells slots Qf (F0 m (pc + 8) ls (.int (Int32.ofInt (kb v)) :: rest))) : W p l e R s m #[Value.ref b] below meth c H locs cells slots Qf (F0 m pc ls (.int v :: rest)) := by
  refine lv_if_eq (tgt := pc + 7) C.hx C.hb d1 (by omega) (fun h => ?_) (fun h => ?_)
  · refine lv_iconst (v := 0) C.hx C.hb d4 rfl ?_
    have e : kb v = 0 := by unfold kb; rw [if_pos h]
    rw [e] at kk
    exact kk
  · refine lv_iconst (v := 1) C.hx C.hb d2 rfl ?_
    refine lv_goto (tgt := pc + 8) C.hx C.hb d3 (by omega) ?_
    have e : kb v = 1 := by unfold kb; rw [if_neg h]
    rw [e] at kk
    exact kk
/-- the long of write: two ints side by side -/
def kw_long (x y : Int32) : Int64 := (x.toInt64 <<< ((32 : Int32).toInt64 &&& 63)) ||| (y.toInt64 &&& 4294967295)
theorem kg_long (C : kw_C p s m c b L xs D cA adX adN) (hL : L ≤ 3072) (hn : n + 6 ≤ L) (hl : lv_has ls 4 (kw_l adX adN b n)) (hS : va_S (kw_A s) s.heap H locs)
    (a1 : decode code pc = .ok (.aload_n 0, 1)) (a2 : decode code (pc + 1) = .ok (.iload_n 3, 1)) (a3 : decode code (pc + 2) = .ok (.iconst 2, 1)) (a4 : decode code (pc + 3) = .ok (.iadd, 1)) (a5 : decode code (pc + 4) = .ok (.iaload, 1)) (d1 : decode code (pc + 5) = .ok (.i2l, 1)) (d2 : decode code (pc + 6) = .ok (.bipush 32, 2)) (d3 : decode code (pc + 8) = .ok (.lshl, 1))
    (b1 : decode code (pc + 9) = .ok (.aload_n 0, 1)) (b2 : decode code (pc + 10) = .ok (.iload_n 3, 1)) (b3 : decode code (pc + 11) = .ok (.iconst 3, 1)) (b4 : decode code (pc + 12) = .ok (.iadd, 1)) (b5 : decode code (pc + 13) = .ok (.iaload, 1)) (e1 : decode code (pc + 14) = .ok (.i2l, 1)) (e2 : decode code (pc + 15) = .ok (.ldc2_w 44, 3)) (e3 : decode code (pc + 18) = .ok (.land, 1)) (e4 : decode code (pc + 19) = .ok (.lor, 1))
    (kk : W p l e R s m #[Value.ref b] below meth c H locs cells slots Qf (F0 m (pc + 20) ls (.long (Int64.ofInt (kw_long (Int32.ofInt (ka xs (n + 2))) (Int32.ofInt (ka xs (n + 3)))).toInt) :: rest))) : W p l e R s m #[Value.ref b] below meth c H locs cells slots Qf (F0 m pc ls rest) := by
  rw [Int64.ofInt_toInt] at kk
  unfold kw_long at kk
  refine kg_arg (k := 2) C hL hn hl hS (by decide) a1 a2 a3 a4 a5 ?_
  refine lv_i2l C.hx C.hb d1 rfl ?_
  refine lv_bipush (v := 32) C.hx C.hb d2 (by decide) ?_
  refine lv_lshl C.hx C.hb d3 rfl ?_
  refine kg_arg (k := 3) C hL hn hl hS (by decide) b1 b2 b3 b4 b5 ?_
  refine lv_i2l C.hx C.hb e1 rfl ?_
  refine lv_ldc2 (v := 4294967295) C.hx C.hb C.hown (C.hts _ q_1066) e2 ?_
  refine lv_land C.hx C.hb e3 ?_
  refine lv_lor C.hx C.hb e4 ?_
  exact kk
set_option maxHeartbeats 4000000 in
/-- a call of one of the two objects: the other's cells stay -/
theorem kg_callV {Lc : ez_L} {ad : Nat → Nat} {M : ez_M} {y : MethodName} {bytes : ByteArray} {maxL d' index k ci N : Nat} {ret : Option FieldType} {sp : ez_Sp} {T : u_T} {fs : List (Option Nat)} {as : List ez_V} {Q : Option ez_V → ez_M → Prop} {st0 : List Value} {W2 : va_W} (C : kw_C p s m c b L xs D cA adX adN)
    (hSo : ez_Sound Lc y bytes maxL ret d' sp) (hcode : Cond.code y bytes maxL ret ∈ ez_TW) (hini : Cond.initialized y.cls ∈ ez_TW) (hno : y.cls ≠ "java/lang/invoke/MethodHandle" ∧ y.cls ≠ "java/lang/invoke/VarHandle" ∧ (parseMethodDescriptor y.desc).map (fun d => d.parameters.length) = some k) (hlink : Cond.methodLink R_law index y ∈ ez_TW) (hinst : Cond.instanceMethod y ∈ ez_TW) (hsel : Cond.selects y.cls y y ∈ ez_TW) (hcl : vwCl[ci]? = some (y.cls, T, N)) (hq : ez_nth Lc 0 = some (.inr (ci, fs)))
    (hR : d' + 1 ≤ 10 ∧ 8 + (maxL + 11) + 36 * d' ≤ 384) (has : ∀ v ∈ as, ez_ok Lc.length v) (hM : ez_mok Lc M) (hsp : sp (.inr (.inr 0) :: as) M Q) (hlen : as.length = k) (hP : va_P D vwCl (ez_ws Lc cA ad M) H) (hD : va_D (ez_A Lc ad) (ez_ws Lc cA ad M)) (hA : ∀ q, ez_A Lc ad q → s.heap.size ≤ q) (hS : va_S (kw_A s) s.heap H locs) (hP2 : va_P D vwCl W2 H) (hd2 : ∀ (k : Nat) (x : Nat × va_E), W2[k]? = some x → ¬ ez_A Lc ad x.1) (hl : lv_has ls 4 (kw_l adX adN b n)) (hroom : (rest.map fun v => v.category).sum ≤ 8) (hst : st0 = (as.map (ez_cv ad)).reverse ++ .ref (ad 0) :: rest) (hdg : decode code pc = .ok (.invokevirtual index, 3))
    (kk : ∀ (v : Option ez_V) (M' : ez_M) (H1 : Heap) (locs1 : List Loc), Q v M' → ez_mok Lc M' → va_P D vwCl (ez_ws Lc cA ad M') H1 → va_P D vwCl W2 H1 → va_S (kw_A s) s.heap H1 locs1 → W p l e room_1 s m #[Value.ref b] below meth c H1 locs1 39 23797 Qf (F0 m (pc + 3) ls ((v.map (ez_cv ad)).toList ++ rest))) : W p l e room_1 s m #[Value.ref b] below meth c H locs 39 23797 Qf (F0 m pc ls st0) := by
  have h0 : 0 < Lc.length := by
    cases Lc with
    | nil => cases hq
    | cons a t => exact Nat.succ_pos _
  exact kz_callV (R := room_1) C.hx C.hown C.hts C.hnw C.hK hSo hcode hini hno hlink hinst hsel hcl hq hR (List.forall_mem_cons.mpr ⟨h0, has⟩) hM hsp hlen ⟨Nat.le_refl _, Nat.le_refl _⟩ hP hD hS hA (by rw [C.hml]; exact hl.1) hroom hst (by rw [C.hb]; exact hdg) (fun v M' H1 locs1 hQ hm' _ hP1 _ hkeep hS1 => kk v M' H1 locs1 hQ hm' hP1 (hP2.kept (fun k x hx => hkeep x.1 (hP2 k x hx).lt (hd2 k x hx))) hS1)
theorem kg_eqI {v w : Int} (h : w = v) (C : kw_C p s m c b L xs D cA adX adN) {off : Int} (d : decode code pc = .ok (.if_icmp .eq off, 3)) (ht : (pc : Int) + off = 1531) (kk : W p l e R s m #[Value.ref b] below meth c H locs cells slots Qf (F0 m 1531 ls rest)) : W p l e R s m #[Value.ref b] below meth c H locs cells slots Qf (F0 m pc ls (.int (Int32.ofInt w) :: .int (Int32.ofInt v) :: rest)) :=
  lv_icmp_eq (tgt := 1531) C.hx C.hb d ht (fun _ => kk) (fun h2 => absurd (by rw [h]) h2)
theorem kg_eqL {v w : Int} (h : w = v) (C : kw_C p s m c b L xs D cA adX adN) {off : Int} (d0 : decode code pc = .ok (.lcmp, 1)) (d : decode code (pc + 1) = .ok (.ifCond .eq off, 3)) (ht : (pc : Int) + 1 + off = 1531) (kk : W p l e R s m #[Value.ref b] below meth c H locs cells slots Qf (F0 m 1531 ls rest)) : W p l e R s m #[Value.ref b] below meth c H locs cells slots Qf (F0 m pc ls (.long (Int64.ofInt w) :: .long (Int64.ofInt v) :: rest)) := by
  refine W.lcmp C.hx C.hb d0 ?_
  refine lv_if_eq (tgt := 1531) C.hx C.hb d (by omega) (fun _ => kk) (fun h2 => absurd ?_ h2)
  subst h
  simp [lg_cmp]
end KG

