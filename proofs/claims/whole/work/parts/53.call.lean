/-! ===== calls and makings from any frame ===== -/
section KZ
variable {p : Program} {l : Launch} {e : Env} {R : Room} {s : State} {m : MethodId} {args : Array Value} {below : List Frame} {meth : Method} {c : Code} {H H0 : Heap} {locs : List Loc} {cells slots : Nat} {Qf : State → Prop} {A0 : Nat → Prop} {D : va_G} {cA : Nat → ClassId} {ad : Nat → Nat} {L : ez_L} {M : ez_M} {pc : Nat} {ls : Array Slot} {rest : List Value} {own : String}
theorem kz_fin {Q : Option ez_V → ez_M → Prop} {st0 : List Value} {a : Array Value}
    (hr : va_Run p l e R s m args below meth c H locs cells slots 0 0 (F0 m pc ls st0) rest (ez_Qc L D cA ad (ez_A L ad) Q a) (ez_A L ad))
    (hS : va_S A0 H0 H locs) (hA : ∀ q, ez_A L ad q → A0 q)
    (kk : ∀ (v : Option ez_V) (M' : ez_M) (H1 : Heap) (locs1 : List Loc), Q v M' → ez_mok L M' → (∀ w, v = some w → ez_ok L.length w) → va_P D vwCl (ez_ws L cA ad M') H1 → H.size ≤ H1.size → (∀ q : Nat, q < H.size → ¬ ez_A L ad q → H1[q]? = H[q]?) → va_S A0 H0 H1 locs1 → W p l e R s m args below meth c H1 locs1 cells slots Qf (F0 m (pc + 3) ls ((v.map (ez_cv ad)).toList ++ rest))) : W p l e R s m args below meth c H locs cells slots Qf (F0 m pc ls st0) := by
  intro T hT X
  obtain ⟨v, st₀, t, T', L9, h0, X', hL, e1, e2, ⟨⟨w, M', hv, hwo, hm, hq, hp⟩, hz, hk⟩, steps⟩ := hr T hT X
  have hv : v = w.map (ez_cv ad) := by injection hv
  rw [h0] at hz hk
  have go := kk w M' T'.heap (locs ++ L9) hq hm hwo (by rw [e1]; exact hp) (by rw [e1]; exact hz) (fun q h1 h2 => by rw [e1]; exact hk q h1 h2) ⟨Nat.le_trans hS.1 (by rw [e1]; exact hz), fun q h1 h2 => by rw [e1, hk q (Nat.lt_of_lt_of_le h1 hS.1) (fun z => h2 (hA q z))]; exact hS.2.1 q h1 h2, fun q hq => by
      rcases List.mem_append.mp hq with h | h
      · exact hS.2.2 q h
      · exact hA _ (hL q h)⟩
  obtain ⟨t2, a1, b1⟩ := go T' rfl X'
  refine ⟨t2, steps t2 ?_, b1⟩
  subst hv
  exact a1
set_option maxHeartbeats 4000000 in
theorem kz_callV {y : MethodName} {bytes : ByteArray} {maxL d' index n ci N : Nat} {ret : Option FieldType} {sp : ez_Sp} {T : u_T} {q : Nat} {fs : List (Option Nat)} {as : List ez_V} {Q : Option ez_V → ez_M → Prop} {st0 : List Value} (hx : p.tables.exec = Jvm.exec) (hown : s.vm.findClass own = some m.cls) (hts : ∀ w ∈ ez_TW, w.before args s = true) (hnw : ∀ w ∈ ez_NW, va_Nw w s) (hK : va_K D vwCl (ez_tys cA) s)
    (hSo : ez_Sound L y bytes maxL ret d' sp) (hcode : Cond.code y bytes maxL ret ∈ ez_TW) (hini : Cond.initialized y.cls ∈ ez_TW) (hno : y.cls ≠ "java/lang/invoke/MethodHandle" ∧ y.cls ≠ "java/lang/invoke/VarHandle" ∧ (parseMethodDescriptor y.desc).map (fun d => d.parameters.length) = some n) (hlink : Cond.methodLink own index y ∈ ez_TW) (hinst : Cond.instanceMethod y ∈ ez_TW) (hsel : Cond.selects y.cls y y ∈ ez_TW) (hcl : vwCl[ci]? = some (y.cls, T, N)) (hq : ez_nth L q = some (.inr (ci, fs)))
    (hR : d' + 1 ≤ R.frames ∧ 8 + (maxL + 11) + 36 * d' ≤ R.locals) (has : ∀ v ∈ (.inr (.inr q) :: as : List ez_V), ez_ok L.length v) (hM : ez_mok L M) (hsp : sp (.inr (.inr q) :: as) M Q) (hlen : as.length = n) (hcs : cells ≤ R.cells ∧ slots ≤ R.slots) (hP : va_P D vwCl (ez_ws L cA ad M) H) (hD : va_D (ez_A L ad) (ez_ws L cA ad M)) (hS : va_S A0 H0 H locs) (hA : ∀ q, ez_A L ad q → A0 q) (hl : ls.size = c.maxLocals) (hroom : (rest.map fun v => v.category).sum ≤ 8) (hst : st0 = (as.map (ez_cv ad)).reverse ++ .ref (ad q) :: rest) (hdg : decode c.code pc = .ok (.invokevirtual index, 3))
    (kk : ∀ (v : Option ez_V) (M' : ez_M) (H1 : Heap) (locs1 : List Loc), Q v M' → ez_mok L M' → (∀ w, v = some w → ez_ok L.length w) → va_P D vwCl (ez_ws L cA ad M') H1 → H.size ≤ H1.size → (∀ q : Nat, q < H.size → ¬ ez_A L ad q → H1[q]? = H[q]?) → va_S A0 H0 H1 locs1 → W p l e R s m args below meth c H1 locs1 cells slots Qf (F0 m (pc + 3) ls ((v.map (ez_cv ad)).toList ++ rest))) : W p l e R s m args below meth c H locs cells slots Qf (F0 m pc ls st0) := by
  subst hst
  have hMet := hSo l D cA ad (.inr (.inr q) :: as) M Q has hM hsp
  have hpre : PreV s H y.cls (ad q) (ez_Pc L D cA ad (.inr (.inr q) :: as) M) (as.map (ez_cv ad)) := ⟨ez_blind, va_recv hK hP hcl (ez_ws_at hq), fun U hU hW => ⟨rfl, by rw [hU]; exact hP, hD, va_K.moved hW.alike hK, ez_nwMove hW hnw⟩⟩
  have hR2 : ({ frames := d', cells := 0, slots := 0, locals := 36 * d' } : Room).frames + 1 ≤ R.frames ∧ 8 + (maxL + 11) + ({ frames := d', cells := 0, slots := 0, locals := 36 * d' } : Room).locals ≤ R.locals := hR
  have hCF : CallFix p m c c.code c.maxLocals s args ez_TW own := ⟨hx, rfl, rfl, hown, hts⟩
  exact kz_fin (va_runV (n := n) hCF hMet ⟨callB_of n hts (ez_goodAll hcode) rfl rfl rfl (hts _ hini) (hts _ hlink) hno hR2, hts _ hinst, hts _ hsel⟩ hpre rfl (by simp [hlen]) hl rfl (lv_room hroom) hdg ⟨hcs.1, hcs.2⟩) hS hA kk
set_option maxHeartbeats 4000000 in
theorem kz_callS {y : MethodName} {bytes : ByteArray} {maxL d' index n : Nat} {ret : Option FieldType} {sp : ez_Sp} {as : List ez_V} {Q : Option ez_V → ez_M → Prop} {st0 : List Value} (hx : p.tables.exec = Jvm.exec) (hown : s.vm.findClass own = some m.cls) (hts : ∀ w ∈ ez_TW, w.before args s = true) (hnw : ∀ w ∈ ez_NW, va_Nw w s) (hK : va_K D vwCl (ez_tys cA) s)
    (hSo : ez_Sound L y bytes maxL ret d' sp) (hcode : Cond.code y bytes maxL ret ∈ ez_TW) (hini : Cond.initialized y.cls ∈ ez_TW) (hno : y.cls ≠ "java/lang/invoke/MethodHandle" ∧ y.cls ≠ "java/lang/invoke/VarHandle" ∧ (parseMethodDescriptor y.desc).map (fun d => d.parameters.length) = some n) (hlink : Cond.methodLink own index y ∈ ez_TW) (hstat : Cond.static y ∈ ez_TW)
    (hR : d' + 1 ≤ R.frames ∧ 8 + (maxL + 11) + 36 * d' ≤ R.locals) (has : ∀ v ∈ as, ez_ok L.length v) (hM : ez_mok L M) (hsp : sp as M Q) (hlen : as.length = n) (hcs : cells ≤ R.cells ∧ slots ≤ R.slots) (hP : va_P D vwCl (ez_ws L cA ad M) H) (hD : va_D (ez_A L ad) (ez_ws L cA ad M)) (hS : va_S A0 H0 H locs) (hA : ∀ q, ez_A L ad q → A0 q) (hl : ls.size = c.maxLocals) (hroom : (rest.map fun v => v.category).sum ≤ 8) (hst : st0 = (as.map (ez_cv ad)).reverse ++ rest) (hdg : decode c.code pc = .ok (.invokestatic index, 3))
    (kk : ∀ (v : Option ez_V) (M' : ez_M) (H1 : Heap) (locs1 : List Loc), Q v M' → ez_mok L M' → (∀ w, v = some w → ez_ok L.length w) → va_P D vwCl (ez_ws L cA ad M') H1 → H.size ≤ H1.size → (∀ q : Nat, q < H.size → ¬ ez_A L ad q → H1[q]? = H[q]?) → va_S A0 H0 H1 locs1 → W p l e R s m args below meth c H1 locs1 cells slots Qf (F0 m (pc + 3) ls ((v.map (ez_cv ad)).toList ++ rest))) : W p l e R s m args below meth c H locs cells slots Qf (F0 m pc ls st0) := by
  subst hst
  have hMet := hSo l D cA ad as M Q has hM hsp
  have hpre : PreS s H (ez_Pc L D cA ad as M) (as.map (ez_cv ad)) := ⟨ez_blind, fun U hU hW => ⟨rfl, by rw [hU]; exact hP, hD, va_K.moved hW.alike hK, ez_nwMove hW hnw⟩⟩
  have hR2 : ({ frames := d', cells := 0, slots := 0, locals := 36 * d' } : Room).frames + 1 ≤ R.frames ∧ 8 + (maxL + 11) + ({ frames := d', cells := 0, slots := 0, locals := 36 * d' } : Room).locals ≤ R.locals := hR
  have hCF : CallFix p m c c.code c.maxLocals s args ez_TW own := ⟨hx, rfl, rfl, hown, hts⟩
  exact kz_fin (va_runS (n := n) hCF hMet ⟨callB_of n hts (ez_goodAll hcode) rfl rfl rfl (hts _ hini) (hts _ hlink) hno hR2, hts _ hstat⟩ hpre rfl (by simp [hlen]) hl rfl (lv_room hroom) hdg ⟨hcs.1, hcs.2⟩) hS hA kk
theorem kz_newa {atype : ArrayType} (hx : p.tables.exec = Jvm.exec) (harr : (Cond.arrayClass (newarray.typeOf atype)).before args s = true) {ty : FieldType} (hty : newarray.typeOf atype = ty) {j : Nat} {ca : ClassId} (hj : (ez_tys cA)[j]? = some (ca, ty)) (hK : va_K D vwCl (ez_tys cA) s) {ws : va_W} (hP : va_P D vwCl ws H) (hD : va_D A0 ws) (hS : va_S A0 H0 H locs) (hA : ∀ q, H0.size ≤ q → A0 q)
    {n : Int32} {N' : Nat} {a0 : vp_A} (ha : ∀ cA : ClassId, vp_cell cA a0 = arrV cA N' (fun _ => defaultValue ty)) (hn : ¬ n < 0) (hN : n.toNatClampNeg = N') (hbytes : N' * componentBytes ty ≤ 536870912) (hcells : cells + 1 ≤ R.cells) (hslots : slots + N' ≤ R.slots) (hdg : decode c.code pc = .ok (.newarray atype, 2))
    (kk : ∀ (q : Nat) (H1 : Heap), va_P D vwCl (ws ++ [(q, .inl (ca, a0))]) H1 → va_D A0 (ws ++ [(q, .inl (ca, a0))]) → va_S A0 H0 H1 locs →
      W p l e R s m args below meth c H1 locs (cells + 1) (slots + N') Qf (F0 m (pc + 2) ls (.ref q :: rest))) : W p l e R s m args below meth c H locs cells slots Qf (F0 m pc ls (.int n :: rest)) := by
  refine va_newa hx rfl harr hty hK hP hD hS hA ha hn hN hbytes hcells hslots hdg (fun q cB H1 hK1 hP1 hD1 hS1 => ?_)
  have r1 := (hK1.2 (ez_tys cA).length (cB, ty) (by simp)).2
  have r2 := (hK.2 j (ca, ty) hj).2
  have e : cB = ca := by
    cases atype <;> cases hty <;> exact Option.some.inj (Eq.trans (Eq.symm r1) r2)
  subst e
  exact kk q H1 hP1 hD1 hS1
end KZ

