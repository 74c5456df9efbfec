/-! ===== making an object by its constructor ===== -/
def ci_Pc (D : va_G) (cA : Nat → ClassId) (ci : Nat) (fs : List Value) (h0 sz : Nat) : Array Value → State → Prop := va_Pc [.ref h0] (fun U => U.heap.size = sz ∧ va_P D vwCl [(h0, .inr (ci, fs))] U.heap ∧ (va_K D vwCl (ez_tys cA) U ∧ ∀ w ∈ ez_NW, va_Nw w U) ∧ va_D (fun _ => True) [(h0, .inr (ci, fs))])
def ci_Qc (D : va_G) (ci : Nat) (fs : List Value) (h0 sz : Nat) (post : va_W → Prop) : Array Value → State → Outcome → State → Prop := va_Qv (fun (_ : Unit) => True) (fun _ t => ∃ W1 : va_W, post W1 ∧ va_P D vwCl W1 t.heap ∧ va_D (va_A [(h0, .inr (ci, fs))] sz) W1) (va_A [(h0, .inr (ci, fs))] sz)
/-- the contract of a constructor without arguments: it makes of a new object the world W1 -/
def ci_S (y : MethodName) (bytes : ByteArray) (maxL : Nat) (rm : Room) (ci : Nat) (fs : List Value) (post : (Nat → ClassId) → Nat → va_W → Prop) : Prop := ∀ (l : Launch) (D : va_G) (cA : Nat → ClassId) (h0 sz : Nat), Met l y (.code y bytes maxL none :: ez_TW) rm (ci_Pc D cA ci fs h0 sz) (ci_Qc D ci fs h0 sz (post cA h0)) rm.cells rm.slots (va_A [(h0, .inr (ci, fs))] sz)
section CI
variable {p : Program} {l : Launch} {e : Env} {R : Room} {s : State} {m : MethodId} {args : Array Value} {below : List Frame} {meth : Method} {c : Code} {H H0 : Heap} {locs : List Loc} {cells slots : Nat} {Qf : State → Prop} {A0 : Nat → Prop} {D : va_G} {cA : Nat → ClassId} {pc : Nat} {ls : Array Slot} {rest : List Value} {own : String} {ws : va_W}
theorem ci_blind {ci : Nat} {fs : List Value} {h0 sz : Nat} (a : Array Value) (U : State) (g : JFrame) (mk : MethodId) (q : ci_Pc D cA ci fs h0 sz a U) : ci_Pc D cA ci fs h0 sz a (U.calling g mk a) := by
  obtain ⟨q0, q1, qP, ⟨qK, qN⟩, qD⟩ := q
  exact ⟨q0, q1, qP, ⟨va_K.moved (u := U) (U := U.calling g mk a) (Vm.Alike.refl U.vm) qK, ez_nwBlind (u := U) (U := U.calling g mk a) rfl qN⟩, qD⟩
set_option maxHeartbeats 4000000 in
theorem kz_make {y : MethodName} {bytes : ByteArray} {maxL ci N index index1 : Nat} {rm : Room} {fs : List Value} {post : (Nat → ClassId) → Nat → va_W → Prop} {T : u_T} (hx : p.tables.exec = Jvm.exec) (hown : s.vm.findClass own = some m.cls) (hts : ∀ w ∈ ez_TW, w.before args s = true) (hnw : ∀ w ∈ ez_NW, va_Nw w s) (hK : va_K D vwCl (ez_tys cA) s)
    (hSo : ci_S y bytes maxL rm ci fs post) (hcode : Cond.code y bytes maxL none ∈ ez_TW) (hini : Cond.initialized y.cls ∈ ez_TW) (hno : y.cls ≠ "java/lang/invoke/MethodHandle" ∧ y.cls ≠ "java/lang/invoke/VarHandle" ∧ (parseMethodDescriptor y.desc).map (fun d => d.parameters.length) = some 0) (hlink : Cond.methodLink own index y ∈ ez_TW ∨ ∃ host, Cond.methodLinkNest own index y host ∈ ez_NW) (hinst : Cond.instanceMethod y ∈ ez_TW) (hy1 : y.name = "<init>")
    (hcl : vwCl[ci]? = some (y.cls, T, N)) (hin : ∀ w ∈ u_ws y.cls T N, w ∈ ez_TW) (ty : Nat → FieldType) (hty : ∀ k, k < N → parseFieldDescriptor (T k).2.2.1 = some (ty k)) (hclk : Cond.classLink own index1 y.cls ∈ ez_TW) (hmk : Cond.instantiable y.cls N ∈ ez_TW) (hfs : ∀ j, j < N → defaultValue (ty j) = vp_V fs j)
    (hR : rm.frames + 1 ≤ R.frames ∧ 8 + (maxL + 11) + rm.locals ≤ R.locals) (hcs : cells + 1 + rm.cells ≤ R.cells ∧ slots + N + rm.slots ≤ R.slots) (hP : va_P D vwCl ws H) (hD : va_D A0 ws) (hS : va_S A0 H0 H locs) (hA : ∀ q, H0.size ≤ q → A0 q) (hl : ls.size = c.maxLocals) (hroom : 1 + (rest.map fun v => v.category).sum ≤ 8)
    (hd1 : decode c.code pc = .ok (.new index1, 3)) (hd2 : decode c.code (pc + 3) = .ok (.dup, 1)) (hd3 : decode c.code (pc + 4) = .ok (.invokespecial index, 3))
    (kk : ∀ (q : Nat) (W1 : va_W) (H1 : Heap) (locs1 : List Loc), post cA q W1 → va_P D vwCl (ws ++ W1) H1 → va_D A0 (ws ++ W1) → va_S A0 H0 H1 locs1 → W p l e R s m args below meth c H1 locs1 (cells + 1 + rm.cells) (slots + N + rm.slots) Qf (F0 m (pc + 7) ls (.ref q :: rest))) : W p l e R s m args below meth c H locs cells slots Qf (F0 m pc ls rest) := by
  refine va_new (ci := ci) (fs := fs) (C := y.cls) (T := T) (N := N) hx rfl hts hin ty hty hown (hts _ hclk) (hts _ hmk) (hts _ hini) hK hP hD hS hA hcl hfs (by omega) (by omega) hd1 (fun q H1 hP1 hD1 hS1 => ?_)
  refine lv_dup hx rfl hd2 rfl ?_
  have hw : (ws ++ [(q, .inr (ci, fs))])[ws.length]? = some (q, .inr (ci, fs)) := by simp
  have hPc : va_P D vwCl [(q, .inr (ci, fs))] H1 := hP1.sub [ws.length] (by simp)
  have hDc : va_D A0 [(q, .inr (ci, fs))] := hD1.sub [ws.length] rfl (by simp)
  have hFc : ∀ a, va_A [(q, .inr (ci, fs))] H1.size a → A0 a := va_free (wc := [(q, .inr (ci, fs))]) hD1 hS1 hA [ws.length] (by simp)
  have hCF : CallFix p m c c.code c.maxLocals s args ez_TW own := ⟨hx, rfl, rfl, hown, hts⟩
  have hMet := hSo l D cA q H1.size
  have hpre : PreS s H1 (ci_Pc D cA ci fs q H1.size) (.ref q :: []) := ⟨ci_blind, fun U hU hW => ⟨rfl, by rw [hU], by rw [hU]; exact hPc, ⟨va_K.moved hW.alike hK, ez_nwMove hW hnw⟩, hDc.weaken (fun _ _ _ _ => trivial)⟩⟩
  have hrun : va_Run p l e R s m args below meth c H1 locs (cells + 1) (slots + N) rm.cells rm.slots (F0 m (pc + 3 + 1) ls (.ref q :: .ref q :: rest)) (.ref q :: rest) (ci_Qc D ci fs q H1.size (post cA q) #[.ref q]) (va_A [(q, .inr (ci, fs))] H1.size) := by
    rcases hlink with h | ⟨host, h⟩
    · exact va_runI (n := 0) (As := []) (rest := .ref q :: rest) hCF hMet ⟨callB_of 0 hts (ez_goodAll hcode) rfl rfl rfl (hts _ hini) (hts _ h) hno hR, hy1, hts _ hinst⟩ hpre rfl rfl hl rfl (lv_room (show 1 + (rest.map fun v => v.category).sum ≤ 8 from hroom)) hd3 hcs
    · exact va_runIN (n := 0) (As := []) (rest := .ref q :: rest) hCF hMet ⟨va_cnB 0 hts (ez_goodAll hcode) rfl rfl rfl (hnw _ h) (hts _ hini) hno hR, hy1, hts _ hinst⟩ hpre rfl rfl hl rfl (lv_room (show 1 + (rest.map fun v => v.category).sum ≤ 8 from hroom)) hd3 hcs
  refine va_callv hrun hS1 (fun a _ h => hFc a h) hFc (fun u t H2 locs2 ht hvm hw2 hB hz hk2 hS2 => ?_)
  obtain ⟨W1, hpo, hP2, hD2⟩ := hB
  rw [ht] at hP2
  have hPw : va_P D vwCl ws H1 := fun k x hx => hP1 k x (by rw [List.getElem?_append_left (List.getElem?_eq_some_iff.mp hx).1]; exact hx)
  have hDw : va_D A0 ws := hD
  have hnot : ∀ (k : Nat) (x : Nat × va_E), ws[k]? = some x → ¬ va_A [(q, .inr (ci, fs))] H1.size x.1 := by
    intro k x hx hz2
    rcases hz2 with ⟨k2, e2, h⟩ | h
    · have hk0 : k2 < 1 := (List.getElem?_eq_some_iff.mp h).1
      rw [show k2 = 0 by omega] at h
      have h : (q, (.inr (ci, fs) : va_E)) = (x.1, e2) := Option.some.inj h
      have hq : q = x.1 := congrArg Prod.fst h
      have hlt := (List.getElem?_eq_some_iff.mp hx).1
      have := hD1.1 k ws.length x (q, .inr (ci, fs)) (by rw [List.getElem?_append_left hlt]; exact hx) hw hq.symm
      omega
    · have := (hPw k x hx).lt
      omega
  refine kk q W1 H2 locs2 hpo ((hPw.kept (fun k x hx => hk2 x.1 (hPw k x hx).lt (hnot k x hx))).app hP2) (hDw.app (hD2.weaken (fun _ _ _ h => hFc _ h)) (fun i j x z hx hz2 he => ?_)) hS2
  exact hnot i x hx (by rw [he]; exact hD2.2 j z hz2)
end CI

