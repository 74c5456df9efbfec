/-! ===== all instructions; a stretch; a method out of its body ===== -/
section EZM
variable {p : Program} {l : Launch} {e : Env} {s : State} {m : MethodId} {args : Array Value} {below : List Frame} {meth : Method} {c : Code}
variable {L : ez_L} {D : va_G} {cA : Nat → ClassId} {ad : Nat → Nat} {Q : Option ez_V → ez_M → Prop} {own : String} {E : ez_E} {d : Nat}
def ez_Fix (p : Program) (s : State) (m : MethodId) (args : Array Value) (meth : Method) (c : Code) (L : ez_L) (D : va_G) (cA : Nat → ClassId) (own : String) (E : ez_E) (d : Nat) : Prop :=
  p.tables.exec = Jvm.exec ∧ s.vm.findClass own = some m.cls ∧ (∀ w ∈ ez_TW, w.before args s = true) ∧ (∀ w ∈ ez_NW, va_Nw w s) ∧ va_K D vwCl (ez_tys cA) s ∧ meth.locks = false ∧ c.maxLocals = E.2.2.2.2 ∧ ez_RetOK meth E.2.2.2.1 ∧ ez_Lok L ∧ (∀ q ∈ E.1, ez_FldOK own q) ∧ (∀ q ∈ E.2.1, ez_ConOK own q) ∧ (∀ q ∈ E.2.2.1, ez_CallOK L own d q)
set_option maxHeartbeats 8000000 in
theorem ez_step_ok {K : Nat → ez_Ls → List ez_V → ez_M → Prop} {pc : Nat} {ls : ez_Ls} {st : List ez_V} {M : ez_M} {ins : Instr} {n : Nat} (X : ez_Fix p s m args meth c L D cA own E d) (hgo : ∀ pc ls st M, K pc ls st M → ez_AW p l e { frames := d, cells := 0, slots := 0, locals := 36 * d } s m args below meth c L D cA ad Q pc ls st M) (hdg : decode c.code pc = .ok (ins, n)) (hn : n = ez_len ins ∨ ez_tab ins = true) (h : ez_step L E K Q pc ls st M ins) : ez_AW p l e { frames := d, cells := 0, slots := 0, locals := 36 * d } s m args below meth c L D cA ad Q pc ls st M := by
  obtain ⟨hx, hown, hts, hnw, hK, hlocks, hml, hret, hL, hF, hCo, hCa⟩ := X
  by_cases ht : ez_tab ins = true
  · cases ins <;> first | (cases ht; done) | exact ez_s_tableswitch hx hgo hdg h
  · have hn : n = ez_len ins := hn.resolve_right ht
    subst hn
    cases ins
    case iconst => exact ez_s_iconst hx hgo hdg h
    case bipush => exact ez_s_bipush hx hgo hdg h
    case sipush => exact ez_s_sipush hx hgo hdg h
    case lconst => exact ez_s_lconst hx hgo hdg h
    case iload => exact ez_s_iload hx hgo hdg h
    case iload_n => exact ez_s_iload_n hx hgo hdg h
    case lload => exact ez_s_lload hx hgo hdg h
    case lload_n => exact ez_s_lload_n hx hgo hdg h
    case aload => exact ez_s_aload hx hgo hdg h
    case aload_n => exact ez_s_aload_n hx hgo hdg h
    case iadd => exact ez_s_iadd hx hgo hdg h
    case isub => exact ez_s_isub hx hgo hdg h
    case imul => exact ez_s_imul hx hgo hdg h
    case ineg => exact ez_s_ineg hx hgo hdg h
    case idiv => exact ez_s_idiv hx hgo hdg h
    case irem => exact ez_s_irem hx hgo hdg h
    case ladd => exact ez_s_ladd hx hgo hdg h
    case ldiv => exact ez_s_ldiv hx hgo hdg h
    case lrem => exact ez_s_lrem hx hgo hdg h
    case iand => exact ez_s_iand hx hgo hdg h
    case ior => exact ez_s_ior hx hgo hdg h
    case ixor => exact ez_s_ixor hx hgo hdg h
    case ishl => exact ez_s_ishl hx hgo hdg h
    case ishr => exact ez_s_ishr hx hgo hdg h
    case iushr => exact ez_s_iushr hx hgo hdg h
    case land => exact ez_s_land hx hgo hdg h
    case lor => exact ez_s_lor hx hgo hdg h
    case lshl => exact ez_s_lshl hx hgo hdg h
    case lshr => exact ez_s_lshr hx hgo hdg h
    case i2l => exact ez_s_i2l hx hgo hdg h
    case l2i => exact ez_s_l2i hx hgo hdg h
    case lcmp => exact ez_s_lcmp hx hgo hdg h
    case if_icmp => exact ez_s_if_icmp hx hgo hdg h
    case ifCond => exact ez_s_ifCond hx hgo hdg h
    case goto => exact ez_s_goto hx hgo hdg h
    case ifnull => exact ez_s_ifnull hx hgo hdg h
    case ifnonnull => exact ez_s_ifnonnull hx hgo hdg h
    case dup => exact ez_s_dup hx hgo hdg h
    case dup2 => exact ez_s_dup2 hx hgo hdg h
    case pop => exact ez_s_pop hx hgo hdg h
    case ldc_w => exact ez_s_ldc_w hx hgo hown hts hCo hdg h
    case ldc2_w => exact ez_s_ldc2_w hx hgo hown hts hCo hdg h
    case istore => exact ez_s_istore hx hgo hml hdg h
    case istore_n => exact ez_s_istore_n hx hgo hml hdg h
    case lstore => exact ez_s_lstore hx hgo hml hdg h
    case lstore_n => exact ez_s_lstore_n hx hgo hml hdg h
    case iinc => exact ez_s_iinc hx hgo hml hdg h
    case arraylength => exact ez_s_arraylength hx hgo hK hdg h
    case iaload => exact ez_s_iaload hx hgo hK hdg h
    case laload => exact ez_s_laload hx hgo hK hdg h
    case baload => exact ez_s_baload hx hgo hK hdg h
    case iastore => exact ez_s_iastore hx hgo hK hdg h
    case lastore => exact ez_s_lastore hx hgo hK hdg h
    case bastore => exact ez_s_bastore hx hgo hK hdg h
    case getfield => exact ez_s_getfield hx hgo hL hown hts hnw hK hF hdg h
    case putfield => exact ez_s_putfield hx hgo hown hts hnw hK hF hdg h
    case invokestatic => exact ez_s_invokestatic hx hgo hown hts hnw hK hCa hdg h
    case invokevirtual => exact ez_s_invokevirtual hx hgo hown hts hnw hK hCa hdg h
    case ireturn => exact ez_s_ireturn hx hlocks hret hdg h
    case lreturn => exact ez_s_lreturn hx hlocks hret hdg h
    case return_ => exact ez_s_return_ hx hlocks hret hdg h
    case areturn => exact ez_s_areturn hx hlocks hret hdg h
    all_goals first | exact False.elim h | exact absurd rfl ht
/-- fewer locals -/
def ez_pick (ls : ez_Ls) : List Nat → ez_Ls
  | [] => []
  | i :: r => match ez_lk i ls with
    | some v => (i, v) :: ez_pick ls r
    | none => ez_pick ls r
theorem ez_pick_mem {ls : ez_Ls} : ∀ {ks : List Nat} {q : Nat × ez_V}, q ∈ ez_pick ls ks → q ∈ ls
  | [], q, h => by cases h
  | i :: r, q, h => by
    unfold ez_pick at h
    split at h
    · rename_i v hv
      rcases List.mem_cons.mp h with rfl | h
      · exact ez_lk_mem hv
      · exact ez_pick_mem h
    · exact ez_pick_mem h
/-- the same as ez_wp, with fewer locals at the places of stop -/
noncomputable def ez_wpk (L : ez_L) (E : ez_E) (prog : List (Nat × Instr)) (stop : List (Nat × List Nat)) (cut : Nat → ez_Ls → List ez_V → ez_M → Prop) (Q : Option ez_V → ez_M → Prop) (n : Nat) : Nat → ez_Ls → List ez_V → ez_M → Prop :=
  Nat.rec (fun pc ls st M => cut pc ls st M) (fun _ ih pc ls st M => match ez_lk pc prog with
    | some ins => ez_step L E (fun pc' ls' st' M' => match ez_lk pc' stop with
      | some ks => cut pc' (ez_pick ls' ks) st' M'
      | none => ih pc' ls' st' M') Q pc ls st M ins
    | none => False) n
theorem ez_AW_pick {ks : List Nat} {pc : Nat} {ls : ez_Ls} {st : List ez_V} {M : ez_M} (h : ez_AW p l e { frames := d, cells := 0, slots := 0, locals := 36 * d } s m args below meth c L D cA ad Q pc (ez_pick ls ks) st M) : ez_AW p l e { frames := d, cells := 0, slots := 0, locals := 36 * d } s m args below meth c L D cA ad Q pc ls st M :=
  fun hls hst hM H locs lsC hP hD hS hl => h (fun q hq => hls q (ez_pick_mem hq)) hst hM H locs lsC hP hD hS ⟨hl.1, hl.2.1, fun q hq => by
    obtain ⟨z, hz, rfl⟩ := List.mem_map.mp hq
    exact hl.2.2 _ (List.mem_map.mpr ⟨z, ez_pick_mem hz, rfl⟩)⟩
theorem ez_wpk_ok {prog : List (Nat × Instr)} {stop : List (Nat × List Nat)} {cut : Nat → ez_Ls → List ez_V → ez_M → Prop} (X : ez_Fix p s m args meth c L D cA own E d) (hprog : ∀ q ∈ prog, ez_decb c.code q = true) (hcut : ∀ pc ls st M, cut pc ls st M → ez_AW p l e { frames := d, cells := 0, slots := 0, locals := 36 * d } s m args below meth c L D cA ad Q pc ls st M) : ∀ (n : Nat) (pc : Nat) (ls : ez_Ls) (st : List ez_V) (M : ez_M), ez_wpk L E prog stop cut Q n pc ls st M → ez_AW p l e { frames := d, cells := 0, slots := 0, locals := 36 * d } s m args below meth c L D cA ad Q pc ls st M
  | 0, pc, ls, st, M, h => hcut pc ls st M h
  | n + 1, pc, ls, st, M, h => by
    have h : (match ez_lk pc prog with
      | some ins => ez_step L E (fun pc' ls' st' M' => match ez_lk pc' stop with
        | some ks => cut pc' (ez_pick ls' ks) st' M'
        | none => ez_wpk L E prog stop cut Q n pc' ls' st' M') Q pc ls st M ins
      | none => False) := h
    split at h
    · rename_i ins hi
      obtain ⟨k, hd, hk⟩ := ez_dec (hprog _ (ez_lk_mem hi))
      refine ez_step_ok X (fun pc' ls' st' M' hq => ?_) hd hk h
      split at hq
      · exact ez_AW_pick (hcut _ _ _ _ hq)
      · exact ez_wpk_ok X hprog hcut n _ _ _ _ hq
    · exact h.elim
theorem ez_wp_ok {prog : List (Nat × Instr)} {stop : List Nat} {cut : Nat → ez_Ls → List ez_V → ez_M → Prop} (X : ez_Fix p s m args meth c L D cA own E d) (hprog : ∀ q ∈ prog, ez_decb c.code q = true) (hcut : ∀ pc ls st M, cut pc ls st M → ez_AW p l e { frames := d, cells := 0, slots := 0, locals := 36 * d } s m args below meth c L D cA ad Q pc ls st M) : ∀ (n : Nat) (pc : Nat) (ls : ez_Ls) (st : List ez_V) (M : ez_M), ez_wp L E prog stop cut Q n pc ls st M → ez_AW p l e { frames := d, cells := 0, slots := 0, locals := 36 * d } s m args below meth c L D cA ad Q pc ls st M
  | 0, pc, ls, st, M, h => hcut pc ls st M h
  | n + 1, pc, ls, st, M, h => by
    have h : (match ez_lk pc prog with
      | some ins => ez_step L E (fun pc' ls' st' M' => match ez_in pc' stop with
        | true => cut pc' ls' st' M'
        | false => ez_wp L E prog stop cut Q n pc' ls' st' M') Q pc ls st M ins
      | none => False) := h
    split at h
    · rename_i ins hi
      obtain ⟨k, hd, hk⟩ := ez_dec (hprog _ (ez_lk_mem hi))
      refine ez_step_ok X (fun pc' ls' st' M' hq => ?_) hd hk h
      split at hq
      · exact hcut _ _ _ _ hq
      · exact ez_wp_ok X hprog hcut n _ _ _ _ hq
    · exact h.elim
end EZM
def ez_args : Nat → List ez_V → ez_Ls
  | _, [] => []
  | i, v :: r => (i, v) :: ez_args (match ez_is2 v with
    | true => i + 2
    | false => i + 1) r
theorem ez_args_eq (ad : Nat → Nat) : ∀ (i : Nat) (as : List ez_V), lv_args i (as.map (ez_cv ad)) = (ez_args i as).map (fun q => (q.1, ez_cv ad q.2))
  | i, [] => rfl
  | i, v :: r => by
    simp only [List.map_cons, lv_args, ez_args, ez_args_eq ad _ r]
    rcases v with x | x | x <;> rfl
theorem ez_args_ok {n : Nat} : ∀ (i : Nat) (as : List ez_V), (∀ v ∈ as, ez_ok n v) → ∀ q ∈ ez_args i as, ez_ok n q.2
  | i, [], h, q, hq => by cases hq
  | i, v :: r, h, q, hq => by
    rcases List.mem_cons.mp hq with rfl | hq
    · exact ez_hd h
    · exact ez_args_ok _ r (ez_tl h) q hq
theorem ez_lg (ad : Nat → Nat) : ∀ (as : List ez_V), (lg_sl (as.map (ez_cv ad))).length = ez_sum as
  | [] => rfl
  | v :: r => by
    have ih := ez_lg ad r
    rcases v with x | x | x <;> simp [lg_sl, ez_cv, ez_sum, ez_cat, Value.category] at ih ⊢ <;> omega
/-- what is to be shown of a method's body, over whole numbers alone -/
def ez_Body (L : ez_L) (E : ez_E) (prog : List (Nat × Instr)) (sp : ez_Sp) : Prop := ∀ (as : List ez_V) (M : ez_M) (Q : Option ez_V → ez_M → Prop), (∀ v ∈ as, ez_ok L.length v) → ez_mok L M → sp as M Q → ez_sum as ≤ E.2.2.2.2 ∧
  ∀ (cut : Nat → ez_Ls → List ez_V → ez_M → Prop), (∀ (stop : List Nat) (n pc : Nat) (ls : ez_Ls) (st : List ez_V) (M : ez_M), ez_wp L E prog stop cut Q n pc ls st M → cut pc ls st M) → (∀ (stop : List (Nat × List Nat)) (n pc : Nat) (ls : ez_Ls) (st : List ez_V) (M : ez_M), ez_wpk L E prog stop cut Q n pc ls st M → cut pc ls st M) → cut 0 (ez_args 0 as) [] M
set_option maxHeartbeats 4000000 in
theorem ez_sound {L : ez_L} {y : MethodName} {bytes : ByteArray} {maxL : Nat} {ret : Option FieldType} {d : Nat} {sp : ez_Sp} {E : ez_E} {prog : List (Nat × Instr)} (hL : ez_Lok L) (hpl : plainFor y = true) (hE : maxL = E.2.2.2.2) (hret : ∀ meth : Method, meth.sig.returnType = ret → ez_RetOK meth E.2.2.2.1) (hF : ∀ q ∈ E.1, ez_FldOK y.cls q) (hCo : ∀ q ∈ E.2.1, ez_ConOK y.cls q) (hCa : ∀ q ∈ E.2.2.1, ez_CallOK L y.cls d q) (hprog : prog.all (ez_decb bytes) = true) (hB : ez_Body L E prog sp) : ez_Sound L y bytes maxL ret d sp := by
  intro l D cA ad as M Q has hM hsp
  obtain ⟨hsum, hbody⟩ := hB as M Q has hM hsp
  refine va_MetF (cc := bytes) (maxL := maxL) (ret := ret) hpl rfl ?_
  intro p e s m args below meth c s₁ B hml hv
  obtain ⟨rfl, hP, hD, hK, hnw⟩ := hv
  have hts := atoms_spec (ws := .code y bytes maxL ret :: ez_TW) B.pre
  have hown : s.vm.findClass y.cls = some m.cls := findClass_of_methodNamed B.named
  have hb : c.code = bytes := B.bytes
  have X : ez_Fix p s m (as.map (ez_cv ad)).toArray meth c L D cA y.cls E d := ⟨B.exec, hown, fun w hw => hts w (List.mem_cons_of_mem _ hw), hnw, hK, B.notSynchronized, hml.trans hE, hret _ B.returns, hL, hF, hCo, hCa⟩
  have hl := lv_entry (as.map (ez_cv ad)) (n := maxL) (by rw [ez_lg, hE]; exact hsum)
  rw [ez_args_eq] at hl
  rw [lg_entry_eq]
  generalize (lg_sl (as.map (ez_cv ad)) ++ List.replicate (maxL - (lg_sl (as.map (ez_cv ad))).length) Slot.unset).toArray = lsC at hl ⊢
  have hAll : ∀ q ∈ prog, ez_decb c.code q = true := fun q hq => by rw [hb]; exact List.all_eq_true.mp hprog q hq
  have key := hbody (ez_AW p l e { frames := d, cells := 0, slots := 0, locals := 36 * d } s m (as.map (ez_cv ad)).toArray below meth c L D cA ad Q) (fun stop n pc ls st M h => ez_wp_ok X hAll (fun _ _ _ _ h => h) n pc ls st M h) (fun stop n pc ls st M h => ez_wpk_ok X hAll (fun _ _ _ _ h => h) n pc ls st M h)
  exact key (ez_args_ok 0 as has) (fun v hv => by cases hv) hM s.heap [] lsC hP hD va_S.rf (by rw [hml]; exact hl)
