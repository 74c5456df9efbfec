theorem ez_callS {L : ez_L} {own : String} {d i n maxL d' : Nat} {sp : ez_Sp} {y : MethodName} {bytes : ByteArray} {ret : Option FieldType} (hs : ez_Sound L y bytes maxL ret d' sp) (hd : d' < d) (hm : maxL ≤ 17) (hc : Cond.code y bytes maxL ret ∈ ez_TW) (hi : Cond.initialized y.cls ∈ ez_TW)
    (hno : y.cls ≠ "java/lang/invoke/MethodHandle" ∧ y.cls ≠ "java/lang/invoke/VarHandle" ∧ (parseMethodDescriptor y.desc).map (fun d => d.parameters.length) = some n) (hl : Cond.methodLink own i y ∈ ez_TW ∨ ∃ host, Cond.methodLinkNest own i y host ∈ ez_NW) (hst : Cond.static y ∈ ez_TW) : ez_CallOK L own d (i, 0, n, sp) := ⟨y, bytes, maxL, ret, d', hs, hd, hm, hc, hi, hno, hl, hst⟩
theorem ez_callV {L : ez_L} {own : String} {d i n maxL d' ci N : Nat} {T : u_T} {sp : ez_Sp} {y : MethodName} {bytes : ByteArray} {ret : Option FieldType} (hs : ez_Sound L y bytes maxL ret d' sp) (hd : d' < d) (hm : maxL ≤ 17) (hc : Cond.code y bytes maxL ret ∈ ez_TW) (hi : Cond.initialized y.cls ∈ ez_TW)
    (hno : y.cls ≠ "java/lang/invoke/MethodHandle" ∧ y.cls ≠ "java/lang/invoke/VarHandle" ∧ (parseMethodDescriptor y.desc).map (fun d => d.parameters.length) = some n) (hl : Cond.methodLink own i y ∈ ez_TW ∨ ∃ host, Cond.methodLinkNest own i y host ∈ ez_NW) (hin : Cond.instanceMethod y ∈ ez_TW) (hse : Cond.selects y.cls y y ∈ ez_TW) (hcl : vwCl[ci]? = some (y.cls, T, N)) : ez_CallOK L own d (i, ci + 1, n, sp) := ⟨y, bytes, maxL, ret, d', hs, hd, hm, hc, hi, hno, hl, hin, hse, T, N, hcl⟩
theorem ez_ret {Q : Option ez_V → ez_M → Prop} {M : ez_M} {a b : Int} (h : Q (some (.inl a)) M) (e : b = a) : Q (some (.inl b)) M := by rw [e]; exact h
def sp_X5_within : ez_Sp := fun as M Q => match as with | [.inl v, .inl a, .inl b] => ((a ≤ v ∧ v ≤ b) → Q (some (.inl 1)) M) ∧ (¬ (a ≤ v ∧ v ≤ b) → Q (some (.inl 0)) M) | _ => False
def e_X5_within : ez_E := (fl_X5, co_X5, [], 1, 3)
set_option maxHeartbeats 4000000 in
set_option maxRecDepth 100000 in
theorem b_X5_within : ez_Body LX e_X5_within p_X5_within sp_X5_within := by
  intro as M Q has hM hsp
  unfold sp_X5_within at hsp
  split at hsp
  rotate_left
  · exact hsp.elim
  rename_i v a b
  have g_v : -2147483648 ≤ v ∧ v ≤ 2147483647 := ez_hd (has)
  have g_a : -2147483648 ≤ a ∧ a ≤ 2147483647 := ez_hd (ez_tl (has))
  have g_b : -2147483648 ≤ b ∧ b ≤ 2147483647 := ez_hd (ez_tl (ez_tl (has)))
  refine ⟨Nat.le_of_ble_eq_true rfl, fun cut hcut => hcut [] 60 0 _ _ _ ?_⟩
  repeat' (first | (intro hh; exfalso; omega) | (refine And.intro (by omega) ?_) | (refine And.intro ?_ ?_) | (intro hh))
  all_goals first | exact hsp.1 (by omega) | exact hsp.2 (by omega)
theorem so_X5_within : ez_Sound LX yX5_within cX5_within 3 (some .boolean) 0 sp_X5_within := ez_sound (E := e_X5_within) (prog := p_X5_within) LX_ok (by decide +kernel) rfl (fun _ h => h) fo_X5 co_X5_ok (fun _ h => absurd h List.not_mem_nil) dp_X5_within b_X5_within
theorem k_X5_83 {d : Nat} (h : 0 < d) : ez_CallOK LX RX5 d (83, 0, 3, sp_X5_within) := ez_callS (y := yX5_within) (bytes := cX5_within) so_X5_within h (by decide) q_224 q_72 ⟨by decide +kernel, by decide +kernel, by decide +kernel⟩ (Or.inl q_222) q_223
def sp_X5_isDegree : ez_Sp := fun as M Q => match as with | [.inl v] => ((0 ≤ v ∧ v ≤ 359) → Q (some (.inl 1)) M) ∧ (¬ (0 ≤ v ∧ v ≤ 359) → Q (some (.inl 0)) M) | _ => False
def e_X5_isDegree : ez_E := (fl_X5, co_X5, [(83, 0, 3, sp_X5_within)], 1, 1)
set_option maxHeartbeats 4000000 in
set_option maxRecDepth 100000 in
theorem b_X5_isDegree : ez_Body LX e_X5_isDegree p_X5_isDegree sp_X5_isDegree := by
  intro as M Q has hM hsp
  unfold sp_X5_isDegree at hsp
  split at hsp
  rotate_left
  · exact hsp.elim
  rename_i v
  have g_v : -2147483648 ≤ v ∧ v ≤ 2147483647 := ez_hd (has)
  refine ⟨Nat.le_of_ble_eq_true rfl, fun cut hcut => hcut [] 60 0 _ _ _ ?_⟩
  repeat' (first | (intro hh; exfalso; omega) | (refine And.intro (by omega) ?_) | (refine And.intro ?_ ?_) | (intro hh))
  all_goals first | exact hsp.1 (by omega) | exact hsp.2 (by omega)
theorem so_X5_isDegree : ez_Sound LX yX5_isDegree cX5_isDegree 1 (some .boolean) 1 sp_X5_isDegree := ez_sound (E := e_X5_isDegree) (prog := p_X5_isDegree) LX_ok (by decide +kernel) rfl (fun _ h => h) fo_X5 co_X5_ok (List.forall_mem_cons.mpr ⟨k_X5_83 (by decide), fun _ h => absurd h List.not_mem_nil⟩) dp_X5_isDegree b_X5_isDegree
def sp_J9_abs_0f7a4 : ez_Sp := fun as M Q => match as with | [.inl v] => (-2147483647 ≤ v) ∧ Q (some (.inl (v.natAbs : Int))) M | _ => False
def e_J9_abs_0f7a4 : ez_E := (fl_J9, co_J9, [], 0, 1)
set_option maxHeartbeats 4000000 in
set_option maxRecDepth 100000 in
theorem b_J9_abs_0f7a4 : ez_Body LX e_J9_abs_0f7a4 p_J9_abs_0f7a4 sp_J9_abs_0f7a4 := by
  intro as M Q has hM hsp
  unfold sp_J9_abs_0f7a4 at hsp
  split at hsp
  rotate_left
  · exact hsp.elim
  rename_i v
  have g_v : -2147483648 ≤ v ∧ v ≤ 2147483647 := ez_hd (has)
  refine ⟨Nat.le_of_ble_eq_true rfl, fun cut hcut => hcut [] 60 0 _ _ _ ?_⟩
  obtain ⟨hv, hsp⟩ := hsp
  repeat' (first | (intro hh; exfalso; omega) | (refine And.intro (by omega) ?_) | (refine And.intro ?_ ?_) | (intro hh))
  all_goals exact ez_ret hsp (by omega)
theorem so_J9_abs_0f7a4 : ez_Sound LX yJ9_abs_0f7a4 cJ9_abs_0f7a4 1 (some .int) 0 sp_J9_abs_0f7a4 := ez_sound (E := e_J9_abs_0f7a4) (prog := p_J9_abs_0f7a4) LX_ok (by decide +kernel) rfl (fun _ h => h) fo_J9 co_J9_ok (fun _ h => absurd h List.not_mem_nil) dp_J9_abs_0f7a4 b_J9_abs_0f7a4
def sp_J9_min_7cf53 : ez_Sp := fun as M Q => match as with | [.inl v, .inl w] => Q (some (.inl (min v w))) M | _ => False
def e_J9_min_7cf53 : ez_E := (fl_J9, co_J9, [], 0, 2)
set_option maxHeartbeats 4000000 in
set_option maxRecDepth 100000 in
theorem b_J9_min_7cf53 : ez_Body LX e_J9_min_7cf53 p_J9_min_7cf53 sp_J9_min_7cf53 := by
  intro as M Q has hM hsp
  unfold sp_J9_min_7cf53 at hsp
  split at hsp
  rotate_left
  · exact hsp.elim
  rename_i v w
  have g_v : -2147483648 ≤ v ∧ v ≤ 2147483647 := ez_hd (has)
  have g_w : -2147483648 ≤ w ∧ w ≤ 2147483647 := ez_hd (ez_tl (has))
  refine ⟨Nat.le_of_ble_eq_true rfl, fun cut hcut => hcut [] 60 0 _ _ _ ?_⟩
  repeat' (first | (intro hh; exfalso; omega) | (refine And.intro (by omega) ?_) | (refine And.intro ?_ ?_) | (intro hh))
  all_goals exact ez_ret hsp (by omega)
theorem so_J9_min_7cf53 : ez_Sound LX yJ9_min_7cf53 cJ9_min_7cf53 2 (some .int) 0 sp_J9_min_7cf53 := ez_sound (E := e_J9_min_7cf53) (prog := p_J9_min_7cf53) LX_ok (by decide +kernel) rfl (fun _ h => h) fo_J9 co_J9_ok (fun _ h => absurd h List.not_mem_nil) dp_J9_min_7cf53 b_J9_min_7cf53
/-- how far two degrees are off -/
def ff_off (a b : Int) : Int := min ((a - b).natAbs : Int) (360 - ((a - b).natAbs : Int))
theorem k_X5_279 {d : Nat} (h : 0 < d) : ez_CallOK LX RX5 d (279, 0, 1, sp_J9_abs_0f7a4) := ez_callS (y := yJ9_abs_0f7a4) (bytes := cJ9_abs_0f7a4) so_J9_abs_0f7a4 h (by decide) q_230 q_79 ⟨by decide +kernel, by decide +kernel, by decide +kernel⟩ (Or.inl q_228) q_229
theorem k_X5_284 {d : Nat} (h : 0 < d) : ez_CallOK LX RX5 d (284, 0, 2, sp_J9_min_7cf53) := ez_callS (y := yJ9_min_7cf53) (bytes := cJ9_min_7cf53) so_J9_min_7cf53 h (by decide) q_233 q_79 ⟨by decide +kernel, by decide +kernel, by decide +kernel⟩ (Or.inl q_231) q_232
def sp_X5_apart : ez_Sp := fun as M Q => match as with | [.inl a, .inl b] => (-100000 ≤ a ∧ a ≤ 100000 ∧ -100000 ≤ b ∧ b ≤ 100000) ∧ Q (some (.inl (ff_off a b))) M | _ => False
def e_X5_apart : ez_E := (fl_X5, co_X5, [(279, 0, 1, sp_J9_abs_0f7a4), (284, 0, 2, sp_J9_min_7cf53)], 0, 3)
set_option maxHeartbeats 4000000 in
set_option maxRecDepth 100000 in
theorem b_X5_apart : ez_Body LX e_X5_apart p_X5_apart sp_X5_apart := by
  intro as M Q has hM hsp
  unfold sp_X5_apart at hsp
  split at hsp
  rotate_left
  · exact hsp.elim
  rename_i a b
  have g_a : -2147483648 ≤ a ∧ a ≤ 2147483647 := ez_hd (has)
  have g_b : -2147483648 ≤ b ∧ b ≤ 2147483647 := ez_hd (ez_tl (has))
  refine ⟨Nat.le_of_ble_eq_true rfl, fun cut hcut => hcut [] 60 0 _ _ _ ?_⟩
  obtain ⟨hv, hsp⟩ := hsp
  unfold ff_off at hsp
  repeat' (first | (intro hh; exfalso; omega) | (refine And.intro (by omega) ?_) | (refine And.intro ?_ ?_) | (intro hh))
  all_goals exact ez_ret hsp (by omega)
theorem so_X5_apart : ez_Sound LX yX5_apart cX5_apart 3 (some .int) 1 sp_X5_apart := ez_sound (E := e_X5_apart) (prog := p_X5_apart) LX_ok (by decide +kernel) rfl (fun _ h => h) fo_X5 co_X5_ok (List.forall_mem_cons.mpr ⟨k_X5_279 (by decide), List.forall_mem_cons.mpr ⟨k_X5_284 (by decide), fun _ h => absurd h List.not_mem_nil⟩⟩) dp_X5_apart b_X5_apart
theorem k_X5_69 {d : Nat} (h : 1 < d) : ez_CallOK LX RX5 d (69, 0, 2, sp_X5_apart) := ez_callS (y := yX5_apart) (bytes := cX5_apart) so_X5_apart h (by decide) q_227 q_72 ⟨by decide +kernel, by decide +kernel, by decide +kernel⟩ (Or.inl q_225) q_226
def sp_X5_isNear : ez_Sp := fun as M Q => match as with | [.inl a, .inl b, .inl s] => (-100000 ≤ a ∧ a ≤ 100000 ∧ -100000 ≤ b ∧ b ≤ 100000) ∧ ((¬ a = -9 ∧ ff_off a b ≤ s) → Q (some (.inl 1)) M) ∧ (¬ (¬ a = -9 ∧ ff_off a b ≤ s) → Q (some (.inl 0)) M) | _ => False
def e_X5_isNear : ez_E := (fl_X5, co_X5, [(69, 0, 2, sp_X5_apart)], 1, 3)
set_option maxHeartbeats 4000000 in
set_option maxRecDepth 100000 in
theorem b_X5_isNear : ez_Body LX e_X5_isNear p_X5_isNear sp_X5_isNear := by
  intro as M Q has hM hsp
  unfold sp_X5_isNear at hsp
  split at hsp
  rotate_left
  · exact hsp.elim
  rename_i a b s
  have g_a : -2147483648 ≤ a ∧ a ≤ 2147483647 := ez_hd (has)
  have g_b : -2147483648 ≤ b ∧ b ≤ 2147483647 := ez_hd (ez_tl (has))
  have g_s : -2147483648 ≤ s ∧ s ≤ 2147483647 := ez_hd (ez_tl (ez_tl (has)))
  refine ⟨Nat.le_of_ble_eq_true rfl, fun cut hcut => hcut [] 60 0 _ _ _ ?_⟩
  obtain ⟨hv, hsp⟩ := hsp
  repeat' (first | (intro hh; exfalso; omega) | (refine And.intro (by omega) ?_) | (refine And.intro ?_ ?_) | (intro hh))
  all_goals first | exact hsp.1 (by omega) | exact hsp.2 (by omega)
theorem so_X5_isNear : ez_Sound LX yX5_isNear cX5_isNear 3 (some .boolean) 2 sp_X5_isNear := ez_sound (E := e_X5_isNear) (prog := p_X5_isNear) LX_ok (by decide +kernel) rfl (fun _ h => h) fo_X5 co_X5_ok (List.forall_mem_cons.mpr ⟨k_X5_69 (by decide), fun _ h => absurd h List.not_mem_nil⟩) dp_X5_isNear b_X5_isNear
