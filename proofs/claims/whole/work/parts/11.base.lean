theorem ez_callS {L : ez_L} {own : String} {d i n maxL d' : Nat} {sp : ez_Sp} {y : MethodName} {bytes : ByteArray} {ret : Option FieldType} (hs : ez_Sound L y bytes maxL ret d' sp) (hd : d' < d) (hm : maxL ≤ 17) (hc : Cond.code y bytes maxL ret ∈ ez_TW) (hi : Cond.initialized y.cls ∈ ez_TW)
    (hno : y.cls ≠ "java/lang/invoke/MethodHandle" ∧ y.cls ≠ "java/lang/invoke/VarHandle" ∧ (parseMethodDescriptor y.desc).map (fun d => d.parameters.length) = some n) (hl : Cond.methodLink own i y ∈ ez_TW ∨ ∃ host, Cond.methodLinkNest own i y host ∈ ez_NW) (hst : Cond.static y ∈ ez_TW) : ez_CallOK L own d (i, 0, n, sp) := ⟨y, bytes, maxL, ret, d', hs, hd, hm, hc, hi, hno, hl, hst⟩
theorem ez_callV {L : ez_L} {own : String} {d i n maxL d' ci N : Nat} {T : u_T} {sp : ez_Sp} {y : MethodName} {bytes : ByteArray} {ret : Option FieldType} (hs : ez_Sound L y bytes maxL ret d' sp) (hd : d' < d) (hm : maxL ≤ 17) (hc : Cond.code y bytes maxL ret ∈ ez_TW) (hi : Cond.initialized y.cls ∈ ez_TW)
    (hno : y.cls ≠ "java/lang/invoke/MethodHandle" ∧ y.cls ≠ "java/lang/invoke/VarHandle" ∧ (parseMethodDescriptor y.desc).map (fun d => d.parameters.length) = some n) (hl : Cond.methodLink own i y ∈ ez_TW ∨ ∃ host, Cond.methodLinkNest own i y host ∈ ez_NW) (hin : Cond.instanceMethod y ∈ ez_TW) (hse : Cond.selects y.cls y y ∈ ez_TW) (hcl : vwCl[ci]? = some (y.cls, T, N)) : ez_CallOK L own d (i, ci + 1, n, sp) := ⟨y, bytes, maxL, ret, d', hs, hd, hm, hc, hi, hno, hl, hin, hse, T, N, hcl⟩
theorem ez_ret {Q : Option ez_V → ez_M → Prop} {M : ez_M} {a b : Int} (h : Q (some (.inl a)) M) (e : b = a) : Q (some (.inl b)) M := by rw [e]; exact h
def sp_X5_within : ez_Sp := fun as M Q => match as with | [.inl v, .inl a, .inl b] => ((a ≤ v ∧ v ≤ b) → Q (some (.inl 1)) M) ∧ (¬ (a ≤ v ∧ v ≤ b) → Q (some (.inl 0)) M) | _ => False
def e_X5_within : ez_E := (fl_X5, co_X5, [], 1, 3)
set_option maxHeartbeats 4000000 in
set_option maxRecDepth 100000 in
theorem b_X5_within : ez_Body LX e_X5_within p_X5_within sp_X5_within := by
  intro as M Q has hM hsp
  unfold sp_X5_within at hsp
  split at hsp
  rotate_left
  · exact hsp.elim
  rename_i v a b
  have g_v : -2147483648 ≤ v ∧ v ≤ 2147483647 := ez_hd (has)
  have g_a : -2147483648 ≤ a ∧ a ≤ 2147483647 := ez_hd (ez_tl (has))
  have g_b : -2147483648 ≤ b ∧ b ≤ 2147483647 := ez_hd (ez_tl (ez_tl (has)))
  refine ⟨Nat.le_of_ble_eq_true rfl, fun cut hcut hkut => hcut [] 60 0 _ _ _ ?_⟩
  repeat' (first | (intro hh; exfalso; omega) | (refine And.intro (by first | assumption | omega) ?_) | (refine And.intro rfl ?_) | (refine And.intro ?_ ?_) | (intro qq hq1 hq2 hq3; have hq4 := hq2 (by omega) (by omega); subst hq4) | (intro hh) | exact trivial)
  all_goals first | exact hsp.1 (by omega) | exact hsp.2 (by omega)
theorem so_X5_within : ez_Sound LX yX5_within cX5_within 3 (some .boolean) 0 sp_X5_within := ez_sound (E := e_X5_within) (prog := p_X5_within) LX_ok (by decide +kernel) rfl (fun _ h => h) fo_X5 co_X5_ok (fun _ h => absurd h List.not_mem_nil) dp_X5_within b_X5_within
theorem k_X5_83 {d : Nat} (h : 0 < d) : ez_CallOK LX RX5 d (83, 0, 3, sp_X5_within) := ez_callS (y := yX5_within) (bytes := cX5_within) so_X5_within h (by decide) q_224 q_72 ⟨by decide +kernel, by decide +kernel, by decide +kernel⟩ (Or.inl q_222) q_223
def sp_X5_isDegree : ez_Sp := fun as M Q => match as with | [.inl v] => ((0 ≤ v ∧ v ≤ 359) → Q (some (.inl 1)) M) ∧ (¬ (0 ≤ v ∧ v ≤ 359) → Q (some (.inl 0)) M) | _ => False
def e_X5_isDegree : ez_E := (fl_X5, co_X5, [(83, 0, 3, sp_X5_within)], 1, 1)
set_option maxHeartbeats 4000000 in
set_option maxRecDepth 100000 in
theorem b_X5_isDegree : ez_Body LX e_X5_isDegree p_X5_isDegree sp_X5_isDegree := by
  intro as M Q has hM hsp
  unfold sp_X5_isDegree at hsp
  split at hsp
  rotate_left
  · exact hsp.elim
  rename_i v
  have g_v : -2147483648 ≤ v ∧ v ≤ 2147483647 := ez_hd (has)
  refine ⟨Nat.le_of_ble_eq_true rfl, fun cut hcut hkut => hcut [] 60 0 _ _ _ ?_⟩
  repeat' (first | (intro hh; exfalso; omega) | (refine And.intro (by first | assumption | omega) ?_) | (refine And.intro rfl ?_) | (refine And.intro ?_ ?_) | (intro qq hq1 hq2 hq3; have hq4 := hq2 (by omega) (by omega); subst hq4) | (intro hh) | exact trivial)
  all_goals first | exact hsp.1 (by omega) | exact hsp.2 (by omega)
theorem so_X5_isDegree : ez_Sound LX yX5_isDegree cX5_isDegree 1 (some .boolean) 1 sp_X5_isDegree := ez_sound (E := e_X5_isDegree) (prog := p_X5_isDegree) LX_ok (by decide +kernel) rfl (fun _ h => h) fo_X5 co_X5_ok (List.forall_mem_cons.mpr ⟨k_X5_83 (by decide), fun _ h => absurd h List.not_mem_nil⟩) dp_X5_isDegree b_X5_isDegree
def sp_J9_abs_0f7a4 : ez_Sp := fun as M Q => match as with | [.inl v] => (-2147483647 ≤ v) ∧ Q (some (.inl (v.natAbs : Int))) M | _ => False
def e_J9_abs_0f7a4 : ez_E := (fl_J9, co_J9, [], 0, 1)
set_option maxHeartbeats 4000000 in
set_option maxRecDepth 100000 in
theorem b_J9_abs_0f7a4 : ez_Body LX e_J9_abs_0f7a4 p_J9_abs_0f7a4 sp_J9_abs_0f7a4 := by
  intro as M Q has hM hsp
  unfold sp_J9_abs_0f7a4 at hsp
  split at hsp
  rotate_left
  · exact hsp.elim
  rename_i v
  have g_v : -2147483648 ≤ v ∧ v ≤ 2147483647 := ez_hd (has)
  refine ⟨Nat.le_of_ble_eq_true rfl, fun cut hcut hkut => hcut [] 60 0 _ _ _ ?_⟩
  obtain ⟨hv, hsp⟩ := hsp
  repeat' (first | (intro hh; exfalso; omega) | (refine And.intro (by first | assumption | omega) ?_) | (refine And.intro rfl ?_) | (refine And.intro ?_ ?_) | (intro qq hq1 hq2 hq3; have hq4 := hq2 (by omega) (by omega); subst hq4) | (intro hh) | exact trivial)
  all_goals exact ez_ret hsp (by omega)
theorem so_J9_abs_0f7a4 : ez_Sound LX yJ9_abs_0f7a4 cJ9_abs_0f7a4 1 (some .int) 0 sp_J9_abs_0f7a4 := ez_sound (E := e_J9_abs_0f7a4) (prog := p_J9_abs_0f7a4) LX_ok (by decide +kernel) rfl (fun _ h => h) fo_J9 co_J9_ok (fun _ h => absurd h List.not_mem_nil) dp_J9_abs_0f7a4 b_J9_abs_0f7a4
def sp_J9_min_7cf53 : ez_Sp := fun as M Q => match as with | [.inl v, .inl w] => Q (some (.inl (min v w))) M | _ => False
def e_J9_min_7cf53 : ez_E := (fl_J9, co_J9, [], 0, 2)
set_option maxHeartbeats 4000000 in
set_option maxRecDepth 100000 in
theorem b_J9_min_7cf53 : ez_Body LX e_J9_min_7cf53 p_J9_min_7cf53 sp_J9_min_7cf53 := by
  intro as M Q has hM hsp
  unfold sp_J9_min_7cf53 at hsp
  split at hsp
  rotate_left
  · exact hsp.elim
  rename_i v w
  have g_v : -2147483648 ≤ v ∧ v ≤ 2147483647 := ez_hd (has)
  have g_w : -2147483648 ≤ w ∧ w ≤ 2147483647 := ez_hd (ez_tl (has))
  refine ⟨Nat.le_of_ble_eq_true rfl, fun cut hcut hkut => hcut [] 60 0 _ _ _ ?_⟩
  repeat' (first | (intro hh; exfalso; omega) | (refine And.intro (by first | assumption | omega) ?_) | (refine And.intro rfl ?_) | (refine And.intro ?_ ?_) | (intro qq hq1 hq2 hq3; have hq4 := hq2 (by omega) (by omega); subst hq4) | (intro hh) | exact trivial)
  all_goals exact ez_ret hsp (by omega)
theorem so_J9_min_7cf53 : ez_Sound LX yJ9_min_7cf53 cJ9_min_7cf53 2 (some .int) 0 sp_J9_min_7cf53 := ez_sound (E := e_J9_min_7cf53) (prog := p_J9_min_7cf53) LX_ok (by decide +kernel) rfl (fun _ h => h) fo_J9 co_J9_ok (fun _ h => absurd h List.not_mem_nil) dp_J9_min_7cf53 b_J9_min_7cf53
/-- how far two degrees are off -/
def ff_off (a b : Int) : Int := min ((a - b).natAbs : Int) (360 - ((a - b).natAbs : Int))
theorem k_X5_279 {d : Nat} (h : 0 < d) : ez_CallOK LX RX5 d (279, 0, 1, sp_J9_abs_0f7a4) := ez_callS (y := yJ9_abs_0f7a4) (bytes := cJ9_abs_0f7a4) so_J9_abs_0f7a4 h (by decide) q_230 q_79 ⟨by decide +kernel, by decide +kernel, by decide +kernel⟩ (Or.inl q_228) q_229
theorem k_X5_284 {d : Nat} (h : 0 < d) : ez_CallOK LX RX5 d (284, 0, 2, sp_J9_min_7cf53) := ez_callS (y := yJ9_min_7cf53) (bytes := cJ9_min_7cf53) so_J9_min_7cf53 h (by decide) q_233 q_79 ⟨by decide +kernel, by decide +kernel, by decide +kernel⟩ (Or.inl q_231) q_232
def sp_X5_apart : ez_Sp := fun as M Q => match as with | [.inl a, .inl b] => (-100000 ≤ a ∧ a ≤ 100000 ∧ -100000 ≤ b ∧ b ≤ 100000) ∧ Q (some (.inl (ff_off a b))) M | _ => False
def e_X5_apart : ez_E := (fl_X5, co_X5, [(279, 0, 1, sp_J9_abs_0f7a4), (284, 0, 2, sp_J9_min_7cf53)], 0, 3)
set_option maxHeartbeats 4000000 in
set_option maxRecDepth 100000 in
theorem b_X5_apart : ez_Body LX e_X5_apart p_X5_apart sp_X5_apart := by
  intro as M Q has hM hsp
  unfold sp_X5_apart at hsp
  split at hsp
  rotate_left
  · exact hsp.elim
  rename_i a b
  have g_a : -2147483648 ≤ a ∧ a ≤ 2147483647 := ez_hd (has)
  have g_b : -2147483648 ≤ b ∧ b ≤ 2147483647 := ez_hd (ez_tl (has))
  refine ⟨Nat.le_of_ble_eq_true rfl, fun cut hcut hkut => hcut [] 60 0 _ _ _ ?_⟩
  obtain ⟨hv, hsp⟩ := hsp
  unfold ff_off at hsp
  repeat' (first | (intro hh; exfalso; omega) | (refine And.intro (by first | assumption | omega) ?_) | (refine And.intro rfl ?_) | (refine And.intro ?_ ?_) | (intro qq hq1 hq2 hq3; have hq4 := hq2 (by omega) (by omega); subst hq4) | (intro hh) | exact trivial)
  all_goals exact ez_ret hsp (by omega)
theorem so_X5_apart : ez_Sound LX yX5_apart cX5_apart 3 (some .int) 1 sp_X5_apart := ez_sound (E := e_X5_apart) (prog := p_X5_apart) LX_ok (by decide +kernel) rfl (fun _ h => h) fo_X5 co_X5_ok (List.forall_mem_cons.mpr ⟨k_X5_279 (by decide), List.forall_mem_cons.mpr ⟨k_X5_284 (by decide), fun _ h => absurd h List.not_mem_nil⟩⟩) dp_X5_apart b_X5_apart
theorem k_X5_69 {d : Nat} (h : 1 < d) : ez_CallOK LX RX5 d (69, 0, 2, sp_X5_apart) := ez_callS (y := yX5_apart) (bytes := cX5_apart) so_X5_apart h (by decide) q_227 q_72 ⟨by decide +kernel, by decide +kernel, by decide +kernel⟩ (Or.inl q_225) q_226
def sp_X5_isNear : ez_Sp := fun as M Q => match as with | [.inl a, .inl b, .inl s] => (-100000 ≤ a ∧ a ≤ 100000 ∧ -100000 ≤ b ∧ b ≤ 100000) ∧ ((¬ a = -9 ∧ ff_off a b ≤ s) → Q (some (.inl 1)) M) ∧ (¬ (¬ a = -9 ∧ ff_off a b ≤ s) → Q (some (.inl 0)) M) | _ => False
def e_X5_isNear : ez_E := (fl_X5, co_X5, [(69, 0, 2, sp_X5_apart)], 1, 3)
set_option maxHeartbeats 4000000 in
set_option maxRecDepth 100000 in
theorem b_X5_isNear : ez_Body LX e_X5_isNear p_X5_isNear sp_X5_isNear := by
  intro as M Q has hM hsp
  unfold sp_X5_isNear at hsp
  split at hsp
  rotate_left
  · exact hsp.elim
  rename_i a b s
  have g_a : -2147483648 ≤ a ∧ a ≤ 2147483647 := ez_hd (has)
  have g_b : -2147483648 ≤ b ∧ b ≤ 2147483647 := ez_hd (ez_tl (has))
  have g_s : -2147483648 ≤ s ∧ s ≤ 2147483647 := ez_hd (ez_tl (ez_tl (has)))
  refine ⟨Nat.le_of_ble_eq_true rfl, fun cut hcut hkut => hcut [] 60 0 _ _ _ ?_⟩
  obtain ⟨hv, hsp⟩ := hsp
  repeat' (first | (intro hh; exfalso; omega) | (refine And.intro (by first | assumption | omega) ?_) | (refine And.intro rfl ?_) | (refine And.intro ?_ ?_) | (intro qq hq1 hq2 hq3; have hq4 := hq2 (by omega) (by omega); subst hq4) | (intro hh) | exact trivial)
  all_goals first | exact hsp.1 (by omega) | exact hsp.2 (by omega)
theorem so_X5_isNear : ez_Sound LX yX5_isNear cX5_isNear 3 (some .boolean) 2 sp_X5_isNear := ez_sound (E := e_X5_isNear) (prog := p_X5_isNear) LX_ok (by decide +kernel) rfl (fun _ h => h) fo_X5 co_X5_ok (List.forall_mem_cons.mpr ⟨k_X5_69 (by decide), fun _ h => absurd h List.not_mem_nil⟩) dp_X5_isNear b_X5_isNear
def sp_X5_isYear : ez_Sp := fun as M Q => match as with | [.inl v] => ((0 ≤ v ∧ v ≤ 599) → Q (some (.inl 1)) M) ∧ (¬ (0 ≤ v ∧ v ≤ 599) → Q (some (.inl 0)) M) | _ => False
def e_X5_isYear : ez_E := (fl_X5, co_X5, [(83, 0, 3, sp_X5_within)], 1, 1)
set_option maxHeartbeats 4000000 in
set_option maxRecDepth 100000 in
theorem b_X5_isYear : ez_Body LX e_X5_isYear p_X5_isYear sp_X5_isYear := by
  intro as M Q has hM hsp
  unfold sp_X5_isYear at hsp
  split at hsp
  rotate_left
  · exact hsp.elim
  rename_i v
  have g_v : -2147483648 ≤ v ∧ v ≤ 2147483647 := ez_hd (has)
  refine ⟨Nat.le_of_ble_eq_true rfl, fun cut hcut hkut => hcut [] 60 0 _ _ _ ?_⟩
  repeat' (first | (intro hh; exfalso; omega) | (refine And.intro (by first | assumption | omega) ?_) | (refine And.intro rfl ?_) | (refine And.intro ?_ ?_) | (intro qq hq1 hq2 hq3; have hq4 := hq2 (by omega) (by omega); subst hq4) | (intro hh) | exact trivial)
  all_goals first | exact hsp.1 (by omega) | exact hsp.2 (by omega)
theorem so_X5_isYear : ez_Sound LX yX5_isYear cX5_isYear 1 (some .boolean) 1 sp_X5_isYear := ez_sound (E := e_X5_isYear) (prog := p_X5_isYear) LX_ok (by decide +kernel) rfl (fun _ h => h) fo_X5 co_X5_ok (List.forall_mem_cons.mpr ⟨k_X5_83 (by decide), fun _ h => absurd h List.not_mem_nil⟩) dp_X5_isYear b_X5_isYear
def sp_X5_isDay : ez_Sp := fun as M Q => match as with | [.inl v] => ((0 ≤ v ∧ v ≤ 363) → Q (some (.inl 1)) M) ∧ (¬ (0 ≤ v ∧ v ≤ 363) → Q (some (.inl 0)) M) | _ => False
def e_X5_isDay : ez_E := (fl_X5, co_X5, [(83, 0, 3, sp_X5_within)], 1, 1)
set_option maxHeartbeats 4000000 in
set_option maxRecDepth 100000 in
theorem b_X5_isDay : ez_Body LX e_X5_isDay p_X5_isDay sp_X5_isDay := by
  intro as M Q has hM hsp
  unfold sp_X5_isDay at hsp
  split at hsp
  rotate_left
  · exact hsp.elim
  rename_i v
  have g_v : -2147483648 ≤ v ∧ v ≤ 2147483647 := ez_hd (has)
  refine ⟨Nat.le_of_ble_eq_true rfl, fun cut hcut hkut => hcut [] 60 0 _ _ _ ?_⟩
  repeat' (first | (intro hh; exfalso; omega) | (refine And.intro (by first | assumption | omega) ?_) | (refine And.intro rfl ?_) | (refine And.intro ?_ ?_) | (intro qq hq1 hq2 hq3; have hq4 := hq2 (by omega) (by omega); subst hq4) | (intro hh) | exact trivial)
  all_goals first | exact hsp.1 (by omega) | exact hsp.2 (by omega)
theorem so_X5_isDay : ez_Sound LX yX5_isDay cX5_isDay 1 (some .boolean) 1 sp_X5_isDay := ez_sound (E := e_X5_isDay) (prog := p_X5_isDay) LX_ok (by decide +kernel) rfl (fun _ h => h) fo_X5 co_X5_ok (List.forall_mem_cons.mpr ⟨k_X5_83 (by decide), fun _ h => absurd h List.not_mem_nil⟩) dp_X5_isDay b_X5_isDay
def sp_X5_isDate : ez_Sp := fun as M Q => match as with | [.inl v] => ((0 ≤ v ∧ v ≤ 363) → Q (some (.inl 1)) M) ∧ (¬ (0 ≤ v ∧ v ≤ 363) → Q (some (.inl 0)) M) | _ => False
def e_X5_isDate : ez_E := (fl_X5, co_X5, [(83, 0, 3, sp_X5_within)], 1, 1)
set_option maxHeartbeats 4000000 in
set_option maxRecDepth 100000 in
theorem b_X5_isDate : ez_Body LX e_X5_isDate p_X5_isDate sp_X5_isDate := by
  intro as M Q has hM hsp
  unfold sp_X5_isDate at hsp
  split at hsp
  rotate_left
  · exact hsp.elim
  rename_i v
  have g_v : -2147483648 ≤ v ∧ v ≤ 2147483647 := ez_hd (has)
  refine ⟨Nat.le_of_ble_eq_true rfl, fun cut hcut hkut => hcut [] 60 0 _ _ _ ?_⟩
  repeat' (first | (intro hh; exfalso; omega) | (refine And.intro (by first | assumption | omega) ?_) | (refine And.intro rfl ?_) | (refine And.intro ?_ ?_) | (intro qq hq1 hq2 hq3; have hq4 := hq2 (by omega) (by omega); subst hq4) | (intro hh) | exact trivial)
  all_goals first | exact hsp.1 (by omega) | exact hsp.2 (by omega)
theorem so_X5_isDate : ez_Sound LX yX5_isDate cX5_isDate 1 (some .boolean) 1 sp_X5_isDate := ez_sound (E := e_X5_isDate) (prog := p_X5_isDate) LX_ok (by decide +kernel) rfl (fun _ h => h) fo_X5 co_X5_ok (List.forall_mem_cons.mpr ⟨k_X5_83 (by decide), fun _ h => absurd h List.not_mem_nil⟩) dp_X5_isDate b_X5_isDate
def sp_X5_isLand : ez_Sp := fun as M Q => match as with | [.inl v] => ((0 ≤ v ∧ v ≤ 3) → Q (some (.inl 1)) M) ∧ (¬ (0 ≤ v ∧ v ≤ 3) → Q (some (.inl 0)) M) | _ => False
def e_X5_isLand : ez_E := (fl_X5, co_X5, [(83, 0, 3, sp_X5_within)], 1, 1)
set_option maxHeartbeats 4000000 in
set_option maxRecDepth 100000 in
theorem b_X5_isLand : ez_Body LX e_X5_isLand p_X5_isLand sp_X5_isLand := by
  intro as M Q has hM hsp
  unfold sp_X5_isLand at hsp
  split at hsp
  rotate_left
  · exact hsp.elim
  rename_i v
  have g_v : -2147483648 ≤ v ∧ v ≤ 2147483647 := ez_hd (has)
  refine ⟨Nat.le_of_ble_eq_true rfl, fun cut hcut hkut => hcut [] 60 0 _ _ _ ?_⟩
  repeat' (first | (intro hh; exfalso; omega) | (refine And.intro (by first | assumption | omega) ?_) | (refine And.intro rfl ?_) | (refine And.intro ?_ ?_) | (intro qq hq1 hq2 hq3; have hq4 := hq2 (by omega) (by omega); subst hq4) | (intro hh) | exact trivial)
  all_goals first | exact hsp.1 (by omega) | exact hsp.2 (by omega)
theorem so_X5_isLand : ez_Sound LX yX5_isLand cX5_isLand 1 (some .boolean) 1 sp_X5_isLand := ez_sound (E := e_X5_isLand) (prog := p_X5_isLand) LX_ok (by decide +kernel) rfl (fun _ h => h) fo_X5 co_X5_ok (List.forall_mem_cons.mpr ⟨k_X5_83 (by decide), fun _ h => absurd h List.not_mem_nil⟩) dp_X5_isLand b_X5_isLand
def sp_X5_isRule : ez_Sp := fun as M Q => match as with | [.inl v] => ((0 ≤ v ∧ v ≤ 5) → Q (some (.inl 1)) M) ∧ (¬ (0 ≤ v ∧ v ≤ 5) → Q (some (.inl 0)) M) | _ => False
def e_X5_isRule : ez_E := (fl_X5, co_X5, [(83, 0, 3, sp_X5_within)], 1, 1)
set_option maxHeartbeats 4000000 in
set_option maxRecDepth 100000 in
theorem b_X5_isRule : ez_Body LX e_X5_isRule p_X5_isRule sp_X5_isRule := by
  intro as M Q has hM hsp
  unfold sp_X5_isRule at hsp
  split at hsp
  rotate_left
  · exact hsp.elim
  rename_i v
  have g_v : -2147483648 ≤ v ∧ v ≤ 2147483647 := ez_hd (has)
  refine ⟨Nat.le_of_ble_eq_true rfl, fun cut hcut hkut => hcut [] 60 0 _ _ _ ?_⟩
  repeat' (first | (intro hh; exfalso; omega) | (refine And.intro (by first | assumption | omega) ?_) | (refine And.intro rfl ?_) | (refine And.intro ?_ ?_) | (intro qq hq1 hq2 hq3; have hq4 := hq2 (by omega) (by omega); subst hq4) | (intro hh) | exact trivial)
  all_goals first | exact hsp.1 (by omega) | exact hsp.2 (by omega)
theorem so_X5_isRule : ez_Sound LX yX5_isRule cX5_isRule 1 (some .boolean) 1 sp_X5_isRule := ez_sound (E := e_X5_isRule) (prog := p_X5_isRule) LX_ok (by decide +kernel) rfl (fun _ h => h) fo_X5 co_X5_ok (List.forall_mem_cons.mpr ⟨k_X5_83 (by decide), fun _ h => absurd h List.not_mem_nil⟩) dp_X5_isRule b_X5_isRule
def sp_X5_isSlot : ez_Sp := fun as M Q => match as with | [.inl v] => ((0 ≤ v ∧ v ≤ 1) → Q (some (.inl 1)) M) ∧ (¬ (0 ≤ v ∧ v ≤ 1) → Q (some (.inl 0)) M) | _ => False
def e_X5_isSlot : ez_E := (fl_X5, co_X5, [(83, 0, 3, sp_X5_within)], 1, 1)
set_option maxHeartbeats 4000000 in
set_option maxRecDepth 100000 in
theorem b_X5_isSlot : ez_Body LX e_X5_isSlot p_X5_isSlot sp_X5_isSlot := by
  intro as M Q has hM hsp
  unfold sp_X5_isSlot at hsp
  split at hsp
  rotate_left
  · exact hsp.elim
  rename_i v
  have g_v : -2147483648 ≤ v ∧ v ≤ 2147483647 := ez_hd (has)
  refine ⟨Nat.le_of_ble_eq_true rfl, fun cut hcut hkut => hcut [] 60 0 _ _ _ ?_⟩
  repeat' (first | (intro hh; exfalso; omega) | (refine And.intro (by first | assumption | omega) ?_) | (refine And.intro rfl ?_) | (refine And.intro ?_ ?_) | (intro qq hq1 hq2 hq3; have hq4 := hq2 (by omega) (by omega); subst hq4) | (intro hh) | exact trivial)
  all_goals first | exact hsp.1 (by omega) | exact hsp.2 (by omega)
theorem so_X5_isSlot : ez_Sound LX yX5_isSlot cX5_isSlot 1 (some .boolean) 1 sp_X5_isSlot := ez_sound (E := e_X5_isSlot) (prog := p_X5_isSlot) LX_ok (by decide +kernel) rfl (fun _ h => h) fo_X5 co_X5_ok (List.forall_mem_cons.mpr ⟨k_X5_83 (by decide), fun _ h => absurd h List.not_mem_nil⟩) dp_X5_isSlot b_X5_isSlot
theorem ez_arrX {q n : Nat} (hq : q < 22) (h : ez_nth LX q = some (.inl (0, n))) : (q, n) ∈ ([(2, 144), (4, 48), (5, 7), (6, 7), (8, 110), (10, 110), (12, 110), (14, 10), (15, 11264), (17, 10), (18, 10), (19, 10), (20, 6), (21, 10)] : List (Nat × Nat)) := by
  have key : (List.range 22).all (fun q => match ez_nth LX q with
    | some (.inl (0, n)) => decide ((q, n) ∈ ([(2, 144), (4, 48), (5, 7), (6, 7), (8, 110), (10, 110), (12, 110), (14, 10), (15, 11264), (17, 10), (18, 10), (19, 10), (20, 6), (21, 10)] : List (Nat × Nat)))
    | _ => true) = true := by decide +kernel
  have h1 := List.all_eq_true.mp key q (List.mem_range.mpr hq)
  rw [h] at h1
  exact of_decide_eq_true h1
def sp_X5_at : ez_Sp := fun as M Q => match as with | [.inr (.inr q), .inl i] => (match ez_nth LX q with | some (.inl (0, n)) => ((0 ≤ i ∧ i < (n : Int)) → Q (some (.inl (M q i.toNat))) M) ∧ (¬ (0 ≤ i ∧ i < (n : Int)) → Q (some (.inl (-9))) M) | _ => False) | _ => False
def e_X5_at : ez_E := (fl_X5, co_X5, [], 0, 2)
set_option maxHeartbeats 4000000 in
set_option maxRecDepth 100000 in
theorem b_X5_at : ez_Body LX e_X5_at p_X5_at sp_X5_at := by
  intro as M Q has hM hsp
  unfold sp_X5_at at hsp
  split at hsp
  rotate_left
  · exact hsp.elim
  rename_i q i
  have g_i : -2147483648 ≤ i ∧ i ≤ 2147483647 := ez_hd (ez_tl (has))
  split at hsp
  rotate_left
  · exact hsp.elim
  rename_i n hq
  have hm := ez_arrX (ez_hd has) hq
  refine ⟨Nat.le_of_ble_eq_true rfl, fun cut hcut hkut => hcut [] 60 0 _ _ _ ?_⟩
  simp only [List.mem_cons, Prod.mk.injEq, List.not_mem_nil, or_false] at hm
  rcases hm with ⟨rfl, rfl⟩ | ⟨rfl, rfl⟩ | ⟨rfl, rfl⟩ | ⟨rfl, rfl⟩ | ⟨rfl, rfl⟩ | ⟨rfl, rfl⟩ | ⟨rfl, rfl⟩ | ⟨rfl, rfl⟩ | ⟨rfl, rfl⟩ | ⟨rfl, rfl⟩ | ⟨rfl, rfl⟩ | ⟨rfl, rfl⟩ | ⟨rfl, rfl⟩ | ⟨rfl, rfl⟩
  all_goals
    repeat' (first | (intro hh; exfalso; omega) | (refine And.intro (by first | assumption | omega) ?_) | (refine And.intro rfl ?_) | (refine And.intro ?_ ?_) | (intro qq hq1 hq2 hq3; have hq4 := hq2 (by omega) (by omega); subst hq4) | (intro hh) | exact trivial)
  all_goals first | exact hsp.1 (by omega) | exact hsp.2 (by omega)
theorem so_X5_at : ez_Sound LX yX5_at cX5_at 2 (some .int) 0 sp_X5_at := ez_sound (E := e_X5_at) (prog := p_X5_at) LX_ok (by decide +kernel) rfl (fun _ h => h) fo_X5 co_X5_ok (fun _ h => absurd h List.not_mem_nil) dp_X5_at b_X5_at
def sp_X5_put : ez_Sp := fun as M Q => match as with | [.inr (.inr q), .inl i, .inl x] => (match ez_nth LX q with | some (.inl (0, n)) => ((0 ≤ i ∧ i < (n : Int)) → Q none (ez_up M q i.toNat x)) ∧ (¬ (0 ≤ i ∧ i < (n : Int)) → Q none M) | _ => False) | _ => False
def e_X5_put : ez_E := (fl_X5, co_X5, [], 3, 3)
set_option maxHeartbeats 4000000 in
set_option maxRecDepth 100000 in
theorem b_X5_put : ez_Body LX e_X5_put p_X5_put sp_X5_put := by
  intro as M Q has hM hsp
  unfold sp_X5_put at hsp
  split at hsp
  rotate_left
  · exact hsp.elim
  rename_i q i x
  have g_i : -2147483648 ≤ i ∧ i ≤ 2147483647 := ez_hd (ez_tl (has))
  have g_x : -2147483648 ≤ x ∧ x ≤ 2147483647 := ez_hd (ez_tl (ez_tl (has)))
  split at hsp
  rotate_left
  · exact hsp.elim
  rename_i n hq
  have hm := ez_arrX (ez_hd has) hq
  refine ⟨Nat.le_of_ble_eq_true rfl, fun cut hcut hkut => hcut [] 60 0 _ _ _ ?_⟩
  simp only [List.mem_cons, Prod.mk.injEq, List.not_mem_nil, or_false] at hm
  rcases hm with ⟨rfl, rfl⟩ | ⟨rfl, rfl⟩ | ⟨rfl, rfl⟩ | ⟨rfl, rfl⟩ | ⟨rfl, rfl⟩ | ⟨rfl, rfl⟩ | ⟨rfl, rfl⟩ | ⟨rfl, rfl⟩ | ⟨rfl, rfl⟩ | ⟨rfl, rfl⟩ | ⟨rfl, rfl⟩ | ⟨rfl, rfl⟩ | ⟨rfl, rfl⟩ | ⟨rfl, rfl⟩
  all_goals
    repeat' (first | (intro hh; exfalso; omega) | (refine And.intro (by first | assumption | omega) ?_) | (refine And.intro rfl ?_) | (refine And.intro ?_ ?_) | (intro qq hq1 hq2 hq3; have hq4 := hq2 (by omega) (by omega); subst hq4) | (intro hh) | exact trivial)
  all_goals first | exact hsp.1 (by omega) | exact hsp.2 (by omega)
theorem so_X5_put : ez_Sound LX yX5_put cX5_put 3 none 0 sp_X5_put := ez_sound (E := e_X5_put) (prog := p_X5_put) LX_ok (by decide +kernel) rfl (fun _ h => h) fo_X5 co_X5_ok (fun _ h => absurd h List.not_mem_nil) dp_X5_put b_X5_put
/-- a degree as it lies from the east -/
def ff_aside (a : Int) : Int := if 180 < a - 90 then a - 90 - 360 else a - 90
def sp_X5_fromEast : ez_Sp := fun as M Q => match as with | [.inl a] => (-100000 ≤ a ∧ a ≤ 100000) ∧ Q (some (.inl (ff_aside a))) M | _ => False
def e_X5_fromEast : ez_E := (fl_X5, co_X5, [], 0, 2)
set_option maxHeartbeats 4000000 in
set_option maxRecDepth 100000 in
theorem b_X5_fromEast : ez_Body LX e_X5_fromEast p_X5_fromEast sp_X5_fromEast := by
  intro as M Q has hM hsp
  unfold sp_X5_fromEast at hsp
  split at hsp
  rotate_left
  · exact hsp.elim
  rename_i a
  have g_a : -2147483648 ≤ a ∧ a ≤ 2147483647 := ez_hd (has)
  refine ⟨Nat.le_of_ble_eq_true rfl, fun cut hcut hkut => hcut [] 60 0 _ _ _ ?_⟩
  obtain ⟨hv, hsp⟩ := hsp
  unfold ff_aside at hsp
  repeat' (first | (intro hh; exfalso; omega) | (refine And.intro (by first | assumption | omega) ?_) | (refine And.intro rfl ?_) | (refine And.intro ?_ ?_) | (intro qq hq1 hq2 hq3; have hq4 := hq2 (by omega) (by omega); subst hq4) | (intro hh) | exact trivial)
  all_goals exact ez_ret hsp (by omega)
theorem so_X5_fromEast : ez_Sound LX yX5_fromEast cX5_fromEast 2 (some .int) 0 sp_X5_fromEast := ez_sound (E := e_X5_fromEast) (prog := p_X5_fromEast) LX_ok (by decide +kernel) rfl (fun _ h => h) fo_X5 co_X5_ok (fun _ h => absurd h List.not_mem_nil) dp_X5_fromEast b_X5_fromEast
def sp_X5_slotAt : ez_Sp := fun as M Q => match as with | [.inr (.inr q), .inl i] => q = 0 ∧ (i = 0 → Q (some (.inr (.inr 9))) M) ∧ (¬ i = 0 → Q (some (.inr (.inr 11))) M) | _ => False
def e_X5_slotAt : ez_E := (fl_X5, co_X5, [], 4, 2)
set_option maxHeartbeats 4000000 in
set_option maxRecDepth 100000 in
theorem b_X5_slotAt : ez_Body LX e_X5_slotAt p_X5_slotAt sp_X5_slotAt := by
  intro as M Q has hM hsp
  unfold sp_X5_slotAt at hsp
  split at hsp
  rotate_left
  · exact hsp.elim
  rename_i q i
  have g_i : -2147483648 ≤ i ∧ i ≤ 2147483647 := ez_hd (ez_tl (has))
  obtain ⟨rfl, hsp⟩ := hsp
  refine ⟨Nat.le_of_ble_eq_true rfl, fun cut hcut hkut => hcut [] 60 0 _ _ _ ?_⟩
  repeat' (first | (intro hh; exfalso; omega) | (refine And.intro (by first | assumption | omega) ?_) | (refine And.intro rfl ?_) | (refine And.intro ?_ ?_) | (intro qq hq1 hq2 hq3; have hq4 := hq2 (by omega) (by omega); subst hq4) | (intro hh) | exact trivial)
  all_goals first | exact hsp.1 (by omega) | exact hsp.2 (by omega)
theorem so_X5_slotAt : ez_Sound LX yX5_slotAt cX5_slotAt 2 (some (.object "EastNearly$Churches")) 0 sp_X5_slotAt := ez_sound (E := e_X5_slotAt) (prog := p_X5_slotAt) LX_ok (by decide +kernel) rfl (fun _ h => ⟨_, h⟩) fo_X5 co_X5_ok (fun _ h => absurd h List.not_mem_nil) dp_X5_slotAt b_X5_slotAt
/-- where the sun comes up, over a flat edge -/
def ff_sun (d : Int) : Int := if d ≤ 182 then 90 - 40 * min ((d - 182).natAbs : Int) (min d (364 - d)) / 91 else 90 + 40 * min ((d - 182).natAbs : Int) (min d (364 - d)) / 91
theorem ff_sun_r {d : Int} (h0 : 0 ≤ d) (h1 : d ≤ 363) : 50 ≤ ff_sun d ∧ ff_sun d ≤ 130 := by
  unfold ff_sun
  split <;> omega
theorem k_X4_19 {d : Nat} (h : 0 < d) : ez_CallOK LX RX4 d (19, 0, 1, sp_J9_abs_0f7a4) := ez_callS (y := yJ9_abs_0f7a4) (bytes := cJ9_abs_0f7a4) so_J9_abs_0f7a4 h (by decide) q_230 q_79 ⟨by decide +kernel, by decide +kernel, by decide +kernel⟩ (Or.inl q_244) q_229
theorem k_X4_25 {d : Nat} (h : 0 < d) : ez_CallOK LX RX4 d (25, 0, 2, sp_J9_min_7cf53) := ez_callS (y := yJ9_min_7cf53) (bytes := cJ9_min_7cf53) so_J9_min_7cf53 h (by decide) q_233 q_79 ⟨by decide +kernel, by decide +kernel, by decide +kernel⟩ (Or.inl q_245) q_232
def sp_X4_sunAt : ez_Sp := fun as M Q => match as with | [.inl d] => (0 ≤ d ∧ d ≤ 363) ∧ Q (some (.inl (ff_sun d))) M | _ => False
def e_X4_sunAt : ez_E := (fl_X4, co_X4, [(19, 0, 1, sp_J9_abs_0f7a4), (25, 0, 2, sp_J9_min_7cf53)], 0, 3)
set_option maxHeartbeats 4000000 in
set_option maxRecDepth 100000 in
theorem b_X4_sunAt : ez_Body LX e_X4_sunAt p_X4_sunAt sp_X4_sunAt := by
  intro as M Q has hM hsp
  unfold sp_X4_sunAt at hsp
  split at hsp
  rotate_left
  · exact hsp.elim
  rename_i d
  have g_d : -2147483648 ≤ d ∧ d ≤ 2147483647 := ez_hd (has)
  refine ⟨Nat.le_of_ble_eq_true rfl, fun cut hcut hkut => hcut [] 60 0 _ _ _ ?_⟩
  obtain ⟨hv, hsp⟩ := hsp
  unfold ff_sun at hsp
  repeat' (first | (intro hh; exfalso; omega) | (refine And.intro (by first | assumption | omega) ?_) | (refine And.intro rfl ?_) | (refine And.intro ?_ ?_) | (intro qq hq1 hq2 hq3; have hq4 := hq2 (by omega) (by omega); subst hq4) | (intro hh) | exact trivial)
  all_goals exact ez_ret hsp (by omega)
theorem so_X4_sunAt : ez_Sound LX yX4_sunAt cX4_sunAt 3 (some .int) 1 sp_X4_sunAt := ez_sound (E := e_X4_sunAt) (prog := p_X4_sunAt) LX_ok (by decide +kernel) rfl (fun _ h => h) fo_X4 co_X4_ok (List.forall_mem_cons.mpr ⟨k_X4_19 (by decide), List.forall_mem_cons.mpr ⟨k_X4_25 (by decide), fun _ h => absurd h List.not_mem_nil⟩⟩) dp_X4_sunAt b_X4_sunAt
