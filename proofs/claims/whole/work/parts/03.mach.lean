/-! ===== words of the tables: those that every method may carry, and the nest mates' links ===== -/
def ez_isN : Cond → Bool
  | .methodLinkNest .. => true
  | .fieldLinkNest .. => true
  | _ => false
def ez_TW : List Cond := lw_tbl.filter goodWord
def ez_NW : List Cond := lw_tbl.filter ez_isN
theorem ez_tw (i : Nat) {w : Cond} (h : lw_tbl[i]? = some w) (hg : goodWord w = true) : w ∈ ez_TW := List.mem_filter.mpr ⟨List.mem_of_getElem? h, hg⟩
theorem ez_nw (i : Nat) {w : Cond} (h : lw_tbl[i]? = some w) (hg : ez_isN w = true) : w ∈ ez_NW := List.mem_filter.mpr ⟨List.mem_of_getElem? h, hg⟩
theorem ez_good {w : Cond} (h : w ∈ ez_TW) : GoodIn ez_TW [w] := fun v hv => by
  rw [List.mem_singleton.mp hv]
  exact ⟨h, good_of_word (List.mem_filter.mp h).2⟩
theorem ez_nwMove {s U : State} (hW : s.WarmedH U.vm) (h : ∀ w ∈ ez_NW, va_Nw w s) : ∀ w ∈ ez_NW, va_Nw w U := by
  intro w hw
  have h1 := h w hw
  have h2 := (List.mem_filter.mp hw).2
  cases w <;> first | exact va_Nw.warmF hW h1 | exact va_Nw.warmM hW h1 | cases h2
theorem ez_nwBlind {u U : State} (hv : u.vm = U.vm) (h : ∀ w ∈ ez_NW, va_Nw w u) : ∀ w ∈ ez_NW, va_Nw w U := by
  intro w hw
  have h1 := h w hw
  have h2 := (List.mem_filter.mp hw).2
  cases w <;> first | exact va_Nw.same rfl hv h1 | cases h2
