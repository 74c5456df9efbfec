/-! ===== the first state ===== -/
def ff_M0X : ez_M := fun i j => if i = 1 ∧ j = 1 then 600 else if i = 20 ∧ j < 6 then 1 else 0
def ff_M0N : ez_M := fun i j => if i = 0 ∧ j = 2 then 600 else if i = 8 ∧ j < 6 then 1 else 0
theorem ff_M0_eq : ff_X ff_M0X = ff_N ff_M0N := by
  funext r j
  rcases r with _ | _ | _ | _ | _ | _ | _ | _ | _ | _ | r
  · simp [ff_X, ff_N, ff_M0X, ff_M0N]
  · rcases j with _ | _ | _ | _ | _ | j <;> simp [ff_X, ff_N, ff_M0X, ff_M0N]
  · simp [ff_X, ff_N, ff_M0X, ff_M0N]
  · simp [ff_X, ff_N, ff_M0X, ff_M0N]
  · simp [ff_X, ff_N, ff_M0X, ff_M0N]
  · simp [ff_X, ff_N, ff_M0X, ff_M0N]
  · simp [ff_X, ff_N, ff_M0X, ff_M0N]
  · simp [ff_X, ff_N, ff_M0X, ff_M0N]
  · simp [ff_X, ff_N, ff_M0X, ff_M0N]
  · rcases j with _ | _ | _ | _ | j <;> simp [ff_X, ff_N, ff_M0X, ff_M0N]
  · simp [ff_X, ff_N]
theorem ff_M0_Inv : ff_Inv (ff_X ff_M0X) := by
  refine ⟨fun j => ?_, ⟨?_, ?_, ?_, ?_⟩, fun j => ?_, ⟨?_, fun j hj => ?_, fun i j _ hj => ?_⟩, fun c h0 h1 => ?_, fun j => ?_, ⟨?_, ?_, ?_, ?_⟩, fun c h0 h1 => ?_, fun c h0 h1 => ?_⟩
  · simp [ff_X, ff_M0X]
  · simp [ff_X, ff_M0X]
  · simp [ff_X, ff_M0X]
  · simp [ff_X, ff_M0X]
  · simp [ff_X, ff_M0X]
  · simp [ff_X, ff_M0X]
  · simp [ff_X, ff_M0X]
  · have hj : (j : Int) < 0 := hj
    omega
  · have hj : (j : Int) < 0 := hj
    omega
  · have h1 : c < 0 := h1
    omega
  · simp only [ff_X, ff_M0X]
    split
    · omega
    · split <;> omega
  · simp [ff_X, ff_M0X]
  · simp [ff_X, ff_M0X]
  · simp [ff_X, ff_M0X]
  · simp [ff_X, ff_M0X]
  · have h1 : c < 0 := h1
    omega
  · have h1 : c < 0 := h1
    omega
theorem ff_M0X_ok : ez_mok LX ff_M0X := by
  intro i j
  have h : 0 ≤ ff_M0X i j ∧ ff_M0X i j ≤ 600 := by
    unfold ff_M0X
    split
    · omega
    · split <;> omega
  split
  · unfold ez_rl
    omega
  · unfold ez_ri
    omega
theorem ff_M0N_ok : ez_mok LM ff_M0N := by
  intro i j
  have h : 0 ≤ ff_M0N i j ∧ ff_M0N i j ≤ 600 := by
    unfold ff_M0N
    split
    · omega
    · split <;> omega
  split
  · unfold ez_rl
    omega
  · unfold ez_ri
    omega

