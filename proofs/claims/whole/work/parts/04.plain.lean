/-! ===== a plain machine over whole numbers: values, memory (a place, a number in it), what an instruction asks ===== -/
abbrev ez_V : Type := Int ⊕ Int ⊕ Nat
abbrev ez_M : Type := Nat → Nat → Int
abbrev ez_C : Type := (Nat × Nat) ⊕ (Nat × List (Option Nat))
abbrev ez_L : Type := List ez_C
abbrev ez_Ls : Type := List (Nat × ez_V)
abbrev ez_Sp : Type := List ez_V → ez_M → (Option ez_V → ez_M → Prop) → Prop
/-- what a method's instructions name: fields (number, class, slot, 0 int 1 boolean 2 none to write), constants, calls (number, 0 static or class + 1, arguments, what it does), the kind of its answer, its locals -/
abbrev ez_E : Type := List (Nat × Nat × Nat × Nat) × List (Nat × Int) × List (Nat × Nat × Nat × ez_Sp) × Nat × Nat
def ez_ri (x : Int) : Prop := -2147483648 ≤ x ∧ x ≤ 2147483647
def ez_rl (x : Int) : Prop := -9223372036854775808 ≤ x ∧ x ≤ 9223372036854775807
def ez_ok (n : Nat) : ez_V → Prop
  | .inl x => ez_ri x
  | .inr (.inl x) => ez_rl x
  | .inr (.inr q) => q < n
def ez_cv (ad : Nat → Nat) : ez_V → Value
  | .inl x => .int (Int32.ofInt x)
  | .inr (.inl x) => .long (Int64.ofInt x)
  | .inr (.inr q) => .ref (ad q)
def ez_up (M : ez_M) (q k : Nat) (x : Int) : ez_M := fun i j => if i = q ∧ j = k then x else M i j
def ez_nth {α : Type} : List α → Nat → Option α
  | [], _ => none
  | a :: _, 0 => some a
  | _ :: l, n + 1 => ez_nth l n
def ez_lk {α : Type} (k : Nat) : List (Nat × α) → Option α
  | [] => none
  | (i, v) :: r => match Nat.beq i k with
    | true => some v
    | false => ez_lk k r
def ez_in (k : Nat) : List Nat → Bool
  | [] => false
  | i :: r => match Nat.beq i k with
    | true => true
    | false => ez_in k r
def ez_is2 : ez_V → Bool
  | .inr (.inl _) => true
  | _ => false
def ez_cat : ez_V → Nat
  | .inr (.inl _) => 2
  | _ => 1
def ez_st1 (i : Nat) (v : ez_V) (ls : ez_Ls) : ez_Ls := (i, v) :: ls.filter (fun q => !(q.1 == i) && !(q.1 + 1 == i && ez_is2 q.2))
def ez_st2 (i : Nat) (v : ez_V) (ls : ez_Ls) : ez_Ls := (i, v) :: ls.filter (fun q => !(q.1 == i) && (!(q.1 == i + 1) && !(q.1 + 1 == i && ez_is2 q.2)))
/-- the numbers that an int, a long operation on bits answers -/
def ez_and (x y : Int) : Int := (Int32.ofInt x &&& Int32.ofInt y).toInt
def ez_or (x y : Int) : Int := (Int32.ofInt x ||| Int32.ofInt y).toInt
def ez_xor (x y : Int) : Int := (Int32.ofInt x ^^^ Int32.ofInt y).toInt
def ez_shl (x y : Int) : Int := (Int32.ofInt x <<< (Int32.ofInt y &&& 31)).toInt
def ez_shr (x y : Int) : Int := (Int32.ofInt x >>> (Int32.ofInt y &&& 31)).toInt
def ez_ushr (x y : Int) : Int := ((Int32.ofInt x).toUInt32 >>> ((Int32.ofInt y).toUInt32 &&& Int32.toUInt32 31)).toInt32.toInt
def ez_land (x y : Int) : Int := (Int64.ofInt x &&& Int64.ofInt y).toInt
def ez_lor (x y : Int) : Int := (Int64.ofInt x ||| Int64.ofInt y).toInt
def ez_lshl (x y : Int) : Int := (Int64.ofInt x <<< ((Int32.ofInt y).toInt64 &&& 63)).toInt
def ez_lshr (x y : Int) : Int := (Int64.ofInt x >>> ((Int32.ofInt y).toInt64 &&& 63)).toInt
def ez_l2i (x : Int) : Int := (Int64.ofInt x).toInt32.toInt
def ez_br (c : ClassFile.Cond) (x y : Int) (T F : Prop) : Prop := match c with
  | .eq => (x = y → T) ∧ (¬ x = y → F)
  | .ne => (¬ x = y → T) ∧ (x = y → F)
  | .lt => (x < y → T) ∧ (y ≤ x → F)
  | .ge => (y ≤ x → T) ∧ (x < y → F)
  | .gt => (y < x → T) ∧ (x ≤ y → F)
  | .le => (x ≤ y → T) ∧ (y < x → F)
def ez_tgt (pc : Nat) (off : Int) : Nat := match Int.add (Int.ofNat pc) off with
  | .ofNat n => n
  | .negSucc _ => 0
def ez_tgtok (pc : Nat) (off : Int) : Bool := match Int.add (Int.ofNat pc) off with
  | .ofNat _ => true
  | .negSucc _ => false
def ez_take : Nat → List ez_V → List ez_V → Option (List ez_V × List ez_V)
  | 0, acc, r => some (acc, r)
  | _ + 1, _, [] => none
  | n + 1, acc, v :: r => ez_take n (v :: acc) r
def ez_sum : List ez_V → Nat
  | [] => 0
  | v :: r => ez_cat v + ez_sum r
def ez_tsw (K : Nat → Prop) (pc : Nat) (x : Int) (lo : Int) : Nat → List Int → Prop
  | _, [] => True
  | n, off :: r => (x = lo + (n : Int) → ez_tgtok pc off = true ∧ K (ez_tgt pc off)) ∧ ez_tsw K pc x lo (n + 1) r
def ez_psh (v : Option ez_V) (r : List ez_V) : List ez_V := match v with
  | none => r
  | some v => v :: r
def ez_rg (x : Int) (k : Prop) : Prop := (-2147483648 ≤ x ∧ x ≤ 2147483647) ∧ k
def ez_rgl (x : Int) (k : Prop) : Prop := (-9223372036854775808 ≤ x ∧ x ≤ 9223372036854775807) ∧ k
/-- what an instruction at pc asks, that all goes on by K or ends by Q -/
def ez_step (L : ez_L) (E : ez_E) (K : Nat → ez_Ls → List ez_V → ez_M → Prop) (Q : Option ez_V → ez_M → Prop) (pc : Nat) (ls : ez_Ls) (st : List ez_V) (M : ez_M) (ins : Instr) : Prop :=
  match ins with
  | .iconst n => match Nat.ble n.natAbs 128 with
    | true => K (pc + 1) ls (.inl n :: st) M
    | false => False
  | .bipush n => match Nat.blt n.natAbs 128 with
    | true => K (pc + 2) ls (.inl n :: st) M
    | false => False
  | .sipush n => match Nat.blt n.natAbs 32768 with
    | true => K (pc + 3) ls (.inl n :: st) M
    | false => False
  | .lconst n => K (pc + 1) ls (.inr (.inl ((n.val : Nat) : Int)) :: st) M
  | .ldc_w i => match ez_lk (2 * i + 1) E.2.1 with
    | some v => K (pc + 3) ls (.inl v :: st) M
    | none => False
  | .ldc2_w i => match ez_lk (2 * i) E.2.1 with
    | some v => K (pc + 3) ls (.inr (.inl v) :: st) M
    | none => False
  | .iload i => match ez_lk i ls with
    | some (.inl x) => K (pc + 2) ls (.inl x :: st) M
    | _ => False
  | .iload_n i => match ez_lk i.val ls with
    | some (.inl x) => K (pc + 1) ls (.inl x :: st) M
    | _ => False
  | .lload i => match ez_lk i ls with
    | some (.inr (.inl x)) => K (pc + 2) ls (.inr (.inl x) :: st) M
    | _ => False
  | .lload_n i => match ez_lk i.val ls with
    | some (.inr (.inl x)) => K (pc + 1) ls (.inr (.inl x) :: st) M
    | _ => False
  | .aload i => match ez_lk i ls with
    | some (.inr (.inr x)) => K (pc + 2) ls (.inr (.inr x) :: st) M
    | _ => False
  | .aload_n i => match ez_lk i.val ls with
    | some (.inr (.inr x)) => K (pc + 1) ls (.inr (.inr x) :: st) M
    | _ => False
  | .istore i => match st, Nat.blt i E.2.2.2.2 with
    | .inl x :: r, true => K (pc + 2) (ez_st1 i (.inl x) ls) r M
    | _, _ => False
  | .istore_n i => match st, Nat.blt i.val E.2.2.2.2 with
    | .inl x :: r, true => K (pc + 1) (ez_st1 i.val (.inl x) ls) r M
    | _, _ => False
  | .lstore i => match st, Nat.blt (i + 1) E.2.2.2.2 with
    | .inr (.inl x) :: r, true => K (pc + 2) (ez_st2 i (.inr (.inl x)) ls) r M
    | _, _ => False
  | .lstore_n i => match st, Nat.blt (i.val + 1) E.2.2.2.2 with
    | .inr (.inl x) :: r, true => K (pc + 1) (ez_st2 i.val (.inr (.inl x)) ls) r M
    | _, _ => False
  | .iinc i n => match ez_lk i ls, Nat.blt i E.2.2.2.2 with
    | some (.inl x), true => ez_rg (x + n) (K (pc + 3) (ez_st1 i (.inl (x + n)) ls) st M)
    | _, _ => False
  | .iadd => match st with
    | .inl y :: .inl x :: r => ez_rg (x + y) (K (pc + 1) ls (.inl (x + y) :: r) M)
    | _ => False
  | .isub => match st with
    | .inl y :: .inl x :: r => ez_rg (x - y) (K (pc + 1) ls (.inl (x - y) :: r) M)
    | _ => False
  | .imul => match st with
    | .inl y :: .inl x :: r => ez_rg (x * y) (K (pc + 1) ls (.inl (x * y) :: r) M)
    | _ => False
  | .ineg => match st with
    | .inl x :: r => ez_rg (-x) (K (pc + 1) ls (.inl (-x) :: r) M)
    | _ => False
  | .idiv => match st with
    | .inl y :: .inl x :: r => (¬ y = 0) ∧ ∀ z : Int, z = Int.tdiv x y → (0 ≤ x → 0 < y → z = x / y) → z.natAbs ≤ x.natAbs → ez_rg z (K (pc + 1) ls (.inl z :: r) M)
    | _ => False
  | .irem => match st with
    | .inl y :: .inl x :: r => (¬ y = 0) ∧ ∀ z : Int, z = Int.tmod x y → (0 ≤ x → 0 < y → z = x % y) → z.natAbs ≤ x.natAbs → ez_rg z (K (pc + 1) ls (.inl z :: r) M)
    | _ => False
  | .ishl => match st with
    | .inl y :: .inl x :: r => K (pc + 1) ls (.inl (ez_shl x y) :: r) M
    | _ => False
  | .ishr => match st with
    | .inl y :: .inl x :: r => K (pc + 1) ls (.inl (ez_shr x y) :: r) M
    | _ => False
  | .iushr => match st with
    | .inl y :: .inl x :: r => K (pc + 1) ls (.inl (ez_ushr x y) :: r) M
    | _ => False
  | .iand => match st with
    | .inl y :: .inl x :: r => K (pc + 1) ls (.inl (ez_and x y) :: r) M
    | _ => False
  | .ior => match st with
    | .inl y :: .inl x :: r => K (pc + 1) ls (.inl (ez_or x y) :: r) M
    | _ => False
  | .ixor => match st with
    | .inl y :: .inl x :: r => K (pc + 1) ls (.inl (ez_xor x y) :: r) M
    | _ => False
  | .i2l => match st with
    | .inl x :: r => K (pc + 1) ls (.inr (.inl x) :: r) M
    | _ => False
  | .l2i => match st with
    | .inr (.inl x) :: r => K (pc + 1) ls (.inl (ez_l2i x) :: r) M
    | _ => False
  | .ladd => match st with
    | .inr (.inl y) :: .inr (.inl x) :: r => ez_rgl (x + y) (K (pc + 1) ls (.inr (.inl (x + y)) :: r) M)
    | _ => False
  | .ldiv => match st with
    | .inr (.inl y) :: .inr (.inl x) :: r => (¬ y = 0) ∧ ∀ z : Int, z = Int.tdiv x y → (0 ≤ x → 0 < y → z = x / y) → z.natAbs ≤ x.natAbs → ez_rgl z (K (pc + 1) ls (.inr (.inl z) :: r) M)
    | _ => False
  | .lrem => match st with
    | .inr (.inl y) :: .inr (.inl x) :: r => (¬ y = 0) ∧ ∀ z : Int, z = Int.tmod x y → (0 ≤ x → 0 < y → z = x % y) → z.natAbs ≤ x.natAbs → ez_rgl z (K (pc + 1) ls (.inr (.inl z) :: r) M)
    | _ => False
  | .land => match st with
    | .inr (.inl y) :: .inr (.inl x) :: r => K (pc + 1) ls (.inr (.inl (ez_land x y)) :: r) M
    | _ => False
  | .lor => match st with
    | .inr (.inl y) :: .inr (.inl x) :: r => K (pc + 1) ls (.inr (.inl (ez_lor x y)) :: r) M
    | _ => False
  | .lshl => match st with
    | .inl y :: .inr (.inl x) :: r => K (pc + 1) ls (.inr (.inl (ez_lshl x y)) :: r) M
    | _ => False
  | .lshr => match st with
    | .inl y :: .inr (.inl x) :: r => K (pc + 1) ls (.inr (.inl (ez_lshr x y)) :: r) M
    | _ => False
  | .lcmp => match st with
    | .inr (.inl y) :: .inr (.inl x) :: r => (x < y → K (pc + 1) ls (.inl (-1) :: r) M) ∧ (x = y → K (pc + 1) ls (.inl 0 :: r) M) ∧ (y < x → K (pc + 1) ls (.inl 1 :: r) M)
    | _ => False
  | .if_icmp c off => match st, ez_tgtok pc off with
    | .inl y :: .inl x :: r, true => ez_br c x y (K (ez_tgt pc off) ls r M) (K (pc + 3) ls r M)
    | _, _ => False
  | .ifCond c off => match st, ez_tgtok pc off with
    | .inl x :: r, true => ez_br c x 0 (K (ez_tgt pc off) ls r M) (K (pc + 3) ls r M)
    | _, _ => False
  | .goto off => match ez_tgtok pc off with
    | true => K (ez_tgt pc off) ls st M
    | false => False
  | .ifnull _ => match st with
    | .inr (.inr _) :: r => K (pc + 3) ls r M
    | _ => False
  | .ifnonnull off => match st, ez_tgtok pc off with
    | .inr (.inr _) :: r, true => K (ez_tgt pc off) ls r M
    | _, _ => False
  | .tableswitch d lo hi offs => match st, ez_tgtok pc d with
    | .inl x :: r, true => ((x < lo ∨ hi < x) → K (ez_tgt pc d) ls r M) ∧ (hi - lo + 1 = (offs.toList.length : Int) ∧ ez_tsw (fun t => K t ls r M) pc x lo 0 offs.toList)
    | _, _ => False
  | .dup => match st with
    | .inl x :: r => K (pc + 1) ls (.inl x :: .inl x :: r) M
    | .inr (.inr x) :: r => K (pc + 1) ls (.inr (.inr x) :: .inr (.inr x) :: r) M
    | _ => False
  | .dup2 => match st with
    | .inl x :: .inr (.inr y) :: r => K (pc + 1) ls (.inl x :: .inr (.inr y) :: .inl x :: .inr (.inr y) :: r) M
    | _ => False
  | .pop => match st with
    | .inl _ :: r => K (pc + 1) ls r M
    | _ => False
  | .arraylength => match st with
    | .inr (.inr q) :: r => match ez_nth L q with
      | some (.inl (0, n)) => match Nat.blt n 100000 with
        | true => K (pc + 1) ls (.inl (n : Int) :: r) M
        | false => False
      | _ => False
    | _ => False
  | .iaload => match st with
    | .inl i :: .inr (.inr q) :: r => match ez_nth L q with
      | some (.inl (0, n)) => (0 ≤ i ∧ i < (n : Int)) ∧ K (pc + 1) ls (.inl (M q i.toNat) :: r) M
      | _ => False
    | _ => False
  | .laload => match st with
    | .inl i :: .inr (.inr q) :: r => match ez_nth L q with
      | some (.inl (1, n)) => (0 ≤ i ∧ i < (n : Int)) ∧ K (pc + 1) ls (.inr (.inl (M q i.toNat)) :: r) M
      | _ => False
    | _ => False
  | .baload => match st with
    | .inl i :: .inr (.inr q) :: r => match ez_nth L q with
      | some (.inl (2, n)) => (0 ≤ i ∧ i < (n : Int)) ∧ K (pc + 1) ls (.inl (M q i.toNat) :: r) M
      | _ => False
    | _ => False
  | .iastore => match st with
    | .inl x :: .inl i :: .inr (.inr q) :: r => match ez_nth L q with
      | some (.inl (0, n)) => (0 ≤ i ∧ i < (n : Int)) ∧ K (pc + 1) ls r (ez_up M q i.toNat x)
      | _ => False
    | _ => False
  | .lastore => match st with
    | .inr (.inl x) :: .inl i :: .inr (.inr q) :: r => match ez_nth L q with
      | some (.inl (1, n)) => (0 ≤ i ∧ i < (n : Int)) ∧ K (pc + 1) ls r (ez_up M q i.toNat x)
      | _ => False
    | _ => False
  | .bastore => match st with
    | .inl x :: .inl i :: .inr (.inr q) :: r => match ez_nth L q with
      | some (.inl (2, n)) => ((0 ≤ i ∧ i < (n : Int)) ∧ (x = 0 ∨ x = 1)) ∧ K (pc + 1) ls r (ez_up M q i.toNat x)
      | _ => False
    | _ => False
  | .getfield i => match st, ez_lk i E.1 with
    | .inr (.inr q) :: r, some (ci, k, _) => match ez_nth L q with
      | some (.inr (cj, fs)) => match Nat.beq ci cj, ez_nth fs k with
        | true, some (some t) => K (pc + 3) ls (.inr (.inr t) :: r) M
        | true, some none => K (pc + 3) ls (.inl (M q k) :: r) M
        | _, _ => False
      | _ => False
    | _, _ => False
  | .putfield i => match st, ez_lk i E.1 with
    | .inl x :: .inr (.inr q) :: r, some (ci, k, b) => match ez_nth L q with
      | some (.inr (cj, fs)) => match Nat.beq ci cj, ez_nth fs k, b with
        | true, some none, 0 => K (pc + 3) ls r (ez_up M q k x)
        | true, some none, 1 => (x = 0 ∨ x = 1) ∧ K (pc + 3) ls r (ez_up M q k x)
        | _, _, _ => False
      | _ => False
    | _, _ => False
  | .invokestatic i => match ez_lk i E.2.2.1 with
    | some (0, n, sp) => match ez_take n [] st with
      | some (as, r) => match Nat.ble (ez_sum r) 8 with
        | true => sp as M (fun v M' => K (pc + 3) ls (ez_psh v r) M')
        | false => False
      | none => False
    | _ => False
  | .invokevirtual i => match ez_lk i E.2.2.1 with
    | some (ci + 1, n, sp) => match ez_take n [] st with
      | some (as, .inr (.inr q) :: r) => match ez_nth L q, Nat.ble (ez_sum r) 8 with
        | some (.inr (cj, _)), true => match Nat.beq ci cj with
          | true => sp (.inr (.inr q) :: as) M (fun v M' => K (pc + 3) ls (ez_psh v r) M')
          | false => False
        | _, _ => False
      | _ => False
    | _ => False
  | .ireturn => match st, E.2.2.2.1 with
    | [.inl x], 0 => Q (some (.inl x)) M
    | [.inl x], 1 => (x = 0 ∨ x = 1) ∧ Q (some (.inl x)) M
    | _, _ => False
  | .lreturn => match st, E.2.2.2.1 with
    | [.inr (.inl x)], 2 => Q (some (.inr (.inl x))) M
    | _, _ => False
  | .return_ => match st, E.2.2.2.1 with
    | [], 3 => Q none M
    | _, _ => False
  | .areturn => match st, E.2.2.2.1 with
    | [.inr (.inr q)], 4 => Q (some (.inr (.inr q))) M
    | _, _ => False
  | _ => False
def ez_len : Instr → Nat
  | .bipush _ | .iload _ | .lload _ | .aload _ | .istore _ | .lstore _ => 2
  | .sipush _ | .ldc_w _ | .ldc2_w _ | .iinc _ _ | .if_icmp _ _ | .ifCond _ _ | .goto _ | .ifnull _ | .ifnonnull _ | .getfield _ | .putfield _ | .invokestatic _ | .invokevirtual _ => 3
  | _ => 1
def ez_tab : Instr → Bool
  | .tableswitch .. => true
  | _ => false
/-- an instruction of a listing is what stands there -/
def ez_decb (cc : ByteArray) (q : Nat × Instr) : Bool := match decode cc q.1 with
  | .ok (i, n) => decide (i = q.2) && (Nat.beq n (ez_len i) || ez_tab i)
  | .error _ => false
theorem ez_dec {cc : ByteArray} {pc : Nat} {ins : Instr} (h : ez_decb cc (pc, ins) = true) : ∃ n, decode cc pc = .ok (ins, n) ∧ (n = ez_len ins ∨ ez_tab ins = true) := by
  unfold ez_decb at h
  cases hd : decode cc pc with
  | error e => rw [hd] at h; cases h
  | ok q =>
    obtain ⟨i, n⟩ := q
    rw [hd] at h
    simp only [Bool.and_eq_true, Bool.or_eq_true, decide_eq_true_eq] at h
    obtain ⟨h1, h2⟩ := h
    have h1 : i = ins := h1
    subst h1
    exact ⟨n, rfl, h2.imp (fun q => Nat.eq_of_beq_eq_true q) id⟩
/-- what a stretch asks, up to the places of stop, and no more than n instructions -/
noncomputable def ez_wp (L : ez_L) (E : ez_E) (prog : List (Nat × Instr)) (stop : List Nat) (cut : Nat → ez_Ls → List ez_V → ez_M → Prop) (Q : Option ez_V → ez_M → Prop) (n : Nat) : Nat → ez_Ls → List ez_V → ez_M → Prop :=
  Nat.rec (fun pc ls st M => cut pc ls st M) (fun _ ih pc ls st M => match ez_lk pc prog with
    | some ins => ez_step L E (fun pc' ls' st' M' => match ez_in pc' stop with
      | true => cut pc' ls' st' M'
      | false => ih pc' ls' st' M') Q pc ls st M ins
    | none => False) n
