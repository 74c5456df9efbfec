/-! ===== the worlds: what lies at which place ===== -/
def LX : ez_L := [.inr (5, [some 1, some 3, some 7, some 9, some 11, some 13, some 16, some 20, some 21, none]), .inr (4, [some 2, none]), .inl (0, 144), .inr (0, [some 4, some 5, some 6, none, none]), .inl (0, 48), .inl (0, 7), .inl (0, 7), .inr (1, [some 8, none, none]), .inl (0, 110), .inr (1, [some 10, none, none]), .inl (0, 110), .inr (1, [some 12, none, none]), .inl (0, 110), .inr (3, [some 14, some 15, none]), .inl (0, 10), .inl (0, 11264), .inr (2, [some 17, some 18, some 19, none]), .inl (0, 10), .inl (0, 10), .inl (0, 10), .inl (0, 6), .inl (0, 10)]
def LM : ez_L := [.inr (6, [none, some 1, none, none, some 2, none, none, none, some 3, some 4, none, some 5, some 6, none, some 7, some 8, some 9, some 10, some 11, none, some 12, some 13, some 14, some 15, some 16, none, none, none]), .inl (0, 144), .inl (0, 48), .inl (0, 12), .inl (0, 12), .inl (0, 12), .inl (0, 12), .inl (0, 110), .inl (0, 6), .inl (0, 220), .inl (0, 2), .inl (2, 2), .inl (0, 10), .inl (0, 10), .inl (1, 11264), .inl (0, 6), .inl (0, 10)]
def ez_lokb (L : ez_L) : Bool := L.all (fun c => match c with
  | .inl _ => true
  | .inr (_, fs) => fs.all (fun o => match o with
    | none => true
    | some t => Nat.blt t L.length))
theorem ez_lok_of {L : ez_L} (h : ez_lokb L = true) : ez_Lok L := by
  intro q ci fs hq k t hk
  rw [ez_nth_eq] at hq hk
  have h1 := List.all_eq_true.mp h _ (List.mem_of_getElem? hq)
  have h2 := List.all_eq_true.mp h1 _ (List.mem_of_getElem? hk)
  exact Nat.le_of_ble_eq_true h2
theorem LX_ok : ez_Lok LX := ez_lok_of (by decide +kernel)
theorem LM_ok : ez_Lok LM := ez_lok_of (by decide +kernel)
/-! ===== words, by their places ===== -/
theorem q_0 : (Jvm.Cond.selects "EastNearly$Sky" ({ cls := "EastNearly$Sky", name := "setHeight", desc := "(III)I" } : Jvm.MethodName) ({ cls := "EastNearly$Sky", name := "setHeight", desc := "(III)I" } : Jvm.MethodName)) ∈ ez_TW := ez_tw 0 (by decide +kernel) rfl
theorem q_1 : (Jvm.Cond.selects "EastNearly$Sky" ({ cls := "EastNearly$Sky", name := "riseAt", desc := "(II)I" } : Jvm.MethodName) ({ cls := "EastNearly$Sky", name := "riseAt", desc := "(II)I" } : Jvm.MethodName)) ∈ ez_TW := ez_tw 1 (by decide +kernel) rfl
theorem q_2 : (Jvm.Cond.selects "EastNearly$Sky" ({ cls := "EastNearly$Sky", name := "dayOf", desc := "(II)I" } : Jvm.MethodName) ({ cls := "EastNearly$Sky", name := "dayOf", desc := "(II)I" } : Jvm.MethodName)) ∈ ez_TW := ez_tw 2 (by decide +kernel) rfl
theorem q_3 : (Jvm.Cond.selects "EastNearly$Book" ({ cls := "EastNearly$Book", name := "room", desc := "()I" } : Jvm.MethodName) ({ cls := "EastNearly$Book", name := "room", desc := "()I" } : Jvm.MethodName)) ∈ ez_TW := ez_tw 3 (by decide +kernel) rfl
theorem q_4 : (Jvm.Cond.selects "EastNearly$Book" ({ cls := "EastNearly$Book", name := "append", desc := "(IJ)I" } : Jvm.MethodName) ({ cls := "EastNearly$Book", name := "append", desc := "(IJ)I" } : Jvm.MethodName)) ∈ ez_TW := ez_tw 4 (by decide +kernel) rfl
theorem q_5 : (Jvm.Cond.selects "EastNearly$Book" ({ cls := "EastNearly$Book", name := "clearText", desc := "()I" } : Jvm.MethodName) ({ cls := "EastNearly$Book", name := "clearText", desc := "()I" } : Jvm.MethodName)) ∈ ez_TW := ez_tw 5 (by decide +kernel) rfl
theorem q_6 : (Jvm.Cond.selects "EastNearly$Book" ({ cls := "EastNearly$Book", name := "firstFault", desc := "()I" } : Jvm.MethodName) ({ cls := "EastNearly$Book", name := "firstFault", desc := "()I" } : Jvm.MethodName)) ∈ ez_TW := ez_tw 6 (by decide +kernel) rfl
theorem q_7 : (Jvm.Cond.selects "EastNearly$Book" ({ cls := "EastNearly$Book", name := "canStand", desc := "(I)Z" } : Jvm.MethodName) ({ cls := "EastNearly$Book", name := "canStand", desc := "(I)Z" } : Jvm.MethodName)) ∈ ez_TW := ez_tw 7 (by decide +kernel) rfl
theorem q_8 : (Jvm.Cond.selects "EastNearly$Book" ({ cls := "EastNearly$Book", name := "figures", desc := "(II)I" } : Jvm.MethodName) ({ cls := "EastNearly$Book", name := "figures", desc := "(II)I" } : Jvm.MethodName)) ∈ ez_TW := ez_tw 8 (by decide +kernel) rfl
theorem q_9 : (Jvm.Cond.selects "EastNearly$Book" ({ cls := "EastNearly$Book", name := "canBeYear", desc := "(II)Z" } : Jvm.MethodName) ({ cls := "EastNearly$Book", name := "canBeYear", desc := "(II)Z" } : Jvm.MethodName)) ∈ ez_TW := ez_tw 9 (by decide +kernel) rfl
theorem q_10 : (Jvm.Cond.selects "EastNearly$Book" ({ cls := "EastNearly$Book", name := "readText", desc := "()I" } : Jvm.MethodName) ({ cls := "EastNearly$Book", name := "readText", desc := "()I" } : Jvm.MethodName)) ∈ ez_TW := ez_tw 10 (by decide +kernel) rfl
theorem q_11 : (Jvm.Cond.selects "EastNearly$Book" ({ cls := "EastNearly$Book", name := "needleIn", desc := "(I)I" } : Jvm.MethodName) ({ cls := "EastNearly$Book", name := "needleIn", desc := "(I)I" } : Jvm.MethodName)) ∈ ez_TW := ez_tw 11 (by decide +kernel) rfl
theorem q_12 : (Jvm.Cond.selects "EastNearly$Churches" ({ cls := "EastNearly$Churches", name := "add", desc := "(IIIII)I" } : Jvm.MethodName) ({ cls := "EastNearly$Churches", name := "add", desc := "(IIIII)I" } : Jvm.MethodName)) ∈ ez_TW := ez_tw 12 (by decide +kernel) rfl
theorem q_13 : (Jvm.Cond.selects "EastNearly$Churches" ({ cls := "EastNearly$Churches", name := "change", desc := "(III)I" } : Jvm.MethodName) ({ cls := "EastNearly$Churches", name := "change", desc := "(III)I" } : Jvm.MethodName)) ∈ ez_TW := ez_tw 13 (by decide +kernel) rfl
theorem q_14 : (Jvm.Cond.selects "EastNearly$Churches" ({ cls := "EastNearly$Churches", name := "get", desc := "(II)I" } : Jvm.MethodName) ({ cls := "EastNearly$Churches", name := "get", desc := "(II)I" } : Jvm.MethodName)) ∈ ez_TW := ez_tw 14 (by decide +kernel) rfl
theorem q_15 : (Jvm.Cond.selects "EastNearly$Churches" ({ cls := "EastNearly$Churches", name := "has", desc := "(I)Z" } : Jvm.MethodName) ({ cls := "EastNearly$Churches", name := "has", desc := "(I)Z" } : Jvm.MethodName)) ∈ ez_TW := ez_tw 15 (by decide +kernel) rfl
theorem q_16 : (Jvm.Cond.selects "EastNearly" ({ cls := "EastNearly", name := "lineBy", desc := "(III)I" } : Jvm.MethodName) ({ cls := "EastNearly", name := "lineBy", desc := "(III)I" } : Jvm.MethodName)) ∈ ez_TW := ez_tw 16 (by decide +kernel) rfl
theorem q_17 : (Jvm.Cond.selects "EastNearly" ({ cls := "EastNearly", name := "countHits", desc := "(II)I" } : Jvm.MethodName) ({ cls := "EastNearly", name := "countHits", desc := "(II)I" } : Jvm.MethodName)) ∈ ez_TW := ez_tw 17 (by decide +kernel) rfl
theorem q_18 : (Jvm.Cond.selects "EastNearly" ({ cls := "EastNearly", name := "ruleHits", desc := "(III)Z" } : Jvm.MethodName) ({ cls := "EastNearly", name := "ruleHits", desc := "(III)Z" } : Jvm.MethodName)) ∈ ez_TW := ez_tw 18 (by decide +kernel) rfl
theorem q_19 : (Jvm.Cond.selects "EastNearly" ({ cls := "EastNearly", name := "rulesThatExplain", desc := "(I)I" } : Jvm.MethodName) ({ cls := "EastNearly", name := "rulesThatExplain", desc := "(I)I" } : Jvm.MethodName)) ∈ ez_TW := ez_tw 19 (by decide +kernel) rfl
theorem q_20 : (Jvm.Cond.selects "EastNearly" ({ cls := "EastNearly", name := "explains", desc := "(IIIII)Z" } : Jvm.MethodName) ({ cls := "EastNearly", name := "explains", desc := "(IIIII)Z" } : Jvm.MethodName)) ∈ ez_TW := ez_tw 20 (by decide +kernel) rfl
theorem q_21 : (Jvm.Cond.selects "EastNearly" ({ cls := "EastNearly", name := "weighedHits", desc := "(II)I" } : Jvm.MethodName) ({ cls := "EastNearly", name := "weighedHits", desc := "(II)I" } : Jvm.MethodName)) ∈ ez_TW := ez_tw 21 (by decide +kernel) rfl
theorem q_22 : (Jvm.Cond.selects "EastNearly" ({ cls := "EastNearly", name := "suffices", desc := "(I)Z" } : Jvm.MethodName) ({ cls := "EastNearly", name := "suffices", desc := "(I)Z" } : Jvm.MethodName)) ∈ ez_TW := ez_tw 22 (by decide +kernel) rfl
theorem q_23 : (Jvm.Cond.selects "EastNearly" ({ cls := "EastNearly", name := "isDayOfLine", desc := "(II)Z" } : Jvm.MethodName) ({ cls := "EastNearly", name := "isDayOfLine", desc := "(II)Z" } : Jvm.MethodName)) ∈ ez_TW := ez_tw 23 (by decide +kernel) rfl
theorem q_24 : (Jvm.Cond.selects "EastNearly" ({ cls := "EastNearly", name := "ownHits", desc := "()I" } : Jvm.MethodName) ({ cls := "EastNearly", name := "ownHits", desc := "()I" } : Jvm.MethodName)) ∈ ez_TW := ez_tw 24 (by decide +kernel) rfl
theorem q_25 : (Jvm.Cond.selects "EastNearly" ({ cls := "EastNearly", name := "dealSaints", desc := "()V" } : Jvm.MethodName) ({ cls := "EastNearly", name := "dealSaints", desc := "()V" } : Jvm.MethodName)) ∈ ez_TW := ez_tw 25 (by decide +kernel) rfl
theorem q_26 : (Jvm.Cond.selects "EastNearly$SaintDeals" ({ cls := "EastNearly$SaintDeals", name := "clearSaints", desc := "()V" } : Jvm.MethodName) ({ cls := "EastNearly$SaintDeals", name := "clearSaints", desc := "()V" } : Jvm.MethodName)) ∈ ez_TW := ez_tw 26 (by decide +kernel) rfl
theorem q_27 : (Jvm.Cond.selects "EastNearly$Churches" ({ cls := "EastNearly$Churches", name := "knows", desc := "(II)Z" } : Jvm.MethodName) ({ cls := "EastNearly$Churches", name := "knows", desc := "(II)Z" } : Jvm.MethodName)) ∈ ez_TW := ez_tw 27 (by decide +kernel) rfl
theorem q_28 : (Jvm.Cond.selects "EastNearly" ({ cls := "EastNearly", name := "saintsThatExplain", desc := "(I)I" } : Jvm.MethodName) ({ cls := "EastNearly", name := "saintsThatExplain", desc := "(I)I" } : Jvm.MethodName)) ∈ ez_TW := ez_tw 28 (by decide +kernel) rfl
theorem q_29 : (Jvm.Cond.selects "EastNearly" ({ cls := "EastNearly", name := "dateExplains", desc := "(II)Z" } : Jvm.MethodName) ({ cls := "EastNearly", name := "dateExplains", desc := "(II)Z" } : Jvm.MethodName)) ∈ ez_TW := ez_tw 29 (by decide +kernel) rfl
theorem q_30 : (Jvm.Cond.selects "EastNearly" ({ cls := "EastNearly", name := "dateHits", desc := "(III)Z" } : Jvm.MethodName) ({ cls := "EastNearly", name := "dateHits", desc := "(III)Z" } : Jvm.MethodName)) ∈ ez_TW := ez_tw 30 (by decide +kernel) rfl
theorem q_31 : (Jvm.Cond.selects "EastNearly$SaintDeals" ({ cls := "EastNearly$SaintDeals", name := "addSaint", desc := "(I)V" } : Jvm.MethodName) ({ cls := "EastNearly$SaintDeals", name := "addSaint", desc := "(I)V" } : Jvm.MethodName)) ∈ ez_TW := ez_tw 31 (by decide +kernel) rfl
theorem q_32 : (Jvm.Cond.selects "EastNearly$SaintDeals" ({ cls := "EastNearly$SaintDeals", name := "countWays", desc := "()V" } : Jvm.MethodName) ({ cls := "EastNearly$SaintDeals", name := "countWays", desc := "()V" } : Jvm.MethodName)) ∈ ez_TW := ez_tw 32 (by decide +kernel) rfl
theorem q_33 : (Jvm.Cond.selects "EastNearly$SaintDeals" ({ cls := "EastNearly$SaintDeals", name := "addWays", desc := "(IIII)V" } : Jvm.MethodName) ({ cls := "EastNearly$SaintDeals", name := "addWays", desc := "(IIII)V" } : Jvm.MethodName)) ∈ ez_TW := ez_tw 33 (by decide +kernel) rfl
theorem q_34 : (Jvm.Cond.selects "EastNearly$SaintDeals" ({ cls := "EastNearly$SaintDeals", name := "waysWith", desc := "(I)I" } : Jvm.MethodName) ({ cls := "EastNearly$SaintDeals", name := "waysWith", desc := "(I)I" } : Jvm.MethodName)) ∈ ez_TW := ez_tw 34 (by decide +kernel) rfl
theorem q_35 : (Jvm.Cond.selects "EastNearly" ({ cls := "EastNearly", name := "scoreAsBuilt", desc := "()I" } : Jvm.MethodName) ({ cls := "EastNearly", name := "scoreAsBuilt", desc := "()I" } : Jvm.MethodName)) ∈ ez_TW := ez_tw 35 (by decide +kernel) rfl
theorem q_36 : (Jvm.Cond.selects "EastNearly$LineDeals" ({ cls := "EastNearly$LineDeals", name := "clearLines", desc := "()V" } : Jvm.MethodName) ({ cls := "EastNearly$LineDeals", name := "clearLines", desc := "()V" } : Jvm.MethodName)) ∈ ez_TW := ez_tw 36 (by decide +kernel) rfl
theorem q_37 : (Jvm.Cond.selects "EastNearly$Churches" ({ cls := "EastNearly$Churches", name := "middleYear", desc := "(I)I" } : Jvm.MethodName) ({ cls := "EastNearly$Churches", name := "middleYear", desc := "(I)I" } : Jvm.MethodName)) ∈ ez_TW := ez_tw 37 (by decide +kernel) rfl
theorem q_38 : (Jvm.Cond.selects "EastNearly$LineDeals" ({ cls := "EastNearly$LineDeals", name := "addLine", desc := "(II)V" } : Jvm.MethodName) ({ cls := "EastNearly$LineDeals", name := "addLine", desc := "(II)V" } : Jvm.MethodName)) ∈ ez_TW := ez_tw 38 (by decide +kernel) rfl
theorem q_39 : (Jvm.Cond.selects "EastNearly$LineDeals" ({ cls := "EastNearly$LineDeals", name := "score", desc := "()I" } : Jvm.MethodName) ({ cls := "EastNearly$LineDeals", name := "score", desc := "()I" } : Jvm.MethodName)) ∈ ez_TW := ez_tw 39 (by decide +kernel) rfl
theorem q_40 : (Jvm.Cond.selects "EastNearly$LineDeals" ({ cls := "EastNearly$LineDeals", name := "deal", desc := "(I)V" } : Jvm.MethodName) ({ cls := "EastNearly$LineDeals", name := "deal", desc := "(I)V" } : Jvm.MethodName)) ∈ ez_TW := ez_tw 40 (by decide +kernel) rfl
theorem q_41 : (Jvm.Cond.selects "EastNearly" ({ cls := "EastNearly", name := "churchesLike", desc := "(III)I" } : Jvm.MethodName) ({ cls := "EastNearly", name := "churchesLike", desc := "(III)I" } : Jvm.MethodName)) ∈ ez_TW := ez_tw 41 (by decide +kernel) rfl
theorem q_42 : (Jvm.Cond.selects "EastNearly" ({ cls := "EastNearly", name := "areAllAlike", desc := "(I)Z" } : Jvm.MethodName) ({ cls := "EastNearly", name := "areAllAlike", desc := "(I)Z" } : Jvm.MethodName)) ∈ ez_TW := ez_tw 42 (by decide +kernel) rfl
theorem q_43 : (Jvm.Cond.selects "EastNearly" ({ cls := "EastNearly", name := "slotAt", desc := "(I)LEastNearly$Churches;" } : Jvm.MethodName) ({ cls := "EastNearly", name := "slotAt", desc := "(I)LEastNearly$Churches;" } : Jvm.MethodName)) ∈ ez_TW := ez_tw 43 (by decide +kernel) rfl
theorem q_44 : (Jvm.Cond.selects "EastNearly$Churches" ({ cls := "EastNearly$Churches", name := "takeAll", desc := "(LEastNearly$Churches;)I" } : Jvm.MethodName) ({ cls := "EastNearly$Churches", name := "takeAll", desc := "(LEastNearly$Churches;)I" } : Jvm.MethodName)) ∈ ez_TW := ez_tw 44 (by decide +kernel) rfl
theorem q_45 : (Jvm.Cond.selects "EastNearly$Churches" ({ cls := "EastNearly$Churches", name := "countWith", desc := "(I)I" } : Jvm.MethodName) ({ cls := "EastNearly$Churches", name := "countWith", desc := "(I)I" } : Jvm.MethodName)) ∈ ez_TW := ez_tw 45 (by decide +kernel) rfl
theorem q_46 : (Jvm.Cond.selects "EastNearly" ({ cls := "EastNearly", name := "countUnexplained", desc := "()I" } : Jvm.MethodName) ({ cls := "EastNearly", name := "countUnexplained", desc := "()I" } : Jvm.MethodName)) ∈ ez_TW := ez_tw 46 (by decide +kernel) rfl
theorem q_47 : (Jvm.Cond.selects "EastNearlyModel" ({ cls := "EastNearlyModel", name := "riseOf", desc := "(II)I" } : Jvm.MethodName) ({ cls := "EastNearlyModel", name := "riseOf", desc := "(II)I" } : Jvm.MethodName)) ∈ ez_TW := ez_tw 47 (by decide +kernel) rfl
theorem q_48 : (Jvm.Cond.selects "EastNearlyModel" ({ cls := "EastNearlyModel", name := "dayOf", desc := "(II)I" } : Jvm.MethodName) ({ cls := "EastNearlyModel", name := "dayOf", desc := "(II)I" } : Jvm.MethodName)) ∈ ez_TW := ez_tw 48 (by decide +kernel) rfl
theorem q_49 : (Jvm.Cond.selects "EastNearlyModel" ({ cls := "EastNearlyModel", name := "readBook", desc := "()I" } : Jvm.MethodName) ({ cls := "EastNearlyModel", name := "readBook", desc := "()I" } : Jvm.MethodName)) ∈ ez_TW := ez_tw 49 (by decide +kernel) rfl
theorem q_50 : (Jvm.Cond.selects "EastNearlyModel" ({ cls := "EastNearlyModel", name := "readYear", desc := "(I)I" } : Jvm.MethodName) ({ cls := "EastNearlyModel", name := "readYear", desc := "(I)I" } : Jvm.MethodName)) ∈ ez_TW := ez_tw 50 (by decide +kernel) rfl
theorem q_51 : (Jvm.Cond.selects "EastNearlyModel" ({ cls := "EastNearlyModel", name := "figure", desc := "(II)I" } : Jvm.MethodName) ({ cls := "EastNearlyModel", name := "figure", desc := "(II)I" } : Jvm.MethodName)) ∈ ez_TW := ez_tw 51 (by decide +kernel) rfl
theorem q_52 : (Jvm.Cond.selects "EastNearlyModel" ({ cls := "EastNearlyModel", name := "sign", desc := "(I)Z" } : Jvm.MethodName) ({ cls := "EastNearlyModel", name := "sign", desc := "(I)Z" } : Jvm.MethodName)) ∈ ez_TW := ez_tw 52 (by decide +kernel) rfl
theorem q_53 : (Jvm.Cond.selects "EastNearlyModel" ({ cls := "EastNearlyModel", name := "needleOf", desc := "(I)I" } : Jvm.MethodName) ({ cls := "EastNearlyModel", name := "needleOf", desc := "(I)I" } : Jvm.MethodName)) ∈ ez_TW := ez_tw 53 (by decide +kernel) rfl
theorem q_54 : (Jvm.Cond.selects "EastNearlyModel" ({ cls := "EastNearlyModel", name := "noChurch", desc := "(I)Z" } : Jvm.MethodName) ({ cls := "EastNearlyModel", name := "noChurch", desc := "(I)Z" } : Jvm.MethodName)) ∈ ez_TW := ez_tw 54 (by decide +kernel) rfl
theorem q_55 : (Jvm.Cond.selects "EastNearlyModel" ({ cls := "EastNearlyModel", name := "lineOf", desc := "(III)I" } : Jvm.MethodName) ({ cls := "EastNearlyModel", name := "lineOf", desc := "(III)I" } : Jvm.MethodName)) ∈ ez_TW := ez_tw 55 (by decide +kernel) rfl
theorem q_56 : (Jvm.Cond.selects "EastNearlyModel" ({ cls := "EastNearlyModel", name := "riseBy", desc := "(III)I" } : Jvm.MethodName) ({ cls := "EastNearlyModel", name := "riseBy", desc := "(III)I" } : Jvm.MethodName)) ∈ ez_TW := ez_tw 56 (by decide +kernel) rfl
theorem q_57 : (Jvm.Cond.selects "EastNearlyModel" ({ cls := "EastNearlyModel", name := "hitsIn", desc := "(II)I" } : Jvm.MethodName) ({ cls := "EastNearlyModel", name := "hitsIn", desc := "(II)I" } : Jvm.MethodName)) ∈ ez_TW := ez_tw 57 (by decide +kernel) rfl
theorem q_58 : (Jvm.Cond.selects "EastNearlyModel" ({ cls := "EastNearlyModel", name := "hitsOf", desc := "(IIIIII)I" } : Jvm.MethodName) ({ cls := "EastNearlyModel", name := "hitsOf", desc := "(IIIIII)I" } : Jvm.MethodName)) ∈ ez_TW := ez_tw 58 (by decide +kernel) rfl
theorem q_59 : (Jvm.Cond.selects "EastNearlyModel" ({ cls := "EastNearlyModel", name := "isNear", desc := "(III)Z" } : Jvm.MethodName) ({ cls := "EastNearlyModel", name := "isNear", desc := "(III)Z" } : Jvm.MethodName)) ∈ ez_TW := ez_tw 59 (by decide +kernel) rfl
theorem q_60 : (Jvm.Cond.selects "EastNearlyModel" ({ cls := "EastNearlyModel", name := "explained", desc := "(I)I" } : Jvm.MethodName) ({ cls := "EastNearlyModel", name := "explained", desc := "(I)I" } : Jvm.MethodName)) ∈ ez_TW := ez_tw 60 (by decide +kernel) rfl
theorem q_61 : (Jvm.Cond.selects "EastNearlyModel" ({ cls := "EastNearlyModel", name := "worth", desc := "(I)I" } : Jvm.MethodName) ({ cls := "EastNearlyModel", name := "worth", desc := "(I)I" } : Jvm.MethodName)) ∈ ez_TW := ez_tw 61 (by decide +kernel) rfl
theorem q_62 : (Jvm.Cond.selects "EastNearlyModel" ({ cls := "EastNearlyModel", name := "laySaints", desc := "()I" } : Jvm.MethodName) ({ cls := "EastNearlyModel", name := "laySaints", desc := "()I" } : Jvm.MethodName)) ∈ ez_TW := ez_tw 62 (by decide +kernel) rfl
theorem q_63 : (Jvm.Cond.selects "EastNearlyModel" ({ cls := "EastNearlyModel", name := "isBy", desc := "(II)Z" } : Jvm.MethodName) ({ cls := "EastNearlyModel", name := "isBy", desc := "(II)Z" } : Jvm.MethodName)) ∈ ez_TW := ez_tw 63 (by decide +kernel) rfl
theorem q_64 : (Jvm.Cond.selects "EastNearlyModel" ({ cls := "EastNearlyModel", name := "layDeals", desc := "()V" } : Jvm.MethodName) ({ cls := "EastNearlyModel", name := "layDeals", desc := "()V" } : Jvm.MethodName)) ∈ ez_TW := ez_tw 64 (by decide +kernel) rfl
theorem q_65 : (Jvm.Cond.selects "EastNearlyModel" ({ cls := "EastNearlyModel", name := "dealsOf", desc := "(I)J" } : Jvm.MethodName) ({ cls := "EastNearlyModel", name := "dealsOf", desc := "(I)J" } : Jvm.MethodName)) ∈ ez_TW := ez_tw 65 (by decide +kernel) rfl
theorem q_66 : (Jvm.Cond.selects "EastNearlyModel" ({ cls := "EastNearlyModel", name := "goesNow", desc := "()I" } : Jvm.MethodName) ({ cls := "EastNearlyModel", name := "goesNow", desc := "()I" } : Jvm.MethodName)) ∈ ez_TW := ez_tw 66 (by decide +kernel) rfl
theorem q_67 : (Jvm.Cond.selects "EastNearlyModel" ({ cls := "EastNearlyModel", name := "goesBy", desc := "()I" } : Jvm.MethodName) ({ cls := "EastNearlyModel", name := "goesBy", desc := "()I" } : Jvm.MethodName)) ∈ ez_TW := ez_tw 67 (by decide +kernel) rfl
theorem q_68 : (Jvm.Cond.selects "EastNearlyModel" ({ cls := "EastNearlyModel", name := "middle", desc := "(I)I" } : Jvm.MethodName) ({ cls := "EastNearlyModel", name := "middle", desc := "(I)I" } : Jvm.MethodName)) ∈ ez_TW := ez_tw 68 (by decide +kernel) rfl
theorem q_69 : (Jvm.Cond.selects "EastNearlyModel" ({ cls := "EastNearlyModel", name := "aside", desc := "(I)I" } : Jvm.MethodName) ({ cls := "EastNearlyModel", name := "aside", desc := "(I)I" } : Jvm.MethodName)) ∈ ez_TW := ez_tw 69 (by decide +kernel) rfl
theorem q_70 : (Jvm.Cond.selects "EastNearlyModel" ({ cls := "EastNearlyModel", name := "whenOf", desc := "(III)I" } : Jvm.MethodName) ({ cls := "EastNearlyModel", name := "whenOf", desc := "(III)I" } : Jvm.MethodName)) ∈ ez_TW := ez_tw 70 (by decide +kernel) rfl
theorem q_71 : (Jvm.Cond.initialized "EastNearlyLaw") ∈ ez_TW := ez_tw 71 (by decide +kernel) rfl
theorem q_72 : (Jvm.Cond.initialized "EastNearly") ∈ ez_TW := ez_tw 72 (by decide +kernel) rfl
theorem q_73 : (Jvm.Cond.initialized "EastNearly$Sky") ∈ ez_TW := ez_tw 73 (by decide +kernel) rfl
theorem q_74 : (Jvm.Cond.initialized "EastNearly$Book") ∈ ez_TW := ez_tw 74 (by decide +kernel) rfl
theorem q_75 : (Jvm.Cond.initialized "EastNearly$Churches") ∈ ez_TW := ez_tw 75 (by decide +kernel) rfl
theorem q_76 : (Jvm.Cond.initialized "EastNearly$SaintDeals") ∈ ez_TW := ez_tw 76 (by decide +kernel) rfl
theorem q_77 : (Jvm.Cond.initialized "EastNearly$LineDeals") ∈ ez_TW := ez_tw 77 (by decide +kernel) rfl
theorem q_78 : (Jvm.Cond.initialized "EastNearlyModel") ∈ ez_TW := ez_tw 78 (by decide +kernel) rfl
theorem q_79 : (Jvm.Cond.initialized "java/lang/Math") ∈ ez_TW := ez_tw 79 (by decide +kernel) rfl
theorem q_80 : (Jvm.Cond.initialized "java/lang/Integer") ∈ ez_TW := ez_tw 80 (by decide +kernel) rfl
theorem q_81 : (Jvm.Cond.classLink "EastNearlyLaw" (7 : Nat) "EastNearly") ∈ ez_TW := ez_tw 81 (by decide +kernel) rfl
theorem q_82 : (Jvm.Cond.instantiable "EastNearly" (10 : Nat)) ∈ ez_TW := ez_tw 82 (by decide +kernel) rfl
theorem q_83 : (Jvm.Cond.methodLink "EastNearlyLaw" (9 : Nat) ({ cls := "EastNearly", name := "<init>", desc := "()V" } : Jvm.MethodName)) ∈ ez_TW := ez_tw 83 (by decide +kernel) rfl
theorem q_84 : (Jvm.Cond.instanceMethod ({ cls := "EastNearly", name := "<init>", desc := "()V" } : Jvm.MethodName)) ∈ ez_TW := ez_tw 84 (by decide +kernel) rfl
theorem q_85 : (Jvm.Cond.code ({ cls := "EastNearly", name := "<init>", desc := "()V" } : Jvm.MethodName) prog_1_method_1_code (2 : Nat) (Option.none : Option Jvm.ClassFile.FieldType)) ∈ ez_TW := ez_tw 85 (by decide +kernel) rfl
theorem q_86 : (Jvm.Cond.methodLink "EastNearly" (1 : Nat) ({ cls := "java/lang/Object", name := "<init>", desc := "()V" } : Jvm.MethodName)) ∈ ez_TW := ez_tw 86 (by decide +kernel) rfl
theorem q_87 : (Jvm.Cond.instanceMethod ({ cls := "java/lang/Object", name := "<init>", desc := "()V" } : Jvm.MethodName)) ∈ ez_TW := ez_tw 87 (by decide +kernel) rfl
theorem q_88 : (Jvm.Cond.code ({ cls := "java/lang/Object", name := "<init>", desc := "()V" } : Jvm.MethodName) object_method_1_code (1 : Nat) (Option.none : Option Jvm.ClassFile.FieldType)) ∈ ez_TW := ez_tw 88 (by decide +kernel) rfl
theorem q_89 : (Jvm.Cond.classLink "EastNearly" (7 : Nat) "EastNearly$Sky") ∈ ez_TW := ez_tw 89 (by decide +kernel) rfl
theorem q_90 : (Jvm.Cond.instantiable "EastNearly$Sky" (2 : Nat)) ∈ ez_TW := ez_tw 90 (by decide +kernel) rfl
theorem q_91 : (Jvm.Cond.methodLinkNest "EastNearly" (9 : Nat) ({ cls := "EastNearly$Sky", name := "<init>", desc := "()V" } : Jvm.MethodName) "EastNearly") ∈ ez_NW := ez_nw 91 (by decide +kernel) rfl
theorem q_92 : (Jvm.Cond.instanceMethod ({ cls := "EastNearly$Sky", name := "<init>", desc := "()V" } : Jvm.MethodName)) ∈ ez_TW := ez_tw 92 (by decide +kernel) rfl
theorem q_93 : (Jvm.Cond.code ({ cls := "EastNearly$Sky", name := "<init>", desc := "()V" } : Jvm.MethodName) prog_6_method_1_code (1 : Nat) (Option.none : Option Jvm.ClassFile.FieldType)) ∈ ez_TW := ez_tw 93 (by decide +kernel) rfl
theorem q_94 : (Jvm.Cond.methodLink "EastNearly$Sky" (3 : Nat) ({ cls := "java/lang/Object", name := "<init>", desc := "()V" } : Jvm.MethodName)) ∈ ez_TW := ez_tw 94 (by decide +kernel) rfl
theorem q_95 : (Jvm.Cond.fieldLink "EastNearly$Sky" (9 : Nat) "EastNearly$Sky" "heights" "[I") ∈ ez_TW := ez_tw 95 (by decide +kernel) rfl
theorem q_96 : (Jvm.Cond.fieldLink "EastNearly$Sky" (15 : Nat) "EastNearly$Sky" "switchYear" "I") ∈ ez_TW := ez_tw 96 (by decide +kernel) rfl
theorem q_97 : (Jvm.Cond.fieldLinkNest "EastNearly" (94 : Nat) "EastNearly$Sky" "switchYear" "I" "EastNearly") ∈ ez_NW := ez_nw 97 (by decide +kernel) rfl
theorem q_98 : (Jvm.Cond.laysFinal "EastNearly$Sky" "EastNearly$Sky" "heights" "[I") ∈ ez_TW := ez_tw 98 (by decide +kernel) rfl
theorem q_100 : (Jvm.Cond.lays "EastNearly$Sky" "EastNearly$Sky" "switchYear" "I") ∈ ez_TW := ez_tw 100 (by decide +kernel) rfl
theorem q_103 : (Jvm.Cond.arrayClass Jvm.ClassFile.FieldType.int) ∈ ez_TW := ez_tw 103 (by decide +kernel) rfl
theorem q_104 : (Jvm.Cond.classLink "EastNearly" (16 : Nat) "EastNearly$Book") ∈ ez_TW := ez_tw 104 (by decide +kernel) rfl
theorem q_105 : (Jvm.Cond.instantiable "EastNearly$Book" (5 : Nat)) ∈ ez_TW := ez_tw 105 (by decide +kernel) rfl
theorem q_106 : (Jvm.Cond.methodLinkNest "EastNearly" (18 : Nat) ({ cls := "EastNearly$Book", name := "<init>", desc := "()V" } : Jvm.MethodName) "EastNearly") ∈ ez_NW := ez_nw 106 (by decide +kernel) rfl
theorem q_107 : (Jvm.Cond.instanceMethod ({ cls := "EastNearly$Book", name := "<init>", desc := "()V" } : Jvm.MethodName)) ∈ ez_TW := ez_tw 107 (by decide +kernel) rfl
theorem q_108 : (Jvm.Cond.code ({ cls := "EastNearly$Book", name := "<init>", desc := "()V" } : Jvm.MethodName) prog_2_method_1_code (1 : Nat) (Option.none : Option Jvm.ClassFile.FieldType)) ∈ ez_TW := ez_tw 108 (by decide +kernel) rfl
theorem q_109 : (Jvm.Cond.methodLink "EastNearly$Book" (3 : Nat) ({ cls := "java/lang/Object", name := "<init>", desc := "()V" } : Jvm.MethodName)) ∈ ez_TW := ez_tw 109 (by decide +kernel) rfl
theorem q_110 : (Jvm.Cond.fieldLink "EastNearly$Book" (11 : Nat) "EastNearly$Book" "text" "[I") ∈ ez_TW := ez_tw 110 (by decide +kernel) rfl
theorem q_111 : (Jvm.Cond.fieldLink "EastNearly$Book" (15 : Nat) "EastNearly$Book" "years" "[I") ∈ ez_TW := ez_tw 111 (by decide +kernel) rfl
theorem q_112 : (Jvm.Cond.fieldLink "EastNearly$Book" (18 : Nat) "EastNearly$Book" "turns" "[I") ∈ ez_TW := ez_tw 112 (by decide +kernel) rfl
theorem q_113 : (Jvm.Cond.fieldLink "EastNearly$Book" (21 : Nat) "EastNearly$Book" "length" "I") ∈ ez_TW := ez_tw 113 (by decide +kernel) rfl
theorem q_114 : (Jvm.Cond.fieldLinkNest "EastNearly" (245 : Nat) "EastNearly$Book" "length" "I" "EastNearly") ∈ ez_NW := ez_nw 114 (by decide +kernel) rfl
theorem q_115 : (Jvm.Cond.fieldLink "EastNearly$Book" (25 : Nat) "EastNearly$Book" "entries" "I") ∈ ez_TW := ez_tw 115 (by decide +kernel) rfl
theorem q_116 : (Jvm.Cond.fieldLinkNest "EastNearly" (242 : Nat) "EastNearly$Book" "entries" "I" "EastNearly") ∈ ez_NW := ez_nw 116 (by decide +kernel) rfl
theorem q_117 : (Jvm.Cond.laysFinal "EastNearly$Book" "EastNearly$Book" "text" "[I") ∈ ez_TW := ez_tw 117 (by decide +kernel) rfl
theorem q_119 : (Jvm.Cond.laysFinal "EastNearly$Book" "EastNearly$Book" "years" "[I") ∈ ez_TW := ez_tw 119 (by decide +kernel) rfl
theorem q_121 : (Jvm.Cond.laysFinal "EastNearly$Book" "EastNearly$Book" "turns" "[I") ∈ ez_TW := ez_tw 121 (by decide +kernel) rfl
theorem q_123 : (Jvm.Cond.lays "EastNearly$Book" "EastNearly$Book" "length" "I") ∈ ez_TW := ez_tw 123 (by decide +kernel) rfl
theorem q_125 : (Jvm.Cond.lays "EastNearly$Book" "EastNearly$Book" "entries" "I") ∈ ez_TW := ez_tw 125 (by decide +kernel) rfl
theorem q_128 : (Jvm.Cond.classLink "EastNearly" (23 : Nat) "EastNearly$Churches") ∈ ez_TW := ez_tw 128 (by decide +kernel) rfl
theorem q_129 : (Jvm.Cond.instantiable "EastNearly$Churches" (3 : Nat)) ∈ ez_TW := ez_tw 129 (by decide +kernel) rfl
theorem q_130 : (Jvm.Cond.methodLinkNest "EastNearly" (25 : Nat) ({ cls := "EastNearly$Churches", name := "<init>", desc := "()V" } : Jvm.MethodName) "EastNearly") ∈ ez_NW := ez_nw 130 (by decide +kernel) rfl
theorem q_131 : (Jvm.Cond.instanceMethod ({ cls := "EastNearly$Churches", name := "<init>", desc := "()V" } : Jvm.MethodName)) ∈ ez_TW := ez_tw 131 (by decide +kernel) rfl
theorem q_132 : (Jvm.Cond.code ({ cls := "EastNearly$Churches", name := "<init>", desc := "()V" } : Jvm.MethodName) prog_3_method_1_code (1 : Nat) (Option.none : Option Jvm.ClassFile.FieldType)) ∈ ez_TW := ez_tw 132 (by decide +kernel) rfl
theorem q_133 : (Jvm.Cond.methodLink "EastNearly$Churches" (3 : Nat) ({ cls := "java/lang/Object", name := "<init>", desc := "()V" } : Jvm.MethodName)) ∈ ez_TW := ez_tw 133 (by decide +kernel) rfl
theorem q_134 : (Jvm.Cond.fieldLink "EastNearly$Churches" (9 : Nat) "EastNearly$Churches" "told" "[I") ∈ ez_TW := ez_tw 134 (by decide +kernel) rfl
theorem q_135 : (Jvm.Cond.fieldLink "EastNearly$Churches" (15 : Nat) "EastNearly$Churches" "size" "I") ∈ ez_TW := ez_tw 135 (by decide +kernel) rfl
theorem q_136 : (Jvm.Cond.fieldLinkNest "EastNearly" (126 : Nat) "EastNearly$Churches" "size" "I" "EastNearly") ∈ ez_NW := ez_nw 136 (by decide +kernel) rfl
theorem q_137 : (Jvm.Cond.fieldLink "EastNearly$Churches" (19 : Nat) "EastNearly$Churches" "taken" "Z") ∈ ez_TW := ez_tw 137 (by decide +kernel) rfl
theorem q_138 : (Jvm.Cond.fieldLinkNest "EastNearly" (232 : Nat) "EastNearly$Churches" "taken" "Z" "EastNearly") ∈ ez_NW := ez_nw 138 (by decide +kernel) rfl
theorem q_139 : (Jvm.Cond.laysFinal "EastNearly$Churches" "EastNearly$Churches" "told" "[I") ∈ ez_TW := ez_tw 139 (by decide +kernel) rfl
theorem q_141 : (Jvm.Cond.lays "EastNearly$Churches" "EastNearly$Churches" "size" "I") ∈ ez_TW := ez_tw 141 (by decide +kernel) rfl
theorem q_143 : (Jvm.Cond.lays "EastNearly$Churches" "EastNearly$Churches" "taken" "Z") ∈ ez_TW := ez_tw 143 (by decide +kernel) rfl
theorem q_146 : (Jvm.Cond.classLink "EastNearly" (36 : Nat) "EastNearly$SaintDeals") ∈ ez_TW := ez_tw 146 (by decide +kernel) rfl
theorem q_147 : (Jvm.Cond.instantiable "EastNearly$SaintDeals" (3 : Nat)) ∈ ez_TW := ez_tw 147 (by decide +kernel) rfl
theorem q_148 : (Jvm.Cond.methodLinkNest "EastNearly" (38 : Nat) ({ cls := "EastNearly$SaintDeals", name := "<init>", desc := "()V" } : Jvm.MethodName) "EastNearly") ∈ ez_NW := ez_nw 148 (by decide +kernel) rfl
theorem q_149 : (Jvm.Cond.instanceMethod ({ cls := "EastNearly$SaintDeals", name := "<init>", desc := "()V" } : Jvm.MethodName)) ∈ ez_TW := ez_tw 149 (by decide +kernel) rfl
theorem q_150 : (Jvm.Cond.code ({ cls := "EastNearly$SaintDeals", name := "<init>", desc := "()V" } : Jvm.MethodName) prog_5_method_1_code (1 : Nat) (Option.none : Option Jvm.ClassFile.FieldType)) ∈ ez_TW := ez_tw 150 (by decide +kernel) rfl
theorem q_151 : (Jvm.Cond.methodLink "EastNearly$SaintDeals" (3 : Nat) ({ cls := "java/lang/Object", name := "<init>", desc := "()V" } : Jvm.MethodName)) ∈ ez_TW := ez_tw 151 (by decide +kernel) rfl
theorem q_152 : (Jvm.Cond.fieldLink "EastNearly$SaintDeals" (9 : Nat) "EastNearly$SaintDeals" "explaining" "[I") ∈ ez_TW := ez_tw 152 (by decide +kernel) rfl
theorem q_153 : (Jvm.Cond.fieldLink "EastNearly$SaintDeals" (15 : Nat) "EastNearly$SaintDeals" "ways" "[I") ∈ ez_TW := ez_tw 153 (by decide +kernel) rfl
theorem q_154 : (Jvm.Cond.fieldLink "EastNearly$SaintDeals" (18 : Nat) "EastNearly$SaintDeals" "places" "I") ∈ ez_TW := ez_tw 154 (by decide +kernel) rfl
theorem q_155 : (Jvm.Cond.laysFinal "EastNearly$SaintDeals" "EastNearly$SaintDeals" "explaining" "[I") ∈ ez_TW := ez_tw 155 (by decide +kernel) rfl
theorem q_157 : (Jvm.Cond.laysFinal "EastNearly$SaintDeals" "EastNearly$SaintDeals" "ways" "[I") ∈ ez_TW := ez_tw 157 (by decide +kernel) rfl
theorem q_159 : (Jvm.Cond.lays "EastNearly$SaintDeals" "EastNearly$SaintDeals" "places" "I") ∈ ez_TW := ez_tw 159 (by decide +kernel) rfl
theorem q_162 : (Jvm.Cond.classLink "EastNearly" (43 : Nat) "EastNearly$LineDeals") ∈ ez_TW := ez_tw 162 (by decide +kernel) rfl
theorem q_163 : (Jvm.Cond.instantiable "EastNearly$LineDeals" (4 : Nat)) ∈ ez_TW := ez_tw 163 (by decide +kernel) rfl
theorem q_164 : (Jvm.Cond.methodLinkNest "EastNearly" (45 : Nat) ({ cls := "EastNearly$LineDeals", name := "<init>", desc := "()V" } : Jvm.MethodName) "EastNearly") ∈ ez_NW := ez_nw 164 (by decide +kernel) rfl
theorem q_165 : (Jvm.Cond.instanceMethod ({ cls := "EastNearly$LineDeals", name := "<init>", desc := "()V" } : Jvm.MethodName)) ∈ ez_TW := ez_tw 165 (by decide +kernel) rfl
theorem q_166 : (Jvm.Cond.code ({ cls := "EastNearly$LineDeals", name := "<init>", desc := "()V" } : Jvm.MethodName) prog_4_method_1_code (1 : Nat) (Option.none : Option Jvm.ClassFile.FieldType)) ∈ ez_TW := ez_tw 166 (by decide +kernel) rfl
theorem q_167 : (Jvm.Cond.methodLink "EastNearly$LineDeals" (3 : Nat) ({ cls := "java/lang/Object", name := "<init>", desc := "()V" } : Jvm.MethodName)) ∈ ez_TW := ez_tw 167 (by decide +kernel) rfl
theorem q_168 : (Jvm.Cond.fieldLink "EastNearly$LineDeals" (9 : Nat) "EastNearly$LineDeals" "needles" "[I") ∈ ez_TW := ez_tw 168 (by decide +kernel) rfl
theorem q_169 : (Jvm.Cond.fieldLink "EastNearly$LineDeals" (15 : Nat) "EastNearly$LineDeals" "lines" "[I") ∈ ez_TW := ez_tw 169 (by decide +kernel) rfl
theorem q_170 : (Jvm.Cond.fieldLink "EastNearly$LineDeals" (18 : Nat) "EastNearly$LineDeals" "dealtLines" "[I") ∈ ez_TW := ez_tw 170 (by decide +kernel) rfl
theorem q_171 : (Jvm.Cond.fieldLink "EastNearly$LineDeals" (21 : Nat) "EastNearly$LineDeals" "places" "I") ∈ ez_TW := ez_tw 171 (by decide +kernel) rfl
theorem q_172 : (Jvm.Cond.laysFinal "EastNearly$LineDeals" "EastNearly$LineDeals" "needles" "[I") ∈ ez_TW := ez_tw 172 (by decide +kernel) rfl
theorem q_174 : (Jvm.Cond.laysFinal "EastNearly$LineDeals" "EastNearly$LineDeals" "lines" "[I") ∈ ez_TW := ez_tw 174 (by decide +kernel) rfl
theorem q_176 : (Jvm.Cond.laysFinal "EastNearly$LineDeals" "EastNearly$LineDeals" "dealtLines" "[I") ∈ ez_TW := ez_tw 176 (by decide +kernel) rfl
theorem q_178 : (Jvm.Cond.lays "EastNearly$LineDeals" "EastNearly$LineDeals" "places" "I") ∈ ez_TW := ez_tw 178 (by decide +kernel) rfl
theorem q_181 : (Jvm.Cond.methodLink "EastNearly" (61 : Nat) ({ cls := "EastNearly", name := "put", desc := "([III)V" } : Jvm.MethodName)) ∈ ez_TW := ez_tw 181 (by decide +kernel) rfl
theorem q_182 : (Jvm.Cond.static ({ cls := "EastNearly", name := "put", desc := "([III)V" } : Jvm.MethodName)) ∈ ez_TW := ez_tw 182 (by decide +kernel) rfl
theorem q_183 : (Jvm.Cond.code ({ cls := "EastNearly", name := "put", desc := "([III)V" } : Jvm.MethodName) prog_1_method_76_code (3 : Nat) (Option.none : Option Jvm.ClassFile.FieldType)) ∈ ez_TW := ez_tw 183 (by decide +kernel) rfl
theorem q_184 : (Jvm.Cond.fieldLink "EastNearly" (10 : Nat) "EastNearly" "sky" "LEastNearly$Sky;") ∈ ez_TW := ez_tw 184 (by decide +kernel) rfl
theorem q_185 : (Jvm.Cond.fieldLink "EastNearly" (19 : Nat) "EastNearly" "needleBook" "LEastNearly$Book;") ∈ ez_TW := ez_tw 185 (by decide +kernel) rfl
theorem q_186 : (Jvm.Cond.fieldLink "EastNearly" (26 : Nat) "EastNearly" "churches" "LEastNearly$Churches;") ∈ ez_TW := ez_tw 186 (by decide +kernel) rfl
theorem q_187 : (Jvm.Cond.fieldLink "EastNearly" (30 : Nat) "EastNearly" "firstSlot" "LEastNearly$Churches;") ∈ ez_TW := ez_tw 187 (by decide +kernel) rfl
theorem q_188 : (Jvm.Cond.fieldLink "EastNearly" (33 : Nat) "EastNearly" "secondSlot" "LEastNearly$Churches;") ∈ ez_TW := ez_tw 188 (by decide +kernel) rfl
theorem q_189 : (Jvm.Cond.fieldLink "EastNearly" (39 : Nat) "EastNearly" "saintDeals" "LEastNearly$SaintDeals;") ∈ ez_TW := ez_tw 189 (by decide +kernel) rfl
theorem q_190 : (Jvm.Cond.fieldLink "EastNearly" (46 : Nat) "EastNearly" "lineDeals" "LEastNearly$LineDeals;") ∈ ez_TW := ez_tw 190 (by decide +kernel) rfl
theorem q_191 : (Jvm.Cond.fieldLink "EastNearly" (50 : Nat) "EastNearly" "weights" "[I") ∈ ez_TW := ez_tw 191 (by decide +kernel) rfl
theorem q_192 : (Jvm.Cond.fieldLink "EastNearly" (54 : Nat) "EastNearly" "bitsOfChurches" "[I") ∈ ez_TW := ez_tw 192 (by decide +kernel) rfl
theorem q_193 : (Jvm.Cond.fieldLink "EastNearly" (57 : Nat) "EastNearly" "feastDate" "I") ∈ ez_TW := ez_tw 193 (by decide +kernel) rfl
theorem q_194 : (Jvm.Cond.laysFinal "EastNearly" "EastNearly" "sky" "LEastNearly$Sky;") ∈ ez_TW := ez_tw 194 (by decide +kernel) rfl
theorem q_196 : (Jvm.Cond.laysFinal "EastNearly" "EastNearly" "needleBook" "LEastNearly$Book;") ∈ ez_TW := ez_tw 196 (by decide +kernel) rfl
theorem q_198 : (Jvm.Cond.laysFinal "EastNearly" "EastNearly" "churches" "LEastNearly$Churches;") ∈ ez_TW := ez_tw 198 (by decide +kernel) rfl
theorem q_200 : (Jvm.Cond.laysFinal "EastNearly" "EastNearly" "firstSlot" "LEastNearly$Churches;") ∈ ez_TW := ez_tw 200 (by decide +kernel) rfl
theorem q_202 : (Jvm.Cond.laysFinal "EastNearly" "EastNearly" "secondSlot" "LEastNearly$Churches;") ∈ ez_TW := ez_tw 202 (by decide +kernel) rfl
theorem q_204 : (Jvm.Cond.laysFinal "EastNearly" "EastNearly" "saintDeals" "LEastNearly$SaintDeals;") ∈ ez_TW := ez_tw 204 (by decide +kernel) rfl
theorem q_206 : (Jvm.Cond.laysFinal "EastNearly" "EastNearly" "lineDeals" "LEastNearly$LineDeals;") ∈ ez_TW := ez_tw 206 (by decide +kernel) rfl
theorem q_208 : (Jvm.Cond.laysFinal "EastNearly" "EastNearly" "weights" "[I") ∈ ez_TW := ez_tw 208 (by decide +kernel) rfl
theorem q_210 : (Jvm.Cond.laysFinal "EastNearly" "EastNearly" "bitsOfChurches" "[I") ∈ ez_TW := ez_tw 210 (by decide +kernel) rfl
theorem q_212 : (Jvm.Cond.lays "EastNearly" "EastNearly" "feastDate" "I") ∈ ez_TW := ez_tw 212 (by decide +kernel) rfl
theorem q_215 : (Jvm.Cond.methodLink "EastNearlyLaw" (13 : Nat) ({ cls := "EastNearly", name := "off", desc := "(II)I" } : Jvm.MethodName)) ∈ ez_TW := ez_tw 215 (by decide +kernel) rfl
theorem q_216 : (Jvm.Cond.instanceMethod ({ cls := "EastNearly", name := "off", desc := "(II)I" } : Jvm.MethodName)) ∈ ez_TW := ez_tw 216 (by decide +kernel) rfl
theorem q_217 : (Jvm.Cond.selects "EastNearly" ({ cls := "EastNearly", name := "off", desc := "(II)I" } : Jvm.MethodName) ({ cls := "EastNearly", name := "off", desc := "(II)I" } : Jvm.MethodName)) ∈ ez_TW := ez_tw 217 (by decide +kernel) rfl
theorem q_218 : (Jvm.Cond.code ({ cls := "EastNearly", name := "off", desc := "(II)I" } : Jvm.MethodName) prog_1_method_2_code (3 : Nat) (Option.some Jvm.ClassFile.FieldType.int)) ∈ ez_TW := ez_tw 218 (by decide +kernel) rfl
theorem q_219 : (Jvm.Cond.methodLink "EastNearly" (65 : Nat) ({ cls := "EastNearly", name := "isDegree", desc := "(I)Z" } : Jvm.MethodName)) ∈ ez_TW := ez_tw 219 (by decide +kernel) rfl
theorem q_220 : (Jvm.Cond.static ({ cls := "EastNearly", name := "isDegree", desc := "(I)Z" } : Jvm.MethodName)) ∈ ez_TW := ez_tw 220 (by decide +kernel) rfl
theorem q_221 : (Jvm.Cond.code ({ cls := "EastNearly", name := "isDegree", desc := "(I)Z" } : Jvm.MethodName) prog_1_method_63_code (1 : Nat) (Option.some Jvm.ClassFile.FieldType.boolean)) ∈ ez_TW := ez_tw 221 (by decide +kernel) rfl
theorem q_222 : (Jvm.Cond.methodLink "EastNearly" (83 : Nat) ({ cls := "EastNearly", name := "within", desc := "(III)Z" } : Jvm.MethodName)) ∈ ez_TW := ez_tw 222 (by decide +kernel) rfl
theorem q_223 : (Jvm.Cond.static ({ cls := "EastNearly", name := "within", desc := "(III)Z" } : Jvm.MethodName)) ∈ ez_TW := ez_tw 223 (by decide +kernel) rfl
theorem q_224 : (Jvm.Cond.code ({ cls := "EastNearly", name := "within", desc := "(III)Z" } : Jvm.MethodName) prog_1_method_62_code (3 : Nat) (Option.some Jvm.ClassFile.FieldType.boolean)) ∈ ez_TW := ez_tw 224 (by decide +kernel) rfl
theorem q_225 : (Jvm.Cond.methodLink "EastNearly" (69 : Nat) ({ cls := "EastNearly", name := "apart", desc := "(II)I" } : Jvm.MethodName)) ∈ ez_TW := ez_tw 225 (by decide +kernel) rfl
theorem q_226 : (Jvm.Cond.static ({ cls := "EastNearly", name := "apart", desc := "(II)I" } : Jvm.MethodName)) ∈ ez_TW := ez_tw 226 (by decide +kernel) rfl
theorem q_227 : (Jvm.Cond.code ({ cls := "EastNearly", name := "apart", desc := "(II)I" } : Jvm.MethodName) prog_1_method_70_code (3 : Nat) (Option.some Jvm.ClassFile.FieldType.int)) ∈ ez_TW := ez_tw 227 (by decide +kernel) rfl
theorem q_228 : (Jvm.Cond.methodLink "EastNearly" (279 : Nat) ({ cls := "java/lang/Math", name := "abs", desc := "(I)I" } : Jvm.MethodName)) ∈ ez_TW := ez_tw 228 (by decide +kernel) rfl
theorem q_229 : (Jvm.Cond.static ({ cls := "java/lang/Math", name := "abs", desc := "(I)I" } : Jvm.MethodName)) ∈ ez_TW := ez_tw 229 (by decide +kernel) rfl
theorem q_230 : (Jvm.Cond.code ({ cls := "java/lang/Math", name := "abs", desc := "(I)I" } : Jvm.MethodName) prog_10_method_59_code (1 : Nat) (Option.some Jvm.ClassFile.FieldType.int)) ∈ ez_TW := ez_tw 230 (by decide +kernel) rfl
theorem q_231 : (Jvm.Cond.methodLink "EastNearly" (284 : Nat) ({ cls := "java/lang/Math", name := "min", desc := "(II)I" } : Jvm.MethodName)) ∈ ez_TW := ez_tw 231 (by decide +kernel) rfl
theorem q_232 : (Jvm.Cond.static ({ cls := "java/lang/Math", name := "min", desc := "(II)I" } : Jvm.MethodName)) ∈ ez_TW := ez_tw 232 (by decide +kernel) rfl
theorem q_233 : (Jvm.Cond.code ({ cls := "java/lang/Math", name := "min", desc := "(II)I" } : Jvm.MethodName) prog_10_method_69_code (2 : Nat) (Option.some Jvm.ClassFile.FieldType.int)) ∈ ez_TW := ez_tw 233 (by decide +kernel) rfl
theorem q_234 : (Jvm.Cond.methodLink "EastNearlyLaw" (18 : Nat) ({ cls := "EastNearly", name := "sun", desc := "(I)I" } : Jvm.MethodName)) ∈ ez_TW := ez_tw 234 (by decide +kernel) rfl
theorem q_235 : (Jvm.Cond.instanceMethod ({ cls := "EastNearly", name := "sun", desc := "(I)I" } : Jvm.MethodName)) ∈ ez_TW := ez_tw 235 (by decide +kernel) rfl
theorem q_236 : (Jvm.Cond.selects "EastNearly" ({ cls := "EastNearly", name := "sun", desc := "(I)I" } : Jvm.MethodName) ({ cls := "EastNearly", name := "sun", desc := "(I)I" } : Jvm.MethodName)) ∈ ez_TW := ez_tw 236 (by decide +kernel) rfl
theorem q_237 : (Jvm.Cond.code ({ cls := "EastNearly", name := "sun", desc := "(I)I" } : Jvm.MethodName) prog_1_method_3_code (2 : Nat) (Option.some Jvm.ClassFile.FieldType.int)) ∈ ez_TW := ez_tw 237 (by decide +kernel) rfl
theorem q_238 : (Jvm.Cond.methodLink "EastNearly" (73 : Nat) ({ cls := "EastNearly", name := "isDay", desc := "(I)Z" } : Jvm.MethodName)) ∈ ez_TW := ez_tw 238 (by decide +kernel) rfl
theorem q_239 : (Jvm.Cond.static ({ cls := "EastNearly", name := "isDay", desc := "(I)Z" } : Jvm.MethodName)) ∈ ez_TW := ez_tw 239 (by decide +kernel) rfl
theorem q_240 : (Jvm.Cond.code ({ cls := "EastNearly", name := "isDay", desc := "(I)Z" } : Jvm.MethodName) prog_1_method_65_code (1 : Nat) (Option.some Jvm.ClassFile.FieldType.boolean)) ∈ ez_TW := ez_tw 240 (by decide +kernel) rfl
theorem q_241 : (Jvm.Cond.methodLinkNest "EastNearly" (76 : Nat) ({ cls := "EastNearly$Sky", name := "sunAt", desc := "(I)I" } : Jvm.MethodName) "EastNearly") ∈ ez_NW := ez_nw 241 (by decide +kernel) rfl
theorem q_242 : (Jvm.Cond.static ({ cls := "EastNearly$Sky", name := "sunAt", desc := "(I)I" } : Jvm.MethodName)) ∈ ez_TW := ez_tw 242 (by decide +kernel) rfl
theorem q_243 : (Jvm.Cond.code ({ cls := "EastNearly$Sky", name := "sunAt", desc := "(I)I" } : Jvm.MethodName) prog_6_method_2_code (3 : Nat) (Option.some Jvm.ClassFile.FieldType.int)) ∈ ez_TW := ez_tw 243 (by decide +kernel) rfl
theorem q_244 : (Jvm.Cond.methodLink "EastNearly$Sky" (19 : Nat) ({ cls := "java/lang/Math", name := "abs", desc := "(I)I" } : Jvm.MethodName)) ∈ ez_TW := ez_tw 244 (by decide +kernel) rfl
theorem q_245 : (Jvm.Cond.methodLink "EastNearly$Sky" (25 : Nat) ({ cls := "java/lang/Math", name := "min", desc := "(II)I" } : Jvm.MethodName)) ∈ ez_TW := ez_tw 245 (by decide +kernel) rfl
theorem q_246 : (Jvm.Cond.methodLink "EastNearlyLaw" (23 : Nat) ({ cls := "EastNearly", name := "edge", desc := "(III)I" } : Jvm.MethodName)) ∈ ez_TW := ez_tw 246 (by decide +kernel) rfl
theorem q_247 : (Jvm.Cond.instanceMethod ({ cls := "EastNearly", name := "edge", desc := "(III)I" } : Jvm.MethodName)) ∈ ez_TW := ez_tw 247 (by decide +kernel) rfl
theorem q_248 : (Jvm.Cond.selects "EastNearly" ({ cls := "EastNearly", name := "edge", desc := "(III)I" } : Jvm.MethodName) ({ cls := "EastNearly", name := "edge", desc := "(III)I" } : Jvm.MethodName)) ∈ ez_TW := ez_tw 248 (by decide +kernel) rfl
theorem q_249 : (Jvm.Cond.code ({ cls := "EastNearly", name := "edge", desc := "(III)I" } : Jvm.MethodName) prog_1_method_4_code (4 : Nat) (Option.some Jvm.ClassFile.FieldType.int)) ∈ ez_TW := ez_tw 249 (by decide +kernel) rfl
theorem q_250 : (Jvm.Cond.methodLink "EastNearly" (80 : Nat) ({ cls := "EastNearly", name := "isLand", desc := "(I)Z" } : Jvm.MethodName)) ∈ ez_TW := ez_tw 250 (by decide +kernel) rfl
theorem q_251 : (Jvm.Cond.static ({ cls := "EastNearly", name := "isLand", desc := "(I)Z" } : Jvm.MethodName)) ∈ ez_TW := ez_tw 251 (by decide +kernel) rfl
theorem q_252 : (Jvm.Cond.code ({ cls := "EastNearly", name := "isLand", desc := "(I)Z" } : Jvm.MethodName) prog_1_method_67_code (1 : Nat) (Option.some Jvm.ClassFile.FieldType.boolean)) ∈ ez_TW := ez_tw 252 (by decide +kernel) rfl
theorem q_253 : (Jvm.Cond.methodLinkNest "EastNearly" (87 : Nat) ({ cls := "EastNearly$Sky", name := "setHeight", desc := "(III)I" } : Jvm.MethodName) "EastNearly") ∈ ez_NW := ez_nw 253 (by decide +kernel) rfl
theorem q_255 : (Jvm.Cond.instanceMethod ({ cls := "EastNearly$Sky", name := "setHeight", desc := "(III)I" } : Jvm.MethodName)) ∈ ez_TW := ez_tw 255 (by decide +kernel) rfl
theorem q_256 : (Jvm.Cond.code ({ cls := "EastNearly$Sky", name := "setHeight", desc := "(III)I" } : Jvm.MethodName) prog_6_method_3_code (5 : Nat) (Option.some Jvm.ClassFile.FieldType.int)) ∈ ez_TW := ez_tw 256 (by decide +kernel) rfl
theorem q_257 : (Jvm.Cond.methodLinkNest "EastNearly$Sky" (29 : Nat) ({ cls := "EastNearly", name := "at", desc := "([II)I" } : Jvm.MethodName) "EastNearly") ∈ ez_NW := ez_nw 257 (by decide +kernel) rfl
theorem q_258 : (Jvm.Cond.static ({ cls := "EastNearly", name := "at", desc := "([II)I" } : Jvm.MethodName)) ∈ ez_TW := ez_tw 258 (by decide +kernel) rfl
theorem q_259 : (Jvm.Cond.code ({ cls := "EastNearly", name := "at", desc := "([II)I" } : Jvm.MethodName) prog_1_method_75_code (2 : Nat) (Option.some Jvm.ClassFile.FieldType.int)) ∈ ez_TW := ez_tw 259 (by decide +kernel) rfl
theorem q_260 : (Jvm.Cond.methodLinkNest "EastNearly$Sky" (33 : Nat) ({ cls := "EastNearly", name := "put", desc := "([III)V" } : Jvm.MethodName) "EastNearly") ∈ ez_NW := ez_nw 260 (by decide +kernel) rfl
theorem q_261 : (Jvm.Cond.methodLink "EastNearlyLaw" (28 : Nat) ({ cls := "EastNearly", name := "rise", desc := "(II)I" } : Jvm.MethodName)) ∈ ez_TW := ez_tw 261 (by decide +kernel) rfl
theorem q_262 : (Jvm.Cond.instanceMethod ({ cls := "EastNearly", name := "rise", desc := "(II)I" } : Jvm.MethodName)) ∈ ez_TW := ez_tw 262 (by decide +kernel) rfl
theorem q_263 : (Jvm.Cond.selects "EastNearly" ({ cls := "EastNearly", name := "rise", desc := "(II)I" } : Jvm.MethodName) ({ cls := "EastNearly", name := "rise", desc := "(II)I" } : Jvm.MethodName)) ∈ ez_TW := ez_tw 263 (by decide +kernel) rfl
theorem q_264 : (Jvm.Cond.code ({ cls := "EastNearly", name := "rise", desc := "(II)I" } : Jvm.MethodName) prog_1_method_5_code (3 : Nat) (Option.some Jvm.ClassFile.FieldType.int)) ∈ ez_TW := ez_tw 264 (by decide +kernel) rfl
theorem q_265 : (Jvm.Cond.methodLinkNest "EastNearly" (91 : Nat) ({ cls := "EastNearly$Sky", name := "riseAt", desc := "(II)I" } : Jvm.MethodName) "EastNearly") ∈ ez_NW := ez_nw 265 (by decide +kernel) rfl
theorem q_267 : (Jvm.Cond.instanceMethod ({ cls := "EastNearly$Sky", name := "riseAt", desc := "(II)I" } : Jvm.MethodName)) ∈ ez_TW := ez_tw 267 (by decide +kernel) rfl
theorem q_268 : (Jvm.Cond.code ({ cls := "EastNearly$Sky", name := "riseAt", desc := "(II)I" } : Jvm.MethodName) prog_6_method_4_code (5 : Nat) (Option.some Jvm.ClassFile.FieldType.int)) ∈ ez_TW := ez_tw 268 (by decide +kernel) rfl
theorem q_269 : (Jvm.Cond.methodLinkNest "EastNearly$Sky" (37 : Nat) ({ cls := "EastNearly", name := "isLand", desc := "(I)Z" } : Jvm.MethodName) "EastNearly") ∈ ez_NW := ez_nw 269 (by decide +kernel) rfl
theorem q_270 : (Jvm.Cond.methodLinkNest "EastNearly$Sky" (41 : Nat) ({ cls := "EastNearly", name := "isDay", desc := "(I)Z" } : Jvm.MethodName) "EastNearly") ∈ ez_NW := ez_nw 270 (by decide +kernel) rfl
theorem q_271 : (Jvm.Cond.methodLink "EastNearly$Sky" (44 : Nat) ({ cls := "EastNearly$Sky", name := "sunAt", desc := "(I)I" } : Jvm.MethodName)) ∈ ez_TW := ez_tw 271 (by decide +kernel) rfl
theorem q_272 : (Jvm.Cond.methodLink "EastNearlyLaw" (32 : Nat) ({ cls := "EastNearly", name := "switched", desc := "(I)I" } : Jvm.MethodName)) ∈ ez_TW := ez_tw 272 (by decide +kernel) rfl
theorem q_273 : (Jvm.Cond.instanceMethod ({ cls := "EastNearly", name := "switched", desc := "(I)I" } : Jvm.MethodName)) ∈ ez_TW := ez_tw 273 (by decide +kernel) rfl
theorem q_274 : (Jvm.Cond.selects "EastNearly" ({ cls := "EastNearly", name := "switched", desc := "(I)I" } : Jvm.MethodName) ({ cls := "EastNearly", name := "switched", desc := "(I)I" } : Jvm.MethodName)) ∈ ez_TW := ez_tw 274 (by decide +kernel) rfl
theorem q_275 : (Jvm.Cond.code ({ cls := "EastNearly", name := "switched", desc := "(I)I" } : Jvm.MethodName) prog_1_method_6_code (3 : Nat) (Option.some Jvm.ClassFile.FieldType.int)) ∈ ez_TW := ez_tw 275 (by decide +kernel) rfl
theorem q_276 : (Jvm.Cond.methodLink "EastNearlyLaw" (36 : Nat) ({ cls := "EastNearly", name := "day", desc := "(II)I" } : Jvm.MethodName)) ∈ ez_TW := ez_tw 276 (by decide +kernel) rfl
theorem q_277 : (Jvm.Cond.instanceMethod ({ cls := "EastNearly", name := "day", desc := "(II)I" } : Jvm.MethodName)) ∈ ez_TW := ez_tw 277 (by decide +kernel) rfl
theorem q_278 : (Jvm.Cond.selects "EastNearly" ({ cls := "EastNearly", name := "day", desc := "(II)I" } : Jvm.MethodName) ({ cls := "EastNearly", name := "day", desc := "(II)I" } : Jvm.MethodName)) ∈ ez_TW := ez_tw 278 (by decide +kernel) rfl
theorem q_279 : (Jvm.Cond.code ({ cls := "EastNearly", name := "day", desc := "(II)I" } : Jvm.MethodName) prog_1_method_7_code (3 : Nat) (Option.some Jvm.ClassFile.FieldType.int)) ∈ ez_TW := ez_tw 279 (by decide +kernel) rfl
theorem q_280 : (Jvm.Cond.methodLink "EastNearly" (97 : Nat) ({ cls := "EastNearly", name := "isDate", desc := "(I)Z" } : Jvm.MethodName)) ∈ ez_TW := ez_tw 280 (by decide +kernel) rfl
theorem q_281 : (Jvm.Cond.static ({ cls := "EastNearly", name := "isDate", desc := "(I)Z" } : Jvm.MethodName)) ∈ ez_TW := ez_tw 281 (by decide +kernel) rfl
theorem q_282 : (Jvm.Cond.code ({ cls := "EastNearly", name := "isDate", desc := "(I)Z" } : Jvm.MethodName) prog_1_method_66_code (1 : Nat) (Option.some Jvm.ClassFile.FieldType.boolean)) ∈ ez_TW := ez_tw 282 (by decide +kernel) rfl
theorem q_283 : (Jvm.Cond.methodLink "EastNearly" (100 : Nat) ({ cls := "EastNearly", name := "isYear", desc := "(I)Z" } : Jvm.MethodName)) ∈ ez_TW := ez_tw 283 (by decide +kernel) rfl
theorem q_284 : (Jvm.Cond.static ({ cls := "EastNearly", name := "isYear", desc := "(I)Z" } : Jvm.MethodName)) ∈ ez_TW := ez_tw 284 (by decide +kernel) rfl
theorem q_285 : (Jvm.Cond.code ({ cls := "EastNearly", name := "isYear", desc := "(I)Z" } : Jvm.MethodName) prog_1_method_64_code (1 : Nat) (Option.some Jvm.ClassFile.FieldType.boolean)) ∈ ez_TW := ez_tw 285 (by decide +kernel) rfl
theorem q_286 : (Jvm.Cond.methodLinkNest "EastNearly" (103 : Nat) ({ cls := "EastNearly$Sky", name := "dayOf", desc := "(II)I" } : Jvm.MethodName) "EastNearly") ∈ ez_NW := ez_nw 286 (by decide +kernel) rfl
theorem q_288 : (Jvm.Cond.instanceMethod ({ cls := "EastNearly$Sky", name := "dayOf", desc := "(II)I" } : Jvm.MethodName)) ∈ ez_TW := ez_tw 288 (by decide +kernel) rfl
theorem q_289 : (Jvm.Cond.code ({ cls := "EastNearly$Sky", name := "dayOf", desc := "(II)I" } : Jvm.MethodName) prog_6_method_5_code (3 : Nat) (Option.some Jvm.ClassFile.FieldType.int)) ∈ ez_TW := ez_tw 289 (by decide +kernel) rfl
theorem q_290 : (Jvm.Cond.methodLinkNest "EastNearly$Sky" (47 : Nat) ({ cls := "EastNearly", name := "isDate", desc := "(I)Z" } : Jvm.MethodName) "EastNearly") ∈ ez_NW := ez_nw 290 (by decide +kernel) rfl
theorem q_291 : (Jvm.Cond.methodLink "EastNearlyLaw" (40 : Nat) ({ cls := "EastNearly", name := "feast", desc := "(I)I" } : Jvm.MethodName)) ∈ ez_TW := ez_tw 291 (by decide +kernel) rfl
theorem q_292 : (Jvm.Cond.instanceMethod ({ cls := "EastNearly", name := "feast", desc := "(I)I" } : Jvm.MethodName)) ∈ ez_TW := ez_tw 292 (by decide +kernel) rfl
theorem q_293 : (Jvm.Cond.selects "EastNearly" ({ cls := "EastNearly", name := "feast", desc := "(I)I" } : Jvm.MethodName) ({ cls := "EastNearly", name := "feast", desc := "(I)I" } : Jvm.MethodName)) ∈ ez_TW := ez_tw 293 (by decide +kernel) rfl
theorem q_294 : (Jvm.Cond.code ({ cls := "EastNearly", name := "feast", desc := "(I)I" } : Jvm.MethodName) prog_1_method_8_code (3 : Nat) (Option.some Jvm.ClassFile.FieldType.int)) ∈ ez_TW := ez_tw 294 (by decide +kernel) rfl
theorem q_295 : (Jvm.Cond.methodLink "EastNearlyLaw" (46 : Nat) ({ cls := "EastNearly", name := "write", desc := "(IJ)I" } : Jvm.MethodName)) ∈ ez_TW := ez_tw 295 (by decide +kernel) rfl
theorem q_296 : (Jvm.Cond.instanceMethod ({ cls := "EastNearly", name := "write", desc := "(IJ)I" } : Jvm.MethodName)) ∈ ez_TW := ez_tw 296 (by decide +kernel) rfl
theorem q_297 : (Jvm.Cond.selects "EastNearly" ({ cls := "EastNearly", name := "write", desc := "(IJ)I" } : Jvm.MethodName) ({ cls := "EastNearly", name := "write", desc := "(IJ)I" } : Jvm.MethodName)) ∈ ez_TW := ez_tw 297 (by decide +kernel) rfl
theorem q_298 : (Jvm.Cond.code ({ cls := "EastNearly", name := "write", desc := "(IJ)I" } : Jvm.MethodName) prog_1_method_9_code (4 : Nat) (Option.some Jvm.ClassFile.FieldType.int)) ∈ ez_TW := ez_tw 298 (by decide +kernel) rfl
theorem q_299 : (Jvm.Cond.methodLinkNest "EastNearly" (106 : Nat) ({ cls := "EastNearly$Book", name := "room", desc := "()I" } : Jvm.MethodName) "EastNearly") ∈ ez_NW := ez_nw 299 (by decide +kernel) rfl
theorem q_301 : (Jvm.Cond.instanceMethod ({ cls := "EastNearly$Book", name := "room", desc := "()I" } : Jvm.MethodName)) ∈ ez_TW := ez_tw 301 (by decide +kernel) rfl
theorem q_302 : (Jvm.Cond.code ({ cls := "EastNearly$Book", name := "room", desc := "()I" } : Jvm.MethodName) prog_2_method_2_code (1 : Nat) (Option.some Jvm.ClassFile.FieldType.int)) ∈ ez_TW := ez_tw 302 (by decide +kernel) rfl
theorem q_303 : (Jvm.Cond.methodLinkNest "EastNearly" (110 : Nat) ({ cls := "EastNearly$Book", name := "append", desc := "(IJ)I" } : Jvm.MethodName) "EastNearly") ∈ ez_NW := ez_nw 303 (by decide +kernel) rfl
theorem q_305 : (Jvm.Cond.instanceMethod ({ cls := "EastNearly$Book", name := "append", desc := "(IJ)I" } : Jvm.MethodName)) ∈ ez_TW := ez_tw 305 (by decide +kernel) rfl
theorem q_306 : (Jvm.Cond.code ({ cls := "EastNearly$Book", name := "append", desc := "(IJ)I" } : Jvm.MethodName) prog_2_method_3_code (5 : Nat) (Option.some Jvm.ClassFile.FieldType.int)) ∈ ez_TW := ez_tw 306 (by decide +kernel) rfl
theorem q_307 : (Jvm.Cond.methodLinkNest "EastNearly$Book" (28 : Nat) ({ cls := "EastNearly", name := "put", desc := "([III)V" } : Jvm.MethodName) "EastNearly") ∈ ez_NW := ez_nw 307 (by decide +kernel) rfl
theorem q_308 : (Jvm.Cond.methodLink "EastNearlyLaw" (51 : Nat) ({ cls := "EastNearly", name := "wipe", desc := "()I" } : Jvm.MethodName)) ∈ ez_TW := ez_tw 308 (by decide +kernel) rfl
theorem q_309 : (Jvm.Cond.instanceMethod ({ cls := "EastNearly", name := "wipe", desc := "()I" } : Jvm.MethodName)) ∈ ez_TW := ez_tw 309 (by decide +kernel) rfl
theorem q_310 : (Jvm.Cond.selects "EastNearly" ({ cls := "EastNearly", name := "wipe", desc := "()I" } : Jvm.MethodName) ({ cls := "EastNearly", name := "wipe", desc := "()I" } : Jvm.MethodName)) ∈ ez_TW := ez_tw 310 (by decide +kernel) rfl
theorem q_311 : (Jvm.Cond.code ({ cls := "EastNearly", name := "wipe", desc := "()I" } : Jvm.MethodName) prog_1_method_10_code (1 : Nat) (Option.some Jvm.ClassFile.FieldType.int)) ∈ ez_TW := ez_tw 311 (by decide +kernel) rfl
theorem q_312 : (Jvm.Cond.methodLinkNest "EastNearly" (114 : Nat) ({ cls := "EastNearly$Book", name := "clearText", desc := "()I" } : Jvm.MethodName) "EastNearly") ∈ ez_NW := ez_nw 312 (by decide +kernel) rfl
theorem q_314 : (Jvm.Cond.instanceMethod ({ cls := "EastNearly$Book", name := "clearText", desc := "()I" } : Jvm.MethodName)) ∈ ez_TW := ez_tw 314 (by decide +kernel) rfl
theorem q_315 : (Jvm.Cond.code ({ cls := "EastNearly$Book", name := "clearText", desc := "()I" } : Jvm.MethodName) prog_2_method_4_code (2 : Nat) (Option.some Jvm.ClassFile.FieldType.int)) ∈ ez_TW := ez_tw 315 (by decide +kernel) rfl
theorem q_316 : (Jvm.Cond.methodLink "EastNearlyLaw" (56 : Nat) ({ cls := "EastNearly", name := "fault", desc := "()I" } : Jvm.MethodName)) ∈ ez_TW := ez_tw 316 (by decide +kernel) rfl
theorem q_317 : (Jvm.Cond.instanceMethod ({ cls := "EastNearly", name := "fault", desc := "()I" } : Jvm.MethodName)) ∈ ez_TW := ez_tw 317 (by decide +kernel) rfl
theorem q_318 : (Jvm.Cond.selects "EastNearly" ({ cls := "EastNearly", name := "fault", desc := "()I" } : Jvm.MethodName) ({ cls := "EastNearly", name := "fault", desc := "()I" } : Jvm.MethodName)) ∈ ez_TW := ez_tw 318 (by decide +kernel) rfl
theorem q_319 : (Jvm.Cond.code ({ cls := "EastNearly", name := "fault", desc := "()I" } : Jvm.MethodName) prog_1_method_11_code (1 : Nat) (Option.some Jvm.ClassFile.FieldType.int)) ∈ ez_TW := ez_tw 319 (by decide +kernel) rfl
theorem q_320 : (Jvm.Cond.methodLinkNest "EastNearly" (117 : Nat) ({ cls := "EastNearly$Book", name := "firstFault", desc := "()I" } : Jvm.MethodName) "EastNearly") ∈ ez_NW := ez_nw 320 (by decide +kernel) rfl
theorem q_322 : (Jvm.Cond.instanceMethod ({ cls := "EastNearly$Book", name := "firstFault", desc := "()I" } : Jvm.MethodName)) ∈ ez_TW := ez_tw 322 (by decide +kernel) rfl
theorem q_323 : (Jvm.Cond.code ({ cls := "EastNearly$Book", name := "firstFault", desc := "()I" } : Jvm.MethodName) prog_2_method_5_code (2 : Nat) (Option.some Jvm.ClassFile.FieldType.int)) ∈ ez_TW := ez_tw 323 (by decide +kernel) rfl
theorem q_324 : (Jvm.Cond.methodLink "EastNearly$Book" (32 : Nat) ({ cls := "EastNearly$Book", name := "canStand", desc := "(I)Z" } : Jvm.MethodName)) ∈ ez_TW := ez_tw 324 (by decide +kernel) rfl
theorem q_326 : (Jvm.Cond.instanceMethod ({ cls := "EastNearly$Book", name := "canStand", desc := "(I)Z" } : Jvm.MethodName)) ∈ ez_TW := ez_tw 326 (by decide +kernel) rfl
theorem q_327 : (Jvm.Cond.code ({ cls := "EastNearly$Book", name := "canStand", desc := "(I)Z" } : Jvm.MethodName) prog_2_method_6_code (5 : Nat) (Option.some Jvm.ClassFile.FieldType.boolean)) ∈ ez_TW := ez_tw 327 (by decide +kernel) rfl
theorem q_328 : (Jvm.Cond.methodLinkNest "EastNearly$Book" (36 : Nat) ({ cls := "EastNearly", name := "at", desc := "([II)I" } : Jvm.MethodName) "EastNearly") ∈ ez_NW := ez_nw 328 (by decide +kernel) rfl
theorem q_329 : (Jvm.Cond.methodLink "EastNearly$Book" (40 : Nat) ({ cls := "EastNearly$Book", name := "isFigure", desc := "(I)Z" } : Jvm.MethodName)) ∈ ez_TW := ez_tw 329 (by decide +kernel) rfl
theorem q_330 : (Jvm.Cond.static ({ cls := "EastNearly$Book", name := "isFigure", desc := "(I)Z" } : Jvm.MethodName)) ∈ ez_TW := ez_tw 330 (by decide +kernel) rfl
theorem q_331 : (Jvm.Cond.code ({ cls := "EastNearly$Book", name := "isFigure", desc := "(I)Z" } : Jvm.MethodName) prog_2_method_8_code (1 : Nat) (Option.some Jvm.ClassFile.FieldType.boolean)) ∈ ez_TW := ez_tw 331 (by decide +kernel) rfl
theorem q_332 : (Jvm.Cond.methodLink "EastNearly$Book" (43 : Nat) ({ cls := "EastNearly$Book", name := "figures", desc := "(II)I" } : Jvm.MethodName)) ∈ ez_TW := ez_tw 332 (by decide +kernel) rfl
theorem q_334 : (Jvm.Cond.instanceMethod ({ cls := "EastNearly$Book", name := "figures", desc := "(II)I" } : Jvm.MethodName)) ∈ ez_TW := ez_tw 334 (by decide +kernel) rfl
theorem q_335 : (Jvm.Cond.code ({ cls := "EastNearly$Book", name := "figures", desc := "(II)I" } : Jvm.MethodName) prog_2_method_9_code (5 : Nat) (Option.some Jvm.ClassFile.FieldType.int)) ∈ ez_TW := ez_tw 335 (by decide +kernel) rfl
theorem q_336 : (Jvm.Cond.methodLink "EastNearly$Book" (47 : Nat) ({ cls := "EastNearly$Book", name := "canBeYear", desc := "(II)Z" } : Jvm.MethodName)) ∈ ez_TW := ez_tw 336 (by decide +kernel) rfl
theorem q_338 : (Jvm.Cond.instanceMethod ({ cls := "EastNearly$Book", name := "canBeYear", desc := "(II)Z" } : Jvm.MethodName)) ∈ ez_TW := ez_tw 338 (by decide +kernel) rfl
theorem q_339 : (Jvm.Cond.code ({ cls := "EastNearly$Book", name := "canBeYear", desc := "(II)Z" } : Jvm.MethodName) prog_2_method_7_code (6 : Nat) (Option.some Jvm.ClassFile.FieldType.boolean)) ∈ ez_TW := ez_tw 339 (by decide +kernel) rfl
theorem q_340 : (Jvm.Cond.methodLink "EastNearlyLaw" (60 : Nat) ({ cls := "EastNearly", name := "book", desc := "()I" } : Jvm.MethodName)) ∈ ez_TW := ez_tw 340 (by decide +kernel) rfl
theorem q_341 : (Jvm.Cond.instanceMethod ({ cls := "EastNearly", name := "book", desc := "()I" } : Jvm.MethodName)) ∈ ez_TW := ez_tw 341 (by decide +kernel) rfl
theorem q_342 : (Jvm.Cond.selects "EastNearly" ({ cls := "EastNearly", name := "book", desc := "()I" } : Jvm.MethodName) ({ cls := "EastNearly", name := "book", desc := "()I" } : Jvm.MethodName)) ∈ ez_TW := ez_tw 342 (by decide +kernel) rfl
theorem q_343 : (Jvm.Cond.code ({ cls := "EastNearly", name := "book", desc := "()I" } : Jvm.MethodName) prog_1_method_12_code (1 : Nat) (Option.some Jvm.ClassFile.FieldType.int)) ∈ ez_TW := ez_tw 343 (by decide +kernel) rfl
theorem q_344 : (Jvm.Cond.methodLinkNest "EastNearly" (120 : Nat) ({ cls := "EastNearly$Book", name := "readText", desc := "()I" } : Jvm.MethodName) "EastNearly") ∈ ez_NW := ez_nw 344 (by decide +kernel) rfl
theorem q_346 : (Jvm.Cond.instanceMethod ({ cls := "EastNearly$Book", name := "readText", desc := "()I" } : Jvm.MethodName)) ∈ ez_TW := ez_tw 346 (by decide +kernel) rfl
theorem q_347 : (Jvm.Cond.code ({ cls := "EastNearly$Book", name := "readText", desc := "()I" } : Jvm.MethodName) prog_2_method_10_code (4 : Nat) (Option.some Jvm.ClassFile.FieldType.int)) ∈ ez_TW := ez_tw 347 (by decide +kernel) rfl
theorem q_348 : (Jvm.Cond.methodLink "EastNearlyLaw" (64 : Nat) ({ cls := "EastNearly", name := "needle", desc := "(I)I" } : Jvm.MethodName)) ∈ ez_TW := ez_tw 348 (by decide +kernel) rfl
theorem q_349 : (Jvm.Cond.instanceMethod ({ cls := "EastNearly", name := "needle", desc := "(I)I" } : Jvm.MethodName)) ∈ ez_TW := ez_tw 349 (by decide +kernel) rfl
theorem q_350 : (Jvm.Cond.selects "EastNearly" ({ cls := "EastNearly", name := "needle", desc := "(I)I" } : Jvm.MethodName) ({ cls := "EastNearly", name := "needle", desc := "(I)I" } : Jvm.MethodName)) ∈ ez_TW := ez_tw 350 (by decide +kernel) rfl
theorem q_351 : (Jvm.Cond.code ({ cls := "EastNearly", name := "needle", desc := "(I)I" } : Jvm.MethodName) prog_1_method_13_code (2 : Nat) (Option.some Jvm.ClassFile.FieldType.int)) ∈ ez_TW := ez_tw 351 (by decide +kernel) rfl
theorem q_352 : (Jvm.Cond.methodLinkNest "EastNearly" (123 : Nat) ({ cls := "EastNearly$Book", name := "needleIn", desc := "(I)I" } : Jvm.MethodName) "EastNearly") ∈ ez_NW := ez_nw 352 (by decide +kernel) rfl
theorem q_354 : (Jvm.Cond.instanceMethod ({ cls := "EastNearly$Book", name := "needleIn", desc := "(I)I" } : Jvm.MethodName)) ∈ ez_TW := ez_tw 354 (by decide +kernel) rfl
theorem q_355 : (Jvm.Cond.code ({ cls := "EastNearly$Book", name := "needleIn", desc := "(I)I" } : Jvm.MethodName) prog_2_method_11_code (6 : Nat) (Option.some Jvm.ClassFile.FieldType.int)) ∈ ez_TW := ez_tw 355 (by decide +kernel) rfl
theorem q_356 : (Jvm.Cond.methodLink "EastNearlyLaw" (68 : Nat) ({ cls := "EastNearly", name := "church", desc := "(IIIII)I" } : Jvm.MethodName)) ∈ ez_TW := ez_tw 356 (by decide +kernel) rfl
theorem q_357 : (Jvm.Cond.instanceMethod ({ cls := "EastNearly", name := "church", desc := "(IIIII)I" } : Jvm.MethodName)) ∈ ez_TW := ez_tw 357 (by decide +kernel) rfl
theorem q_358 : (Jvm.Cond.selects "EastNearly" ({ cls := "EastNearly", name := "church", desc := "(IIIII)I" } : Jvm.MethodName) ({ cls := "EastNearly", name := "church", desc := "(IIIII)I" } : Jvm.MethodName)) ∈ ez_TW := ez_tw 358 (by decide +kernel) rfl
theorem q_359 : (Jvm.Cond.code ({ cls := "EastNearly", name := "church", desc := "(IIIII)I" } : Jvm.MethodName) prog_1_method_14_code (6 : Nat) (Option.some Jvm.ClassFile.FieldType.int)) ∈ ez_TW := ez_tw 359 (by decide +kernel) rfl
theorem q_360 : (Jvm.Cond.methodLinkNest "EastNearly" (129 : Nat) ({ cls := "EastNearly$Churches", name := "add", desc := "(IIIII)I" } : Jvm.MethodName) "EastNearly") ∈ ez_NW := ez_nw 360 (by decide +kernel) rfl
theorem q_362 : (Jvm.Cond.instanceMethod ({ cls := "EastNearly$Churches", name := "add", desc := "(IIIII)I" } : Jvm.MethodName)) ∈ ez_TW := ez_tw 362 (by decide +kernel) rfl
theorem q_363 : (Jvm.Cond.code ({ cls := "EastNearly$Churches", name := "add", desc := "(IIIII)I" } : Jvm.MethodName) prog_3_method_6_code (8 : Nat) (Option.some Jvm.ClassFile.FieldType.int)) ∈ ez_TW := ez_tw 363 (by decide +kernel) rfl
theorem q_364 : (Jvm.Cond.methodLink "EastNearly$Churches" (35 : Nat) ({ cls := "EastNearly$Churches", name := "change", desc := "(III)I" } : Jvm.MethodName)) ∈ ez_TW := ez_tw 364 (by decide +kernel) rfl
theorem q_366 : (Jvm.Cond.instanceMethod ({ cls := "EastNearly$Churches", name := "change", desc := "(III)I" } : Jvm.MethodName)) ∈ ez_TW := ez_tw 366 (by decide +kernel) rfl
theorem q_367 : (Jvm.Cond.code ({ cls := "EastNearly$Churches", name := "change", desc := "(III)I" } : Jvm.MethodName) prog_3_method_5_code (5 : Nat) (Option.some Jvm.ClassFile.FieldType.int)) ∈ ez_TW := ez_tw 367 (by decide +kernel) rfl
theorem q_368 : (Jvm.Cond.methodLink "EastNearly$Churches" (27 : Nat) ({ cls := "EastNearly$Churches", name := "get", desc := "(II)I" } : Jvm.MethodName)) ∈ ez_TW := ez_tw 368 (by decide +kernel) rfl
theorem q_370 : (Jvm.Cond.instanceMethod ({ cls := "EastNearly$Churches", name := "get", desc := "(II)I" } : Jvm.MethodName)) ∈ ez_TW := ez_tw 370 (by decide +kernel) rfl
theorem q_371 : (Jvm.Cond.code ({ cls := "EastNearly$Churches", name := "get", desc := "(II)I" } : Jvm.MethodName) prog_3_method_3_code (3 : Nat) (Option.some Jvm.ClassFile.FieldType.int)) ∈ ez_TW := ez_tw 371 (by decide +kernel) rfl
theorem q_372 : (Jvm.Cond.methodLinkNest "EastNearly$Churches" (23 : Nat) ({ cls := "EastNearly", name := "at", desc := "([II)I" } : Jvm.MethodName) "EastNearly") ∈ ez_NW := ez_nw 372 (by decide +kernel) rfl
theorem q_373 : (Jvm.Cond.methodLinkNest "EastNearly$Churches" (31 : Nat) ({ cls := "EastNearly", name := "put", desc := "([III)V" } : Jvm.MethodName) "EastNearly") ∈ ez_NW := ez_nw 373 (by decide +kernel) rfl
theorem q_374 : (Jvm.Cond.methodLink "EastNearlyLaw" (73 : Nat) ({ cls := "EastNearly", name := "tell", desc := "(III)I" } : Jvm.MethodName)) ∈ ez_TW := ez_tw 374 (by decide +kernel) rfl
theorem q_375 : (Jvm.Cond.instanceMethod ({ cls := "EastNearly", name := "tell", desc := "(III)I" } : Jvm.MethodName)) ∈ ez_TW := ez_tw 375 (by decide +kernel) rfl
theorem q_376 : (Jvm.Cond.selects "EastNearly" ({ cls := "EastNearly", name := "tell", desc := "(III)I" } : Jvm.MethodName) ({ cls := "EastNearly", name := "tell", desc := "(III)I" } : Jvm.MethodName)) ∈ ez_TW := ez_tw 376 (by decide +kernel) rfl
theorem q_377 : (Jvm.Cond.code ({ cls := "EastNearly", name := "tell", desc := "(III)I" } : Jvm.MethodName) prog_1_method_15_code (6 : Nat) (Option.some Jvm.ClassFile.FieldType.int)) ∈ ez_TW := ez_tw 377 (by decide +kernel) rfl
theorem q_378 : (Jvm.Cond.methodLinkNest "EastNearly" (133 : Nat) ({ cls := "EastNearly$Churches", name := "has", desc := "(I)Z" } : Jvm.MethodName) "EastNearly") ∈ ez_NW := ez_nw 378 (by decide +kernel) rfl
theorem q_380 : (Jvm.Cond.instanceMethod ({ cls := "EastNearly$Churches", name := "has", desc := "(I)Z" } : Jvm.MethodName)) ∈ ez_TW := ez_tw 380 (by decide +kernel) rfl
theorem q_381 : (Jvm.Cond.code ({ cls := "EastNearly$Churches", name := "has", desc := "(I)Z" } : Jvm.MethodName) prog_3_method_2_code (2 : Nat) (Option.some Jvm.ClassFile.FieldType.boolean)) ∈ ez_TW := ez_tw 381 (by decide +kernel) rfl
theorem q_382 : (Jvm.Cond.methodLinkNest "EastNearly" (136 : Nat) ({ cls := "EastNearly$Churches", name := "change", desc := "(III)I" } : Jvm.MethodName) "EastNearly") ∈ ez_NW := ez_nw 382 (by decide +kernel) rfl
theorem q_383 : (Jvm.Cond.methodLink "EastNearlyLaw" (77 : Nat) ({ cls := "EastNearly", name := "about", desc := "(II)I" } : Jvm.MethodName)) ∈ ez_TW := ez_tw 383 (by decide +kernel) rfl
theorem q_384 : (Jvm.Cond.instanceMethod ({ cls := "EastNearly", name := "about", desc := "(II)I" } : Jvm.MethodName)) ∈ ez_TW := ez_tw 384 (by decide +kernel) rfl
theorem q_385 : (Jvm.Cond.selects "EastNearly" ({ cls := "EastNearly", name := "about", desc := "(II)I" } : Jvm.MethodName) ({ cls := "EastNearly", name := "about", desc := "(II)I" } : Jvm.MethodName)) ∈ ez_TW := ez_tw 385 (by decide +kernel) rfl
theorem q_386 : (Jvm.Cond.code ({ cls := "EastNearly", name := "about", desc := "(II)I" } : Jvm.MethodName) prog_1_method_16_code (3 : Nat) (Option.some Jvm.ClassFile.FieldType.int)) ∈ ez_TW := ez_tw 386 (by decide +kernel) rfl
theorem q_387 : (Jvm.Cond.methodLinkNest "EastNearly" (139 : Nat) ({ cls := "EastNearly$Churches", name := "get", desc := "(II)I" } : Jvm.MethodName) "EastNearly") ∈ ez_NW := ez_nw 387 (by decide +kernel) rfl
theorem q_388 : (Jvm.Cond.methodLink "EastNearlyLaw" (81 : Nat) ({ cls := "EastNearly", name := "line", desc := "(III)I" } : Jvm.MethodName)) ∈ ez_TW := ez_tw 388 (by decide +kernel) rfl
theorem q_389 : (Jvm.Cond.instanceMethod ({ cls := "EastNearly", name := "line", desc := "(III)I" } : Jvm.MethodName)) ∈ ez_TW := ez_tw 389 (by decide +kernel) rfl
theorem q_390 : (Jvm.Cond.selects "EastNearly" ({ cls := "EastNearly", name := "line", desc := "(III)I" } : Jvm.MethodName) ({ cls := "EastNearly", name := "line", desc := "(III)I" } : Jvm.MethodName)) ∈ ez_TW := ez_tw 390 (by decide +kernel) rfl
theorem q_391 : (Jvm.Cond.code ({ cls := "EastNearly", name := "line", desc := "(III)I" } : Jvm.MethodName) prog_1_method_17_code (4 : Nat) (Option.some Jvm.ClassFile.FieldType.int)) ∈ ez_TW := ez_tw 391 (by decide +kernel) rfl
theorem q_392 : (Jvm.Cond.methodLink "EastNearly" (142 : Nat) ({ cls := "EastNearly", name := "isRule", desc := "(I)Z" } : Jvm.MethodName)) ∈ ez_TW := ez_tw 392 (by decide +kernel) rfl
theorem q_393 : (Jvm.Cond.static ({ cls := "EastNearly", name := "isRule", desc := "(I)Z" } : Jvm.MethodName)) ∈ ez_TW := ez_tw 393 (by decide +kernel) rfl
theorem q_394 : (Jvm.Cond.code ({ cls := "EastNearly", name := "isRule", desc := "(I)Z" } : Jvm.MethodName) prog_1_method_68_code (1 : Nat) (Option.some Jvm.ClassFile.FieldType.boolean)) ∈ ez_TW := ez_tw 394 (by decide +kernel) rfl
theorem q_395 : (Jvm.Cond.methodLink "EastNearly" (145 : Nat) ({ cls := "EastNearly", name := "lineBy", desc := "(III)I" } : Jvm.MethodName)) ∈ ez_TW := ez_tw 395 (by decide +kernel) rfl
theorem q_397 : (Jvm.Cond.instanceMethod ({ cls := "EastNearly", name := "lineBy", desc := "(III)I" } : Jvm.MethodName)) ∈ ez_TW := ez_tw 397 (by decide +kernel) rfl
theorem q_398 : (Jvm.Cond.code ({ cls := "EastNearly", name := "lineBy", desc := "(III)I" } : Jvm.MethodName) prog_1_method_44_code (5 : Nat) (Option.some Jvm.ClassFile.FieldType.int)) ∈ ez_TW := ez_tw 398 (by decide +kernel) rfl
theorem q_399 : (Jvm.Cond.methodLink "EastNearlyLaw" (85 : Nat) ({ cls := "EastNearly", name := "hits", desc := "(II)I" } : Jvm.MethodName)) ∈ ez_TW := ez_tw 399 (by decide +kernel) rfl
theorem q_400 : (Jvm.Cond.instanceMethod ({ cls := "EastNearly", name := "hits", desc := "(II)I" } : Jvm.MethodName)) ∈ ez_TW := ez_tw 400 (by decide +kernel) rfl
theorem q_401 : (Jvm.Cond.selects "EastNearly" ({ cls := "EastNearly", name := "hits", desc := "(II)I" } : Jvm.MethodName) ({ cls := "EastNearly", name := "hits", desc := "(II)I" } : Jvm.MethodName)) ∈ ez_TW := ez_tw 401 (by decide +kernel) rfl
theorem q_402 : (Jvm.Cond.code ({ cls := "EastNearly", name := "hits", desc := "(II)I" } : Jvm.MethodName) prog_1_method_18_code (3 : Nat) (Option.some Jvm.ClassFile.FieldType.int)) ∈ ez_TW := ez_tw 402 (by decide +kernel) rfl
theorem q_403 : (Jvm.Cond.methodLink "EastNearly" (148 : Nat) ({ cls := "EastNearly", name := "countHits", desc := "(II)I" } : Jvm.MethodName)) ∈ ez_TW := ez_tw 403 (by decide +kernel) rfl
theorem q_405 : (Jvm.Cond.instanceMethod ({ cls := "EastNearly", name := "countHits", desc := "(II)I" } : Jvm.MethodName)) ∈ ez_TW := ez_tw 405 (by decide +kernel) rfl
theorem q_406 : (Jvm.Cond.code ({ cls := "EastNearly", name := "countHits", desc := "(II)I" } : Jvm.MethodName) prog_1_method_47_code (6 : Nat) (Option.some Jvm.ClassFile.FieldType.int)) ∈ ez_TW := ez_tw 406 (by decide +kernel) rfl
theorem q_407 : (Jvm.Cond.methodLink "EastNearly" (151 : Nat) ({ cls := "EastNearly", name := "ruleHits", desc := "(III)Z" } : Jvm.MethodName)) ∈ ez_TW := ez_tw 407 (by decide +kernel) rfl
theorem q_409 : (Jvm.Cond.instanceMethod ({ cls := "EastNearly", name := "ruleHits", desc := "(III)Z" } : Jvm.MethodName)) ∈ ez_TW := ez_tw 409 (by decide +kernel) rfl
theorem q_410 : (Jvm.Cond.code ({ cls := "EastNearly", name := "ruleHits", desc := "(III)Z" } : Jvm.MethodName) prog_1_method_45_code (4 : Nat) (Option.some Jvm.ClassFile.FieldType.boolean)) ∈ ez_TW := ez_tw 410 (by decide +kernel) rfl
theorem q_411 : (Jvm.Cond.methodLink "EastNearly" (248 : Nat) ({ cls := "EastNearly", name := "isNear", desc := "(III)Z" } : Jvm.MethodName)) ∈ ez_TW := ez_tw 411 (by decide +kernel) rfl
theorem q_412 : (Jvm.Cond.static ({ cls := "EastNearly", name := "isNear", desc := "(III)Z" } : Jvm.MethodName)) ∈ ez_TW := ez_tw 412 (by decide +kernel) rfl
theorem q_413 : (Jvm.Cond.code ({ cls := "EastNearly", name := "isNear", desc := "(III)Z" } : Jvm.MethodName) prog_1_method_71_code (3 : Nat) (Option.some Jvm.ClassFile.FieldType.boolean)) ∈ ez_TW := ez_tw 413 (by decide +kernel) rfl
theorem q_414 : (Jvm.Cond.methodLink "EastNearlyLaw" (89 : Nat) ({ cls := "EastNearly", name := "hit", desc := "(III)I" } : Jvm.MethodName)) ∈ ez_TW := ez_tw 414 (by decide +kernel) rfl
theorem q_415 : (Jvm.Cond.instanceMethod ({ cls := "EastNearly", name := "hit", desc := "(III)I" } : Jvm.MethodName)) ∈ ez_TW := ez_tw 415 (by decide +kernel) rfl
theorem q_416 : (Jvm.Cond.selects "EastNearly" ({ cls := "EastNearly", name := "hit", desc := "(III)I" } : Jvm.MethodName) ({ cls := "EastNearly", name := "hit", desc := "(III)I" } : Jvm.MethodName)) ∈ ez_TW := ez_tw 416 (by decide +kernel) rfl
theorem q_417 : (Jvm.Cond.code ({ cls := "EastNearly", name := "hit", desc := "(III)I" } : Jvm.MethodName) prog_1_method_19_code (7 : Nat) (Option.some Jvm.ClassFile.FieldType.int)) ∈ ez_TW := ez_tw 417 (by decide +kernel) rfl
theorem q_418 : (Jvm.Cond.methodLink "EastNearlyLaw" (93 : Nat) ({ cls := "EastNearly", name := "explain", desc := "(I)I" } : Jvm.MethodName)) ∈ ez_TW := ez_tw 418 (by decide +kernel) rfl
theorem q_419 : (Jvm.Cond.instanceMethod ({ cls := "EastNearly", name := "explain", desc := "(I)I" } : Jvm.MethodName)) ∈ ez_TW := ez_tw 419 (by decide +kernel) rfl
theorem q_420 : (Jvm.Cond.selects "EastNearly" ({ cls := "EastNearly", name := "explain", desc := "(I)I" } : Jvm.MethodName) ({ cls := "EastNearly", name := "explain", desc := "(I)I" } : Jvm.MethodName)) ∈ ez_TW := ez_tw 420 (by decide +kernel) rfl
theorem q_421 : (Jvm.Cond.code ({ cls := "EastNearly", name := "explain", desc := "(I)I" } : Jvm.MethodName) prog_1_method_20_code (2 : Nat) (Option.some Jvm.ClassFile.FieldType.int)) ∈ ez_TW := ez_tw 421 (by decide +kernel) rfl
theorem q_422 : (Jvm.Cond.methodLink "EastNearly" (154 : Nat) ({ cls := "EastNearly", name := "rulesThatExplain", desc := "(I)I" } : Jvm.MethodName)) ∈ ez_TW := ez_tw 422 (by decide +kernel) rfl
theorem q_424 : (Jvm.Cond.instanceMethod ({ cls := "EastNearly", name := "rulesThatExplain", desc := "(I)I" } : Jvm.MethodName)) ∈ ez_TW := ez_tw 424 (by decide +kernel) rfl
theorem q_425 : (Jvm.Cond.code ({ cls := "EastNearly", name := "rulesThatExplain", desc := "(I)I" } : Jvm.MethodName) prog_1_method_49_code (4 : Nat) (Option.some Jvm.ClassFile.FieldType.int)) ∈ ez_TW := ez_tw 425 (by decide +kernel) rfl
theorem q_426 : (Jvm.Cond.methodLink "EastNearly" (214 : Nat) ({ cls := "EastNearly", name := "explains", desc := "(IIIII)Z" } : Jvm.MethodName)) ∈ ez_TW := ez_tw 426 (by decide +kernel) rfl
theorem q_428 : (Jvm.Cond.instanceMethod ({ cls := "EastNearly", name := "explains", desc := "(IIIII)Z" } : Jvm.MethodName)) ∈ ez_TW := ez_tw 428 (by decide +kernel) rfl
theorem q_429 : (Jvm.Cond.code ({ cls := "EastNearly", name := "explains", desc := "(IIIII)Z" } : Jvm.MethodName) prog_1_method_48_code (10 : Nat) (Option.some Jvm.ClassFile.FieldType.boolean)) ∈ ez_TW := ez_tw 429 (by decide +kernel) rfl
theorem q_430 : (Jvm.Cond.methodLink "EastNearlyLaw" (97 : Nat) ({ cls := "EastNearly", name := "chance", desc := "(IIZ)J" } : Jvm.MethodName)) ∈ ez_TW := ez_tw 430 (by decide +kernel) rfl
theorem q_431 : (Jvm.Cond.instanceMethod ({ cls := "EastNearly", name := "chance", desc := "(IIZ)J" } : Jvm.MethodName)) ∈ ez_TW := ez_tw 431 (by decide +kernel) rfl
theorem q_432 : (Jvm.Cond.selects "EastNearly" ({ cls := "EastNearly", name := "chance", desc := "(IIZ)J" } : Jvm.MethodName) ({ cls := "EastNearly", name := "chance", desc := "(IIZ)J" } : Jvm.MethodName)) ∈ ez_TW := ez_tw 432 (by decide +kernel) rfl
theorem q_433 : (Jvm.Cond.code ({ cls := "EastNearly", name := "chance", desc := "(IIZ)J" } : Jvm.MethodName) prog_1_method_21_code (6 : Nat) (Option.some Jvm.ClassFile.FieldType.long)) ∈ ez_TW := ez_tw 433 (by decide +kernel) rfl
theorem q_434 : (Jvm.Cond.constantLong "EastNearly" (157 : Nat) (-1 : Int64)) ∈ ez_TW := ez_tw 434 (by decide +kernel) rfl
theorem q_435 : (Jvm.Cond.methodLink "EastNearly" (159 : Nat) ({ cls := "EastNearly", name := "inLeastTerms", desc := "(JJZ)J" } : Jvm.MethodName)) ∈ ez_TW := ez_tw 435 (by decide +kernel) rfl
theorem q_436 : (Jvm.Cond.static ({ cls := "EastNearly", name := "inLeastTerms", desc := "(JJZ)J" } : Jvm.MethodName)) ∈ ez_TW := ez_tw 436 (by decide +kernel) rfl
theorem q_437 : (Jvm.Cond.code ({ cls := "EastNearly", name := "inLeastTerms", desc := "(JJZ)J" } : Jvm.MethodName) prog_1_method_73_code (7 : Nat) (Option.some Jvm.ClassFile.FieldType.long)) ∈ ez_TW := ez_tw 437 (by decide +kernel) rfl
theorem q_438 : (Jvm.Cond.methodLink "EastNearly" (287 : Nat) ({ cls := "EastNearly", name := "greatestDivisor", desc := "(JJ)J" } : Jvm.MethodName)) ∈ ez_TW := ez_tw 438 (by decide +kernel) rfl
theorem q_439 : (Jvm.Cond.static ({ cls := "EastNearly", name := "greatestDivisor", desc := "(JJ)J" } : Jvm.MethodName)) ∈ ez_TW := ez_tw 439 (by decide +kernel) rfl
theorem q_440 : (Jvm.Cond.code ({ cls := "EastNearly", name := "greatestDivisor", desc := "(JJ)J" } : Jvm.MethodName) prog_1_method_74_code (11 : Nat) (Option.some Jvm.ClassFile.FieldType.long)) ∈ ez_TW := ez_tw 440 (by decide +kernel) rfl
theorem q_441 : (Jvm.Cond.methodLink "EastNearlyLaw" (102 : Nat) ({ cls := "EastNearly", name := "weight", desc := "(II)I" } : Jvm.MethodName)) ∈ ez_TW := ez_tw 441 (by decide +kernel) rfl
theorem q_442 : (Jvm.Cond.instanceMethod ({ cls := "EastNearly", name := "weight", desc := "(II)I" } : Jvm.MethodName)) ∈ ez_TW := ez_tw 442 (by decide +kernel) rfl
theorem q_443 : (Jvm.Cond.selects "EastNearly" ({ cls := "EastNearly", name := "weight", desc := "(II)I" } : Jvm.MethodName) ({ cls := "EastNearly", name := "weight", desc := "(II)I" } : Jvm.MethodName)) ∈ ez_TW := ez_tw 443 (by decide +kernel) rfl
theorem q_444 : (Jvm.Cond.code ({ cls := "EastNearly", name := "weight", desc := "(II)I" } : Jvm.MethodName) prog_1_method_22_code (4 : Nat) (Option.some Jvm.ClassFile.FieldType.int)) ∈ ez_TW := ez_tw 444 (by decide +kernel) rfl
theorem q_445 : (Jvm.Cond.methodLink "EastNearly" (163 : Nat) ({ cls := "EastNearly", name := "at", desc := "([II)I" } : Jvm.MethodName)) ∈ ez_TW := ez_tw 445 (by decide +kernel) rfl
theorem q_446 : (Jvm.Cond.methodLink "EastNearlyLaw" (106 : Nat) ({ cls := "EastNearly", name := "odds", desc := "(IIZ)J" } : Jvm.MethodName)) ∈ ez_TW := ez_tw 446 (by decide +kernel) rfl
theorem q_447 : (Jvm.Cond.instanceMethod ({ cls := "EastNearly", name := "odds", desc := "(IIZ)J" } : Jvm.MethodName)) ∈ ez_TW := ez_tw 447 (by decide +kernel) rfl
theorem q_448 : (Jvm.Cond.selects "EastNearly" ({ cls := "EastNearly", name := "odds", desc := "(IIZ)J" } : Jvm.MethodName) ({ cls := "EastNearly", name := "odds", desc := "(IIZ)J" } : Jvm.MethodName)) ∈ ez_TW := ez_tw 448 (by decide +kernel) rfl
theorem q_449 : (Jvm.Cond.code ({ cls := "EastNearly", name := "odds", desc := "(IIZ)J" } : Jvm.MethodName) prog_1_method_23_code (6 : Nat) (Option.some Jvm.ClassFile.FieldType.long)) ∈ ez_TW := ez_tw 449 (by decide +kernel) rfl
theorem q_450 : (Jvm.Cond.methodLink "EastNearly" (167 : Nat) ({ cls := "EastNearly", name := "weighedHits", desc := "(II)I" } : Jvm.MethodName)) ∈ ez_TW := ez_tw 450 (by decide +kernel) rfl
theorem q_452 : (Jvm.Cond.instanceMethod ({ cls := "EastNearly", name := "weighedHits", desc := "(II)I" } : Jvm.MethodName)) ∈ ez_TW := ez_tw 452 (by decide +kernel) rfl
theorem q_453 : (Jvm.Cond.code ({ cls := "EastNearly", name := "weighedHits", desc := "(II)I" } : Jvm.MethodName) prog_1_method_50_code (3 : Nat) (Option.some Jvm.ClassFile.FieldType.int)) ∈ ez_TW := ez_tw 453 (by decide +kernel) rfl
theorem q_454 : (Jvm.Cond.constantLong "EastNearly" (170 : Nat) (-3 : Int64)) ∈ ez_TW := ez_tw 454 (by decide +kernel) rfl
theorem q_455 : (Jvm.Cond.methodLink "EastNearlyLaw" (110 : Nat) ({ cls := "EastNearly", name := "best", desc := "(I)I" } : Jvm.MethodName)) ∈ ez_TW := ez_tw 455 (by decide +kernel) rfl
theorem q_456 : (Jvm.Cond.instanceMethod ({ cls := "EastNearly", name := "best", desc := "(I)I" } : Jvm.MethodName)) ∈ ez_TW := ez_tw 456 (by decide +kernel) rfl
theorem q_457 : (Jvm.Cond.selects "EastNearly" ({ cls := "EastNearly", name := "best", desc := "(I)I" } : Jvm.MethodName) ({ cls := "EastNearly", name := "best", desc := "(I)I" } : Jvm.MethodName)) ∈ ez_TW := ez_tw 457 (by decide +kernel) rfl
theorem q_458 : (Jvm.Cond.code ({ cls := "EastNearly", name := "best", desc := "(I)I" } : Jvm.MethodName) prog_1_method_24_code (6 : Nat) (Option.some Jvm.ClassFile.FieldType.int)) ∈ ez_TW := ez_tw 458 (by decide +kernel) rfl
theorem q_459 : (Jvm.Cond.methodLink "EastNearlyLaw" (114 : Nat) ({ cls := "EastNearly", name := "fewest", desc := "()I" } : Jvm.MethodName)) ∈ ez_TW := ez_tw 459 (by decide +kernel) rfl
theorem q_460 : (Jvm.Cond.instanceMethod ({ cls := "EastNearly", name := "fewest", desc := "()I" } : Jvm.MethodName)) ∈ ez_TW := ez_tw 460 (by decide +kernel) rfl
theorem q_461 : (Jvm.Cond.selects "EastNearly" ({ cls := "EastNearly", name := "fewest", desc := "()I" } : Jvm.MethodName) ({ cls := "EastNearly", name := "fewest", desc := "()I" } : Jvm.MethodName)) ∈ ez_TW := ez_tw 461 (by decide +kernel) rfl
theorem q_462 : (Jvm.Cond.code ({ cls := "EastNearly", name := "fewest", desc := "()I" } : Jvm.MethodName) prog_1_method_25_code (4 : Nat) (Option.some Jvm.ClassFile.FieldType.int)) ∈ ez_TW := ez_tw 462 (by decide +kernel) rfl
theorem q_463 : (Jvm.Cond.methodLink "EastNearly" (172 : Nat) ({ cls := "java/lang/Integer", name := "bitCount", desc := "(I)I" } : Jvm.MethodName)) ∈ ez_TW := ez_tw 463 (by decide +kernel) rfl
theorem q_464 : (Jvm.Cond.static ({ cls := "java/lang/Integer", name := "bitCount", desc := "(I)I" } : Jvm.MethodName)) ∈ ez_TW := ez_tw 464 (by decide +kernel) rfl
theorem q_465 : (Jvm.Cond.code ({ cls := "java/lang/Integer", name := "bitCount", desc := "(I)I" } : Jvm.MethodName) prog_9_method_49_code (1 : Nat) (Option.some Jvm.ClassFile.FieldType.int)) ∈ ez_TW := ez_tw 465 (by decide +kernel) rfl
theorem q_466 : (Jvm.Cond.constant "java/lang/Integer" (265 : Nat) (1431655765 : Int32)) ∈ ez_TW := ez_tw 466 (by decide +kernel) rfl
theorem q_467 : (Jvm.Cond.constant "java/lang/Integer" (266 : Nat) (858993459 : Int32)) ∈ ez_TW := ez_tw 467 (by decide +kernel) rfl
theorem q_468 : (Jvm.Cond.constant "java/lang/Integer" (267 : Nat) (252645135 : Int32)) ∈ ez_TW := ez_tw 468 (by decide +kernel) rfl
theorem q_469 : (Jvm.Cond.methodLink "EastNearly" (177 : Nat) ({ cls := "EastNearly", name := "suffices", desc := "(I)Z" } : Jvm.MethodName)) ∈ ez_TW := ez_tw 469 (by decide +kernel) rfl
theorem q_471 : (Jvm.Cond.instanceMethod ({ cls := "EastNearly", name := "suffices", desc := "(I)Z" } : Jvm.MethodName)) ∈ ez_TW := ez_tw 471 (by decide +kernel) rfl
theorem q_472 : (Jvm.Cond.code ({ cls := "EastNearly", name := "suffices", desc := "(I)Z" } : Jvm.MethodName) prog_1_method_51_code (4 : Nat) (Option.some Jvm.ClassFile.FieldType.boolean)) ∈ ez_TW := ez_tw 472 (by decide +kernel) rfl
theorem q_473 : (Jvm.Cond.methodLink "EastNearlyLaw" (118 : Nat) ({ cls := "EastNearly", name := "look", desc := "()I" } : Jvm.MethodName)) ∈ ez_TW := ez_tw 473 (by decide +kernel) rfl
theorem q_474 : (Jvm.Cond.instanceMethod ({ cls := "EastNearly", name := "look", desc := "()I" } : Jvm.MethodName)) ∈ ez_TW := ez_tw 474 (by decide +kernel) rfl
theorem q_475 : (Jvm.Cond.selects "EastNearly" ({ cls := "EastNearly", name := "look", desc := "()I" } : Jvm.MethodName) ({ cls := "EastNearly", name := "look", desc := "()I" } : Jvm.MethodName)) ∈ ez_TW := ez_tw 475 (by decide +kernel) rfl
theorem q_476 : (Jvm.Cond.code ({ cls := "EastNearly", name := "look", desc := "()I" } : Jvm.MethodName) prog_1_method_26_code (5 : Nat) (Option.some Jvm.ClassFile.FieldType.int)) ∈ ez_TW := ez_tw 476 (by decide +kernel) rfl
theorem q_477 : (Jvm.Cond.methodLink "EastNearlyLaw" (122 : Nat) ({ cls := "EastNearly", name := "days", desc := "(I)I" } : Jvm.MethodName)) ∈ ez_TW := ez_tw 477 (by decide +kernel) rfl
theorem q_478 : (Jvm.Cond.instanceMethod ({ cls := "EastNearly", name := "days", desc := "(I)I" } : Jvm.MethodName)) ∈ ez_TW := ez_tw 478 (by decide +kernel) rfl
theorem q_479 : (Jvm.Cond.selects "EastNearly" ({ cls := "EastNearly", name := "days", desc := "(I)I" } : Jvm.MethodName) ({ cls := "EastNearly", name := "days", desc := "(I)I" } : Jvm.MethodName)) ∈ ez_TW := ez_tw 479 (by decide +kernel) rfl
theorem q_480 : (Jvm.Cond.code ({ cls := "EastNearly", name := "days", desc := "(I)I" } : Jvm.MethodName) prog_1_method_27_code (4 : Nat) (Option.some Jvm.ClassFile.FieldType.int)) ∈ ez_TW := ez_tw 480 (by decide +kernel) rfl
theorem q_481 : (Jvm.Cond.methodLink "EastNearly" (180 : Nat) ({ cls := "EastNearly", name := "isDayOfLine", desc := "(II)Z" } : Jvm.MethodName)) ∈ ez_TW := ez_tw 481 (by decide +kernel) rfl
theorem q_483 : (Jvm.Cond.instanceMethod ({ cls := "EastNearly", name := "isDayOfLine", desc := "(II)Z" } : Jvm.MethodName)) ∈ ez_TW := ez_tw 483 (by decide +kernel) rfl
theorem q_484 : (Jvm.Cond.code ({ cls := "EastNearly", name := "isDayOfLine", desc := "(II)Z" } : Jvm.MethodName) prog_1_method_53_code (4 : Nat) (Option.some Jvm.ClassFile.FieldType.boolean)) ∈ ez_TW := ez_tw 484 (by decide +kernel) rfl
theorem q_485 : (Jvm.Cond.methodLink "EastNearlyLaw" (126 : Nat) ({ cls := "EastNearly", name := "on", desc := "(II)I" } : Jvm.MethodName)) ∈ ez_TW := ez_tw 485 (by decide +kernel) rfl
theorem q_486 : (Jvm.Cond.instanceMethod ({ cls := "EastNearly", name := "on", desc := "(II)I" } : Jvm.MethodName)) ∈ ez_TW := ez_tw 486 (by decide +kernel) rfl
theorem q_487 : (Jvm.Cond.selects "EastNearly" ({ cls := "EastNearly", name := "on", desc := "(II)I" } : Jvm.MethodName) ({ cls := "EastNearly", name := "on", desc := "(II)I" } : Jvm.MethodName)) ∈ ez_TW := ez_tw 487 (by decide +kernel) rfl
theorem q_488 : (Jvm.Cond.code ({ cls := "EastNearly", name := "on", desc := "(II)I" } : Jvm.MethodName) prog_1_method_28_code (3 : Nat) (Option.some Jvm.ClassFile.FieldType.int)) ∈ ez_TW := ez_tw 488 (by decide +kernel) rfl
theorem q_489 : (Jvm.Cond.methodLink "EastNearlyLaw" (130 : Nat) ({ cls := "EastNearly", name := "own", desc := "()I" } : Jvm.MethodName)) ∈ ez_TW := ez_tw 489 (by decide +kernel) rfl
theorem q_490 : (Jvm.Cond.instanceMethod ({ cls := "EastNearly", name := "own", desc := "()I" } : Jvm.MethodName)) ∈ ez_TW := ez_tw 490 (by decide +kernel) rfl
theorem q_491 : (Jvm.Cond.selects "EastNearly" ({ cls := "EastNearly", name := "own", desc := "()I" } : Jvm.MethodName) ({ cls := "EastNearly", name := "own", desc := "()I" } : Jvm.MethodName)) ∈ ez_TW := ez_tw 491 (by decide +kernel) rfl
theorem q_492 : (Jvm.Cond.code ({ cls := "EastNearly", name := "own", desc := "()I" } : Jvm.MethodName) prog_1_method_29_code (1 : Nat) (Option.some Jvm.ClassFile.FieldType.int)) ∈ ez_TW := ez_tw 492 (by decide +kernel) rfl
theorem q_493 : (Jvm.Cond.methodLink "EastNearly" (184 : Nat) ({ cls := "EastNearly", name := "ownHits", desc := "()I" } : Jvm.MethodName)) ∈ ez_TW := ez_tw 493 (by decide +kernel) rfl
theorem q_495 : (Jvm.Cond.instanceMethod ({ cls := "EastNearly", name := "ownHits", desc := "()I" } : Jvm.MethodName)) ∈ ez_TW := ez_tw 495 (by decide +kernel) rfl
theorem q_496 : (Jvm.Cond.code ({ cls := "EastNearly", name := "ownHits", desc := "()I" } : Jvm.MethodName) prog_1_method_54_code (3 : Nat) (Option.some Jvm.ClassFile.FieldType.int)) ∈ ez_TW := ez_tw 496 (by decide +kernel) rfl
theorem q_497 : (Jvm.Cond.methodLink "EastNearlyLaw" (134 : Nat) ({ cls := "EastNearly", name := "deals", desc := "(I)J" } : Jvm.MethodName)) ∈ ez_TW := ez_tw 497 (by decide +kernel) rfl
theorem q_498 : (Jvm.Cond.instanceMethod ({ cls := "EastNearly", name := "deals", desc := "(I)J" } : Jvm.MethodName)) ∈ ez_TW := ez_tw 498 (by decide +kernel) rfl
theorem q_499 : (Jvm.Cond.selects "EastNearly" ({ cls := "EastNearly", name := "deals", desc := "(I)J" } : Jvm.MethodName) ({ cls := "EastNearly", name := "deals", desc := "(I)J" } : Jvm.MethodName)) ∈ ez_TW := ez_tw 499 (by decide +kernel) rfl
theorem q_500 : (Jvm.Cond.code ({ cls := "EastNearly", name := "deals", desc := "(I)J" } : Jvm.MethodName) prog_1_method_30_code (2 : Nat) (Option.some Jvm.ClassFile.FieldType.long)) ∈ ez_TW := ez_tw 500 (by decide +kernel) rfl
theorem q_501 : (Jvm.Cond.constantLong "EastNearly" (187 : Nat) (-2 : Int64)) ∈ ez_TW := ez_tw 501 (by decide +kernel) rfl
theorem q_502 : (Jvm.Cond.methodLink "EastNearly" (189 : Nat) ({ cls := "EastNearly", name := "dealSaints", desc := "()V" } : Jvm.MethodName)) ∈ ez_TW := ez_tw 502 (by decide +kernel) rfl
theorem q_504 : (Jvm.Cond.instanceMethod ({ cls := "EastNearly", name := "dealSaints", desc := "()V" } : Jvm.MethodName)) ∈ ez_TW := ez_tw 504 (by decide +kernel) rfl
theorem q_505 : (Jvm.Cond.code ({ cls := "EastNearly", name := "dealSaints", desc := "()V" } : Jvm.MethodName) prog_1_method_55_code (2 : Nat) (Option.none : Option Jvm.ClassFile.FieldType)) ∈ ez_TW := ez_tw 505 (by decide +kernel) rfl
theorem q_506 : (Jvm.Cond.methodLinkNest "EastNearly" (251 : Nat) ({ cls := "EastNearly$SaintDeals", name := "clearSaints", desc := "()V" } : Jvm.MethodName) "EastNearly") ∈ ez_NW := ez_nw 506 (by decide +kernel) rfl
theorem q_508 : (Jvm.Cond.instanceMethod ({ cls := "EastNearly$SaintDeals", name := "clearSaints", desc := "()V" } : Jvm.MethodName)) ∈ ez_TW := ez_tw 508 (by decide +kernel) rfl
theorem q_509 : (Jvm.Cond.code ({ cls := "EastNearly$SaintDeals", name := "clearSaints", desc := "()V" } : Jvm.MethodName) prog_5_method_2_code (1 : Nat) (Option.none : Option Jvm.ClassFile.FieldType)) ∈ ez_TW := ez_tw 509 (by decide +kernel) rfl
theorem q_510 : (Jvm.Cond.methodLinkNest "EastNearly" (211 : Nat) ({ cls := "EastNearly$Churches", name := "knows", desc := "(II)Z" } : Jvm.MethodName) "EastNearly") ∈ ez_NW := ez_nw 510 (by decide +kernel) rfl
theorem q_512 : (Jvm.Cond.instanceMethod ({ cls := "EastNearly$Churches", name := "knows", desc := "(II)Z" } : Jvm.MethodName)) ∈ ez_TW := ez_tw 512 (by decide +kernel) rfl
theorem q_513 : (Jvm.Cond.code ({ cls := "EastNearly$Churches", name := "knows", desc := "(II)Z" } : Jvm.MethodName) prog_3_method_4_code (3 : Nat) (Option.some Jvm.ClassFile.FieldType.boolean)) ∈ ez_TW := ez_tw 513 (by decide +kernel) rfl
theorem q_514 : (Jvm.Cond.methodLink "EastNearly" (254 : Nat) ({ cls := "EastNearly", name := "saintsThatExplain", desc := "(I)I" } : Jvm.MethodName)) ∈ ez_TW := ez_tw 514 (by decide +kernel) rfl
theorem q_516 : (Jvm.Cond.instanceMethod ({ cls := "EastNearly", name := "saintsThatExplain", desc := "(I)I" } : Jvm.MethodName)) ∈ ez_TW := ez_tw 516 (by decide +kernel) rfl
theorem q_517 : (Jvm.Cond.code ({ cls := "EastNearly", name := "saintsThatExplain", desc := "(I)I" } : Jvm.MethodName) prog_1_method_56_code (5 : Nat) (Option.some Jvm.ClassFile.FieldType.int)) ∈ ez_TW := ez_tw 517 (by decide +kernel) rfl
theorem q_518 : (Jvm.Cond.methodLink "EastNearly" (263 : Nat) ({ cls := "EastNearly", name := "dateExplains", desc := "(II)Z" } : Jvm.MethodName)) ∈ ez_TW := ez_tw 518 (by decide +kernel) rfl
theorem q_520 : (Jvm.Cond.instanceMethod ({ cls := "EastNearly", name := "dateExplains", desc := "(II)Z" } : Jvm.MethodName)) ∈ ez_TW := ez_tw 520 (by decide +kernel) rfl
theorem q_521 : (Jvm.Cond.code ({ cls := "EastNearly", name := "dateExplains", desc := "(II)Z" } : Jvm.MethodName) prog_1_method_57_code (5 : Nat) (Option.some Jvm.ClassFile.FieldType.boolean)) ∈ ez_TW := ez_tw 521 (by decide +kernel) rfl
theorem q_522 : (Jvm.Cond.methodLink "EastNearly" (218 : Nat) ({ cls := "EastNearly", name := "dateHits", desc := "(III)Z" } : Jvm.MethodName)) ∈ ez_TW := ez_tw 522 (by decide +kernel) rfl
theorem q_524 : (Jvm.Cond.instanceMethod ({ cls := "EastNearly", name := "dateHits", desc := "(III)Z" } : Jvm.MethodName)) ∈ ez_TW := ez_tw 524 (by decide +kernel) rfl
theorem q_525 : (Jvm.Cond.code ({ cls := "EastNearly", name := "dateHits", desc := "(III)Z" } : Jvm.MethodName) prog_1_method_46_code (5 : Nat) (Option.some Jvm.ClassFile.FieldType.boolean)) ∈ ez_TW := ez_tw 525 (by decide +kernel) rfl
theorem q_526 : (Jvm.Cond.methodLinkNest "EastNearly" (257 : Nat) ({ cls := "EastNearly$SaintDeals", name := "addSaint", desc := "(I)V" } : Jvm.MethodName) "EastNearly") ∈ ez_NW := ez_nw 526 (by decide +kernel) rfl
theorem q_528 : (Jvm.Cond.instanceMethod ({ cls := "EastNearly$SaintDeals", name := "addSaint", desc := "(I)V" } : Jvm.MethodName)) ∈ ez_TW := ez_tw 528 (by decide +kernel) rfl
theorem q_529 : (Jvm.Cond.code ({ cls := "EastNearly$SaintDeals", name := "addSaint", desc := "(I)V" } : Jvm.MethodName) prog_5_method_3_code (2 : Nat) (Option.none : Option Jvm.ClassFile.FieldType)) ∈ ez_TW := ez_tw 529 (by decide +kernel) rfl
theorem q_530 : (Jvm.Cond.methodLinkNest "EastNearly$SaintDeals" (22 : Nat) ({ cls := "EastNearly", name := "put", desc := "([III)V" } : Jvm.MethodName) "EastNearly") ∈ ez_NW := ez_nw 530 (by decide +kernel) rfl
theorem q_531 : (Jvm.Cond.methodLinkNest "EastNearly" (260 : Nat) ({ cls := "EastNearly$SaintDeals", name := "countWays", desc := "()V" } : Jvm.MethodName) "EastNearly") ∈ ez_NW := ez_nw 531 (by decide +kernel) rfl
theorem q_533 : (Jvm.Cond.instanceMethod ({ cls := "EastNearly$SaintDeals", name := "countWays", desc := "()V" } : Jvm.MethodName)) ∈ ez_TW := ez_tw 533 (by decide +kernel) rfl
theorem q_534 : (Jvm.Cond.code ({ cls := "EastNearly$SaintDeals", name := "countWays", desc := "()V" } : Jvm.MethodName) prog_5_method_4_code (6 : Nat) (Option.none : Option Jvm.ClassFile.FieldType)) ∈ ez_TW := ez_tw 534 (by decide +kernel) rfl
theorem q_535 : (Jvm.Cond.methodLink "EastNearly$SaintDeals" (26 : Nat) ({ cls := "java/lang/Integer", name := "bitCount", desc := "(I)I" } : Jvm.MethodName)) ∈ ez_TW := ez_tw 535 (by decide +kernel) rfl
theorem q_536 : (Jvm.Cond.methodLinkNest "EastNearly$SaintDeals" (32 : Nat) ({ cls := "EastNearly", name := "at", desc := "([II)I" } : Jvm.MethodName) "EastNearly") ∈ ez_NW := ez_nw 536 (by decide +kernel) rfl
theorem q_537 : (Jvm.Cond.methodLink "EastNearly$SaintDeals" (36 : Nat) ({ cls := "EastNearly$SaintDeals", name := "addWays", desc := "(IIII)V" } : Jvm.MethodName)) ∈ ez_TW := ez_tw 537 (by decide +kernel) rfl
theorem q_539 : (Jvm.Cond.instanceMethod ({ cls := "EastNearly$SaintDeals", name := "addWays", desc := "(IIII)V" } : Jvm.MethodName)) ∈ ez_TW := ez_tw 539 (by decide +kernel) rfl
theorem q_540 : (Jvm.Cond.code ({ cls := "EastNearly$SaintDeals", name := "addWays", desc := "(IIII)V" } : Jvm.MethodName) prog_5_method_5_code (7 : Nat) (Option.none : Option Jvm.ClassFile.FieldType)) ∈ ez_TW := ez_tw 540 (by decide +kernel) rfl
theorem q_541 : (Jvm.Cond.methodLinkNest "EastNearly" (192 : Nat) ({ cls := "EastNearly$SaintDeals", name := "waysWith", desc := "(I)I" } : Jvm.MethodName) "EastNearly") ∈ ez_NW := ez_nw 541 (by decide +kernel) rfl
theorem q_543 : (Jvm.Cond.instanceMethod ({ cls := "EastNearly$SaintDeals", name := "waysWith", desc := "(I)I" } : Jvm.MethodName)) ∈ ez_TW := ez_tw 543 (by decide +kernel) rfl
theorem q_544 : (Jvm.Cond.code ({ cls := "EastNearly$SaintDeals", name := "waysWith", desc := "(I)I" } : Jvm.MethodName) prog_5_method_6_code (3 : Nat) (Option.some Jvm.ClassFile.FieldType.int)) ∈ ez_TW := ez_tw 544 (by decide +kernel) rfl
theorem q_545 : (Jvm.Cond.methodLink "EastNearlyLaw" (139 : Nat) ({ cls := "EastNearly", name := "dealt", desc := "(Z)J" } : Jvm.MethodName)) ∈ ez_TW := ez_tw 545 (by decide +kernel) rfl
theorem q_546 : (Jvm.Cond.instanceMethod ({ cls := "EastNearly", name := "dealt", desc := "(Z)J" } : Jvm.MethodName)) ∈ ez_TW := ez_tw 546 (by decide +kernel) rfl
theorem q_547 : (Jvm.Cond.selects "EastNearly" ({ cls := "EastNearly", name := "dealt", desc := "(Z)J" } : Jvm.MethodName) ({ cls := "EastNearly", name := "dealt", desc := "(Z)J" } : Jvm.MethodName)) ∈ ez_TW := ez_tw 547 (by decide +kernel) rfl
theorem q_548 : (Jvm.Cond.code ({ cls := "EastNearly", name := "dealt", desc := "(Z)J" } : Jvm.MethodName) prog_1_method_31_code (9 : Nat) (Option.some Jvm.ClassFile.FieldType.long)) ∈ ez_TW := ez_tw 548 (by decide +kernel) rfl
theorem q_549 : (Jvm.Cond.methodLink "EastNearlyLaw" (144 : Nat) ({ cls := "EastNearly", name := "goes", desc := "()I" } : Jvm.MethodName)) ∈ ez_TW := ez_tw 549 (by decide +kernel) rfl
theorem q_550 : (Jvm.Cond.instanceMethod ({ cls := "EastNearly", name := "goes", desc := "()I" } : Jvm.MethodName)) ∈ ez_TW := ez_tw 550 (by decide +kernel) rfl
theorem q_551 : (Jvm.Cond.selects "EastNearly" ({ cls := "EastNearly", name := "goes", desc := "()I" } : Jvm.MethodName) ({ cls := "EastNearly", name := "goes", desc := "()I" } : Jvm.MethodName)) ∈ ez_TW := ez_tw 551 (by decide +kernel) rfl
theorem q_552 : (Jvm.Cond.code ({ cls := "EastNearly", name := "goes", desc := "()I" } : Jvm.MethodName) prog_1_method_32_code (1 : Nat) (Option.some Jvm.ClassFile.FieldType.int)) ∈ ez_TW := ez_tw 552 (by decide +kernel) rfl
theorem q_553 : (Jvm.Cond.methodLink "EastNearly" (195 : Nat) ({ cls := "EastNearly", name := "scoreAsBuilt", desc := "()I" } : Jvm.MethodName)) ∈ ez_TW := ez_tw 553 (by decide +kernel) rfl
theorem q_555 : (Jvm.Cond.instanceMethod ({ cls := "EastNearly", name := "scoreAsBuilt", desc := "()I" } : Jvm.MethodName)) ∈ ez_TW := ez_tw 555 (by decide +kernel) rfl
theorem q_556 : (Jvm.Cond.code ({ cls := "EastNearly", name := "scoreAsBuilt", desc := "()I" } : Jvm.MethodName) prog_1_method_58_code (3 : Nat) (Option.some Jvm.ClassFile.FieldType.int)) ∈ ez_TW := ez_tw 556 (by decide +kernel) rfl
theorem q_557 : (Jvm.Cond.methodLinkNest "EastNearly" (266 : Nat) ({ cls := "EastNearly$LineDeals", name := "clearLines", desc := "()V" } : Jvm.MethodName) "EastNearly") ∈ ez_NW := ez_nw 557 (by decide +kernel) rfl
theorem q_559 : (Jvm.Cond.instanceMethod ({ cls := "EastNearly$LineDeals", name := "clearLines", desc := "()V" } : Jvm.MethodName)) ∈ ez_TW := ez_tw 559 (by decide +kernel) rfl
theorem q_560 : (Jvm.Cond.code ({ cls := "EastNearly$LineDeals", name := "clearLines", desc := "()V" } : Jvm.MethodName) prog_4_method_2_code (1 : Nat) (Option.none : Option Jvm.ClassFile.FieldType)) ∈ ez_TW := ez_tw 560 (by decide +kernel) rfl
theorem q_561 : (Jvm.Cond.methodLinkNest "EastNearly" (269 : Nat) ({ cls := "EastNearly$Churches", name := "middleYear", desc := "(I)I" } : Jvm.MethodName) "EastNearly") ∈ ez_NW := ez_nw 561 (by decide +kernel) rfl
theorem q_563 : (Jvm.Cond.instanceMethod ({ cls := "EastNearly$Churches", name := "middleYear", desc := "(I)I" } : Jvm.MethodName)) ∈ ez_TW := ez_tw 563 (by decide +kernel) rfl
theorem q_564 : (Jvm.Cond.code ({ cls := "EastNearly$Churches", name := "middleYear", desc := "(I)I" } : Jvm.MethodName) prog_3_method_8_code (2 : Nat) (Option.some Jvm.ClassFile.FieldType.int)) ∈ ez_TW := ez_tw 564 (by decide +kernel) rfl
theorem q_565 : (Jvm.Cond.methodLink "EastNearly" (272 : Nat) ({ cls := "EastNearly", name := "fromEast", desc := "(I)I" } : Jvm.MethodName)) ∈ ez_TW := ez_tw 565 (by decide +kernel) rfl
theorem q_566 : (Jvm.Cond.static ({ cls := "EastNearly", name := "fromEast", desc := "(I)I" } : Jvm.MethodName)) ∈ ez_TW := ez_tw 566 (by decide +kernel) rfl
theorem q_567 : (Jvm.Cond.code ({ cls := "EastNearly", name := "fromEast", desc := "(I)I" } : Jvm.MethodName) prog_1_method_72_code (2 : Nat) (Option.some Jvm.ClassFile.FieldType.int)) ∈ ez_TW := ez_tw 567 (by decide +kernel) rfl
theorem q_568 : (Jvm.Cond.methodLinkNest "EastNearly" (275 : Nat) ({ cls := "EastNearly$LineDeals", name := "addLine", desc := "(II)V" } : Jvm.MethodName) "EastNearly") ∈ ez_NW := ez_nw 568 (by decide +kernel) rfl
theorem q_570 : (Jvm.Cond.instanceMethod ({ cls := "EastNearly$LineDeals", name := "addLine", desc := "(II)V" } : Jvm.MethodName)) ∈ ez_TW := ez_tw 570 (by decide +kernel) rfl
theorem q_571 : (Jvm.Cond.code ({ cls := "EastNearly$LineDeals", name := "addLine", desc := "(II)V" } : Jvm.MethodName) prog_4_method_3_code (3 : Nat) (Option.none : Option Jvm.ClassFile.FieldType)) ∈ ez_TW := ez_tw 571 (by decide +kernel) rfl
theorem q_572 : (Jvm.Cond.methodLinkNest "EastNearly$LineDeals" (25 : Nat) ({ cls := "EastNearly", name := "put", desc := "([III)V" } : Jvm.MethodName) "EastNearly") ∈ ez_NW := ez_nw 572 (by decide +kernel) rfl
theorem q_573 : (Jvm.Cond.methodLinkNest "EastNearly" (202 : Nat) ({ cls := "EastNearly$LineDeals", name := "score", desc := "()I" } : Jvm.MethodName) "EastNearly") ∈ ez_NW := ez_nw 573 (by decide +kernel) rfl
theorem q_575 : (Jvm.Cond.instanceMethod ({ cls := "EastNearly$LineDeals", name := "score", desc := "()I" } : Jvm.MethodName)) ∈ ez_TW := ez_tw 575 (by decide +kernel) rfl
theorem q_576 : (Jvm.Cond.code ({ cls := "EastNearly$LineDeals", name := "score", desc := "()I" } : Jvm.MethodName) prog_4_method_6_code (6 : Nat) (Option.some Jvm.ClassFile.FieldType.int)) ∈ ez_TW := ez_tw 576 (by decide +kernel) rfl
theorem q_577 : (Jvm.Cond.methodLinkNest "EastNearly$LineDeals" (33 : Nat) ({ cls := "EastNearly", name := "at", desc := "([II)I" } : Jvm.MethodName) "EastNearly") ∈ ez_NW := ez_nw 577 (by decide +kernel) rfl
theorem q_578 : (Jvm.Cond.methodLink "EastNearly$LineDeals" (37 : Nat) ({ cls := "EastNearly$LineDeals", name := "way", desc := "(II)I" } : Jvm.MethodName)) ∈ ez_TW := ez_tw 578 (by decide +kernel) rfl
theorem q_579 : (Jvm.Cond.static ({ cls := "EastNearly$LineDeals", name := "way", desc := "(II)I" } : Jvm.MethodName)) ∈ ez_TW := ez_tw 579 (by decide +kernel) rfl
theorem q_580 : (Jvm.Cond.code ({ cls := "EastNearly$LineDeals", name := "way", desc := "(II)I" } : Jvm.MethodName) prog_4_method_7_code (2 : Nat) (Option.some Jvm.ClassFile.FieldType.int)) ∈ ez_TW := ez_tw 580 (by decide +kernel) rfl
theorem q_581 : (Jvm.Cond.methodLink "EastNearlyLaw" (148 : Nat) ({ cls := "EastNearly", name := "luck", desc := "(Z)J" } : Jvm.MethodName)) ∈ ez_TW := ez_tw 581 (by decide +kernel) rfl
theorem q_582 : (Jvm.Cond.instanceMethod ({ cls := "EastNearly", name := "luck", desc := "(Z)J" } : Jvm.MethodName)) ∈ ez_TW := ez_tw 582 (by decide +kernel) rfl
theorem q_583 : (Jvm.Cond.selects "EastNearly" ({ cls := "EastNearly", name := "luck", desc := "(Z)J" } : Jvm.MethodName) ({ cls := "EastNearly", name := "luck", desc := "(Z)J" } : Jvm.MethodName)) ∈ ez_TW := ez_tw 583 (by decide +kernel) rfl
theorem q_584 : (Jvm.Cond.code ({ cls := "EastNearly", name := "luck", desc := "(Z)J" } : Jvm.MethodName) prog_1_method_33_code (6 : Nat) (Option.some Jvm.ClassFile.FieldType.long)) ∈ ez_TW := ez_tw 584 (by decide +kernel) rfl
theorem q_585 : (Jvm.Cond.methodLinkNest "EastNearly" (198 : Nat) ({ cls := "EastNearly$LineDeals", name := "deal", desc := "(I)V" } : Jvm.MethodName) "EastNearly") ∈ ez_NW := ez_nw 585 (by decide +kernel) rfl
theorem q_587 : (Jvm.Cond.instanceMethod ({ cls := "EastNearly$LineDeals", name := "deal", desc := "(I)V" } : Jvm.MethodName)) ∈ ez_TW := ez_tw 587 (by decide +kernel) rfl
theorem q_588 : (Jvm.Cond.code ({ cls := "EastNearly$LineDeals", name := "deal", desc := "(I)V" } : Jvm.MethodName) prog_4_method_4_code (6 : Nat) (Option.none : Option Jvm.ClassFile.FieldType)) ∈ ez_TW := ez_tw 588 (by decide +kernel) rfl
theorem q_589 : (Jvm.Cond.methodLink "EastNearly$LineDeals" (29 : Nat) ({ cls := "EastNearly$LineDeals", name := "bitAt", desc := "(II)I" } : Jvm.MethodName)) ∈ ez_TW := ez_tw 589 (by decide +kernel) rfl
theorem q_590 : (Jvm.Cond.static ({ cls := "EastNearly$LineDeals", name := "bitAt", desc := "(II)I" } : Jvm.MethodName)) ∈ ez_TW := ez_tw 590 (by decide +kernel) rfl
theorem q_591 : (Jvm.Cond.code ({ cls := "EastNearly$LineDeals", name := "bitAt", desc := "(II)I" } : Jvm.MethodName) prog_4_method_5_code (4 : Nat) (Option.some Jvm.ClassFile.FieldType.int)) ∈ ez_TW := ez_tw 591 (by decide +kernel) rfl
theorem q_592 : (Jvm.Cond.methodLink "EastNearlyLaw" (152 : Nat) ({ cls := "EastNearly", name := "dated", desc := "(II)I" } : Jvm.MethodName)) ∈ ez_TW := ez_tw 592 (by decide +kernel) rfl
theorem q_593 : (Jvm.Cond.instanceMethod ({ cls := "EastNearly", name := "dated", desc := "(II)I" } : Jvm.MethodName)) ∈ ez_TW := ez_tw 593 (by decide +kernel) rfl
theorem q_594 : (Jvm.Cond.selects "EastNearly" ({ cls := "EastNearly", name := "dated", desc := "(II)I" } : Jvm.MethodName) ({ cls := "EastNearly", name := "dated", desc := "(II)I" } : Jvm.MethodName)) ∈ ez_TW := ez_tw 594 (by decide +kernel) rfl
theorem q_595 : (Jvm.Cond.code ({ cls := "EastNearly", name := "dated", desc := "(II)I" } : Jvm.MethodName) prog_1_method_34_code (8 : Nat) (Option.some Jvm.ClassFile.FieldType.int)) ∈ ez_TW := ez_tw 595 (by decide +kernel) rfl
theorem q_596 : (Jvm.Cond.methodLink "EastNearlyLaw" (156 : Nat) ({ cls := "EastNearly", name := "master", desc := "(II)I" } : Jvm.MethodName)) ∈ ez_TW := ez_tw 596 (by decide +kernel) rfl
theorem q_597 : (Jvm.Cond.instanceMethod ({ cls := "EastNearly", name := "master", desc := "(II)I" } : Jvm.MethodName)) ∈ ez_TW := ez_tw 597 (by decide +kernel) rfl
theorem q_598 : (Jvm.Cond.selects "EastNearly" ({ cls := "EastNearly", name := "master", desc := "(II)I" } : Jvm.MethodName) ({ cls := "EastNearly", name := "master", desc := "(II)I" } : Jvm.MethodName)) ∈ ez_TW := ez_tw 598 (by decide +kernel) rfl
theorem q_599 : (Jvm.Cond.code ({ cls := "EastNearly", name := "master", desc := "(II)I" } : Jvm.MethodName) prog_1_method_35_code (5 : Nat) (Option.some Jvm.ClassFile.FieldType.int)) ∈ ez_TW := ez_tw 599 (by decide +kernel) rfl
theorem q_600 : (Jvm.Cond.methodLink "EastNearly" (205 : Nat) ({ cls := "EastNearly", name := "churchesLike", desc := "(III)I" } : Jvm.MethodName)) ∈ ez_TW := ez_tw 600 (by decide +kernel) rfl
theorem q_602 : (Jvm.Cond.instanceMethod ({ cls := "EastNearly", name := "churchesLike", desc := "(III)I" } : Jvm.MethodName)) ∈ ez_TW := ez_tw 602 (by decide +kernel) rfl
theorem q_603 : (Jvm.Cond.code ({ cls := "EastNearly", name := "churchesLike", desc := "(III)I" } : Jvm.MethodName) prog_1_method_59_code (8 : Nat) (Option.some Jvm.ClassFile.FieldType.int)) ∈ ez_TW := ez_tw 603 (by decide +kernel) rfl
theorem q_604 : (Jvm.Cond.methodLink "EastNearly" (208 : Nat) ({ cls := "EastNearly", name := "areAllAlike", desc := "(I)Z" } : Jvm.MethodName)) ∈ ez_TW := ez_tw 604 (by decide +kernel) rfl
theorem q_606 : (Jvm.Cond.instanceMethod ({ cls := "EastNearly", name := "areAllAlike", desc := "(I)Z" } : Jvm.MethodName)) ∈ ez_TW := ez_tw 606 (by decide +kernel) rfl
theorem q_607 : (Jvm.Cond.code ({ cls := "EastNearly", name := "areAllAlike", desc := "(I)Z" } : Jvm.MethodName) prog_1_method_60_code (4 : Nat) (Option.some Jvm.ClassFile.FieldType.boolean)) ∈ ez_TW := ez_tw 607 (by decide +kernel) rfl
theorem q_608 : (Jvm.Cond.methodLink "EastNearlyLaw" (160 : Nat) ({ cls := "EastNearly", name := "choir", desc := "(IIII)I" } : Jvm.MethodName)) ∈ ez_TW := ez_tw 608 (by decide +kernel) rfl
theorem q_609 : (Jvm.Cond.instanceMethod ({ cls := "EastNearly", name := "choir", desc := "(IIII)I" } : Jvm.MethodName)) ∈ ez_TW := ez_tw 609 (by decide +kernel) rfl
theorem q_610 : (Jvm.Cond.selects "EastNearly" ({ cls := "EastNearly", name := "choir", desc := "(IIII)I" } : Jvm.MethodName) ({ cls := "EastNearly", name := "choir", desc := "(IIII)I" } : Jvm.MethodName)) ∈ ez_TW := ez_tw 610 (by decide +kernel) rfl
theorem q_611 : (Jvm.Cond.code ({ cls := "EastNearly", name := "choir", desc := "(IIII)I" } : Jvm.MethodName) prog_1_method_36_code (5 : Nat) (Option.some Jvm.ClassFile.FieldType.int)) ∈ ez_TW := ez_tw 611 (by decide +kernel) rfl
theorem q_612 : (Jvm.Cond.methodLink "EastNearlyLaw" (165 : Nat) ({ cls := "EastNearly", name := "bends", desc := "(I)I" } : Jvm.MethodName)) ∈ ez_TW := ez_tw 612 (by decide +kernel) rfl
theorem q_613 : (Jvm.Cond.instanceMethod ({ cls := "EastNearly", name := "bends", desc := "(I)I" } : Jvm.MethodName)) ∈ ez_TW := ez_tw 613 (by decide +kernel) rfl
theorem q_614 : (Jvm.Cond.selects "EastNearly" ({ cls := "EastNearly", name := "bends", desc := "(I)I" } : Jvm.MethodName) ({ cls := "EastNearly", name := "bends", desc := "(I)I" } : Jvm.MethodName)) ∈ ez_TW := ez_tw 614 (by decide +kernel) rfl
theorem q_615 : (Jvm.Cond.code ({ cls := "EastNearly", name := "bends", desc := "(I)I" } : Jvm.MethodName) prog_1_method_37_code (2 : Nat) (Option.some Jvm.ClassFile.FieldType.int)) ∈ ez_TW := ez_tw 615 (by decide +kernel) rfl
theorem q_616 : (Jvm.Cond.methodLink "EastNearlyLaw" (169 : Nat) ({ cls := "EastNearly", name := "why", desc := "(I)I" } : Jvm.MethodName)) ∈ ez_TW := ez_tw 616 (by decide +kernel) rfl
theorem q_617 : (Jvm.Cond.instanceMethod ({ cls := "EastNearly", name := "why", desc := "(I)I" } : Jvm.MethodName)) ∈ ez_TW := ez_tw 617 (by decide +kernel) rfl
theorem q_618 : (Jvm.Cond.selects "EastNearly" ({ cls := "EastNearly", name := "why", desc := "(I)I" } : Jvm.MethodName) ({ cls := "EastNearly", name := "why", desc := "(I)I" } : Jvm.MethodName)) ∈ ez_TW := ez_tw 618 (by decide +kernel) rfl
theorem q_619 : (Jvm.Cond.code ({ cls := "EastNearly", name := "why", desc := "(I)I" } : Jvm.MethodName) prog_1_method_38_code (4 : Nat) (Option.some Jvm.ClassFile.FieldType.int)) ∈ ez_TW := ez_tw 619 (by decide +kernel) rfl
theorem q_620 : (Jvm.Cond.methodLink "EastNearlyLaw" (173 : Nat) ({ cls := "EastNearly", name := "when", desc := "(III)I" } : Jvm.MethodName)) ∈ ez_TW := ez_tw 620 (by decide +kernel) rfl
theorem q_621 : (Jvm.Cond.instanceMethod ({ cls := "EastNearly", name := "when", desc := "(III)I" } : Jvm.MethodName)) ∈ ez_TW := ez_tw 621 (by decide +kernel) rfl
theorem q_622 : (Jvm.Cond.selects "EastNearly" ({ cls := "EastNearly", name := "when", desc := "(III)I" } : Jvm.MethodName) ({ cls := "EastNearly", name := "when", desc := "(III)I" } : Jvm.MethodName)) ∈ ez_TW := ez_tw 622 (by decide +kernel) rfl
theorem q_623 : (Jvm.Cond.code ({ cls := "EastNearly", name := "when", desc := "(III)I" } : Jvm.MethodName) prog_1_method_39_code (8 : Nat) (Option.some Jvm.ClassFile.FieldType.int)) ∈ ez_TW := ez_tw 623 (by decide +kernel) rfl
theorem q_624 : (Jvm.Cond.methodLink "EastNearlyLaw" (177 : Nat) ({ cls := "EastNearly", name := "since", desc := "(II)I" } : Jvm.MethodName)) ∈ ez_TW := ez_tw 624 (by decide +kernel) rfl
theorem q_625 : (Jvm.Cond.instanceMethod ({ cls := "EastNearly", name := "since", desc := "(II)I" } : Jvm.MethodName)) ∈ ez_TW := ez_tw 625 (by decide +kernel) rfl
theorem q_626 : (Jvm.Cond.selects "EastNearly" ({ cls := "EastNearly", name := "since", desc := "(II)I" } : Jvm.MethodName) ({ cls := "EastNearly", name := "since", desc := "(II)I" } : Jvm.MethodName)) ∈ ez_TW := ez_tw 626 (by decide +kernel) rfl
theorem q_627 : (Jvm.Cond.code ({ cls := "EastNearly", name := "since", desc := "(II)I" } : Jvm.MethodName) prog_1_method_40_code (9 : Nat) (Option.some Jvm.ClassFile.FieldType.int)) ∈ ez_TW := ez_tw 627 (by decide +kernel) rfl
theorem q_628 : (Jvm.Cond.methodLink "EastNearlyLaw" (181 : Nat) ({ cls := "EastNearly", name := "keep", desc := "(I)I" } : Jvm.MethodName)) ∈ ez_TW := ez_tw 628 (by decide +kernel) rfl
theorem q_629 : (Jvm.Cond.instanceMethod ({ cls := "EastNearly", name := "keep", desc := "(I)I" } : Jvm.MethodName)) ∈ ez_TW := ez_tw 629 (by decide +kernel) rfl
theorem q_630 : (Jvm.Cond.selects "EastNearly" ({ cls := "EastNearly", name := "keep", desc := "(I)I" } : Jvm.MethodName) ({ cls := "EastNearly", name := "keep", desc := "(I)I" } : Jvm.MethodName)) ∈ ez_TW := ez_tw 630 (by decide +kernel) rfl
theorem q_631 : (Jvm.Cond.code ({ cls := "EastNearly", name := "keep", desc := "(I)I" } : Jvm.MethodName) prog_1_method_41_code (2 : Nat) (Option.some Jvm.ClassFile.FieldType.int)) ∈ ez_TW := ez_tw 631 (by decide +kernel) rfl
theorem q_632 : (Jvm.Cond.methodLink "EastNearly" (221 : Nat) ({ cls := "EastNearly", name := "isSlot", desc := "(I)Z" } : Jvm.MethodName)) ∈ ez_TW := ez_tw 632 (by decide +kernel) rfl
theorem q_633 : (Jvm.Cond.static ({ cls := "EastNearly", name := "isSlot", desc := "(I)Z" } : Jvm.MethodName)) ∈ ez_TW := ez_tw 633 (by decide +kernel) rfl
theorem q_634 : (Jvm.Cond.code ({ cls := "EastNearly", name := "isSlot", desc := "(I)Z" } : Jvm.MethodName) prog_1_method_69_code (1 : Nat) (Option.some Jvm.ClassFile.FieldType.boolean)) ∈ ez_TW := ez_tw 634 (by decide +kernel) rfl
theorem q_635 : (Jvm.Cond.methodLink "EastNearly" (224 : Nat) ({ cls := "EastNearly", name := "slotAt", desc := "(I)LEastNearly$Churches;" } : Jvm.MethodName)) ∈ ez_TW := ez_tw 635 (by decide +kernel) rfl
theorem q_637 : (Jvm.Cond.instanceMethod ({ cls := "EastNearly", name := "slotAt", desc := "(I)LEastNearly$Churches;" } : Jvm.MethodName)) ∈ ez_TW := ez_tw 637 (by decide +kernel) rfl
theorem q_638 : (Jvm.Cond.code ({ cls := "EastNearly", name := "slotAt", desc := "(I)LEastNearly$Churches;" } : Jvm.MethodName) prog_1_method_61_code (2 : Nat) (Option.some (Jvm.ClassFile.FieldType.object "EastNearly$Churches"))) ∈ ez_TW := ez_tw 638 (by decide +kernel) rfl
theorem q_639 : (Jvm.Cond.methodLinkNest "EastNearly" (228 : Nat) ({ cls := "EastNearly$Churches", name := "takeAll", desc := "(LEastNearly$Churches;)I" } : Jvm.MethodName) "EastNearly") ∈ ez_NW := ez_nw 639 (by decide +kernel) rfl
theorem q_641 : (Jvm.Cond.instanceMethod ({ cls := "EastNearly$Churches", name := "takeAll", desc := "(LEastNearly$Churches;)I" } : Jvm.MethodName)) ∈ ez_TW := ez_tw 641 (by decide +kernel) rfl
theorem q_642 : (Jvm.Cond.code ({ cls := "EastNearly$Churches", name := "takeAll", desc := "(LEastNearly$Churches;)I" } : Jvm.MethodName) prog_3_method_7_code (3 : Nat) (Option.some Jvm.ClassFile.FieldType.int)) ∈ ez_TW := ez_tw 642 (by decide +kernel) rfl
theorem q_643 : (Jvm.Cond.methodLink "EastNearlyLaw" (185 : Nat) ({ cls := "EastNearly", name := "again", desc := "(I)I" } : Jvm.MethodName)) ∈ ez_TW := ez_tw 643 (by decide +kernel) rfl
theorem q_644 : (Jvm.Cond.instanceMethod ({ cls := "EastNearly", name := "again", desc := "(I)I" } : Jvm.MethodName)) ∈ ez_TW := ez_tw 644 (by decide +kernel) rfl
theorem q_645 : (Jvm.Cond.selects "EastNearly" ({ cls := "EastNearly", name := "again", desc := "(I)I" } : Jvm.MethodName) ({ cls := "EastNearly", name := "again", desc := "(I)I" } : Jvm.MethodName)) ∈ ez_TW := ez_tw 645 (by decide +kernel) rfl
theorem q_646 : (Jvm.Cond.code ({ cls := "EastNearly", name := "again", desc := "(I)I" } : Jvm.MethodName) prog_1_method_42_code (2 : Nat) (Option.some Jvm.ClassFile.FieldType.int)) ∈ ez_TW := ez_tw 646 (by decide +kernel) rfl
theorem q_647 : (Jvm.Cond.methodLink "EastNearlyLaw" (189 : Nat) ({ cls := "EastNearly", name := "count", desc := "(I)I" } : Jvm.MethodName)) ∈ ez_TW := ez_tw 647 (by decide +kernel) rfl
theorem q_648 : (Jvm.Cond.instanceMethod ({ cls := "EastNearly", name := "count", desc := "(I)I" } : Jvm.MethodName)) ∈ ez_TW := ez_tw 648 (by decide +kernel) rfl
theorem q_649 : (Jvm.Cond.selects "EastNearly" ({ cls := "EastNearly", name := "count", desc := "(I)I" } : Jvm.MethodName) ({ cls := "EastNearly", name := "count", desc := "(I)I" } : Jvm.MethodName)) ∈ ez_TW := ez_tw 649 (by decide +kernel) rfl
theorem q_650 : (Jvm.Cond.code ({ cls := "EastNearly", name := "count", desc := "(I)I" } : Jvm.MethodName) prog_1_method_43_code (2 : Nat) (Option.some Jvm.ClassFile.FieldType.int)) ∈ ez_TW := ez_tw 650 (by decide +kernel) rfl
theorem q_651 : (Jvm.Cond.methodLinkNest "EastNearly" (236 : Nat) ({ cls := "EastNearly$Churches", name := "countWith", desc := "(I)I" } : Jvm.MethodName) "EastNearly") ∈ ez_NW := ez_nw 651 (by decide +kernel) rfl
theorem q_653 : (Jvm.Cond.instanceMethod ({ cls := "EastNearly$Churches", name := "countWith", desc := "(I)I" } : Jvm.MethodName)) ∈ ez_TW := ez_tw 653 (by decide +kernel) rfl
theorem q_654 : (Jvm.Cond.code ({ cls := "EastNearly$Churches", name := "countWith", desc := "(I)I" } : Jvm.MethodName) prog_3_method_9_code (4 : Nat) (Option.some Jvm.ClassFile.FieldType.int)) ∈ ez_TW := ez_tw 654 (by decide +kernel) rfl
theorem q_655 : (Jvm.Cond.methodLink "EastNearly$Churches" (39 : Nat) ({ cls := "EastNearly$Churches", name := "knows", desc := "(II)Z" } : Jvm.MethodName)) ∈ ez_TW := ez_tw 655 (by decide +kernel) rfl
theorem q_656 : (Jvm.Cond.methodLink "EastNearly" (239 : Nat) ({ cls := "EastNearly", name := "countUnexplained", desc := "()I" } : Jvm.MethodName)) ∈ ez_TW := ez_tw 656 (by decide +kernel) rfl
theorem q_658 : (Jvm.Cond.instanceMethod ({ cls := "EastNearly", name := "countUnexplained", desc := "()I" } : Jvm.MethodName)) ∈ ez_TW := ez_tw 658 (by decide +kernel) rfl
theorem q_659 : (Jvm.Cond.code ({ cls := "EastNearly", name := "countUnexplained", desc := "()I" } : Jvm.MethodName) prog_1_method_52_code (3 : Nat) (Option.some Jvm.ClassFile.FieldType.int)) ∈ ez_TW := ez_tw 659 (by decide +kernel) rfl
theorem q_660 : (Jvm.Cond.classLink "EastNearlyLaw" (10 : Nat) "EastNearlyModel") ∈ ez_TW := ez_tw 660 (by decide +kernel) rfl
theorem q_661 : (Jvm.Cond.instantiable "EastNearlyModel" (28 : Nat)) ∈ ez_TW := ez_tw 661 (by decide +kernel) rfl
theorem q_662 : (Jvm.Cond.methodLink "EastNearlyLaw" (12 : Nat) ({ cls := "EastNearlyModel", name := "<init>", desc := "()V" } : Jvm.MethodName)) ∈ ez_TW := ez_tw 662 (by decide +kernel) rfl
theorem q_663 : (Jvm.Cond.instanceMethod ({ cls := "EastNearlyModel", name := "<init>", desc := "()V" } : Jvm.MethodName)) ∈ ez_TW := ez_tw 663 (by decide +kernel) rfl
theorem q_664 : (Jvm.Cond.code ({ cls := "EastNearlyModel", name := "<init>", desc := "()V" } : Jvm.MethodName) prog_8_method_1_code (2 : Nat) (Option.none : Option Jvm.ClassFile.FieldType)) ∈ ez_TW := ez_tw 664 (by decide +kernel) rfl
theorem q_665 : (Jvm.Cond.methodLink "EastNearlyModel" (1 : Nat) ({ cls := "java/lang/Object", name := "<init>", desc := "()V" } : Jvm.MethodName)) ∈ ez_TW := ez_tw 665 (by decide +kernel) rfl
theorem q_666 : (Jvm.Cond.fieldLink "EastNearlyModel" (64 : Nat) "EastNearlyModel" "thrown" "I") ∈ ez_TW := ez_tw 666 (by decide +kernel) rfl
theorem q_667 : (Jvm.Cond.fieldLink "EastNearlyModel" (7 : Nat) "EastNearlyModel" "edges" "[I") ∈ ez_TW := ez_tw 667 (by decide +kernel) rfl
theorem q_668 : (Jvm.Cond.fieldLink "EastNearlyModel" (13 : Nat) "EastNearlyModel" "switchYear" "I") ∈ ez_TW := ez_tw 668 (by decide +kernel) rfl
theorem q_669 : (Jvm.Cond.fieldLink "EastNearlyModel" (117 : Nat) "EastNearlyModel" "feastDate" "I") ∈ ez_TW := ez_tw 669 (by decide +kernel) rfl
theorem q_670 : (Jvm.Cond.fieldLink "EastNearlyModel" (17 : Nat) "EastNearlyModel" "text" "[I") ∈ ez_TW := ez_tw 670 (by decide +kernel) rfl
theorem q_671 : (Jvm.Cond.fieldLink "EastNearlyModel" (122 : Nat) "EastNearlyModel" "textSize" "I") ∈ ez_TW := ez_tw 671 (by decide +kernel) rfl
theorem q_672 : (Jvm.Cond.fieldLink "EastNearlyModel" (125 : Nat) "EastNearlyModel" "place" "I") ∈ ez_TW := ez_tw 672 (by decide +kernel) rfl
theorem q_673 : (Jvm.Cond.fieldLink "EastNearlyModel" (144 : Nat) "EastNearlyModel" "entries" "I") ∈ ez_TW := ez_tw 673 (by decide +kernel) rfl
theorem q_674 : (Jvm.Cond.fieldLink "EastNearlyModel" (20 : Nat) "EastNearlyModel" "years" "[I") ∈ ez_TW := ez_tw 674 (by decide +kernel) rfl
theorem q_675 : (Jvm.Cond.fieldLink "EastNearlyModel" (23 : Nat) "EastNearlyModel" "values" "[I") ∈ ez_TW := ez_tw 675 (by decide +kernel) rfl
theorem q_676 : (Jvm.Cond.fieldLink "EastNearlyModel" (131 : Nat) "EastNearlyModel" "readMany" "I") ∈ ez_TW := ez_tw 676 (by decide +kernel) rfl
theorem q_677 : (Jvm.Cond.fieldLink "EastNearlyModel" (26 : Nat) "EastNearlyModel" "readYears" "[I") ∈ ez_TW := ez_tw 677 (by decide +kernel) rfl
theorem q_678 : (Jvm.Cond.fieldLink "EastNearlyModel" (29 : Nat) "EastNearlyModel" "readValues" "[I") ∈ ez_TW := ez_tw 678 (by decide +kernel) rfl
theorem q_679 : (Jvm.Cond.fieldLink "EastNearlyModel" (79 : Nat) "EastNearlyModel" "churches" "I") ∈ ez_TW := ez_tw 679 (by decide +kernel) rfl
theorem q_680 : (Jvm.Cond.fieldLink "EastNearlyModel" (32 : Nat) "EastNearlyModel" "of" "[I") ∈ ez_TW := ez_tw 680 (by decide +kernel) rfl
theorem q_681 : (Jvm.Cond.fieldLink "EastNearlyModel" (35 : Nat) "EastNearlyModel" "weights" "[I") ∈ ez_TW := ez_tw 681 (by decide +kernel) rfl
theorem q_682 : (Jvm.Cond.fieldLink "EastNearlyModel" (38 : Nat) "EastNearlyModel" "kept" "[I") ∈ ez_TW := ez_tw 682 (by decide +kernel) rfl
theorem q_683 : (Jvm.Cond.fieldLink "EastNearlyModel" (41 : Nat) "EastNearlyModel" "keptMany" "[I") ∈ ez_TW := ez_tw 683 (by decide +kernel) rfl
theorem q_684 : (Jvm.Cond.fieldLink "EastNearlyModel" (44 : Nat) "EastNearlyModel" "isKept" "[Z") ∈ ez_TW := ez_tw 684 (by decide +kernel) rfl
theorem q_685 : (Jvm.Cond.fieldLink "EastNearlyModel" (202 : Nat) "EastNearlyModel" "saints" "I") ∈ ez_TW := ez_tw 685 (by decide +kernel) rfl
theorem q_686 : (Jvm.Cond.fieldLink "EastNearlyModel" (48 : Nat) "EastNearlyModel" "who" "[I") ∈ ez_TW := ez_tw 686 (by decide +kernel) rfl
theorem q_687 : (Jvm.Cond.fieldLink "EastNearlyModel" (51 : Nat) "EastNearlyModel" "likes" "[I") ∈ ez_TW := ez_tw 687 (by decide +kernel) rfl
theorem q_688 : (Jvm.Cond.fieldLink "EastNearlyModel" (54 : Nat) "EastNearlyModel" "ways" "[J") ∈ ez_TW := ez_tw 688 (by decide +kernel) rfl
theorem q_689 : (Jvm.Cond.fieldLink "EastNearlyModel" (58 : Nat) "EastNearlyModel" "order" "[I") ∈ ez_TW := ez_tw 689 (by decide +kernel) rfl
theorem q_690 : (Jvm.Cond.fieldLink "EastNearlyModel" (61 : Nat) "EastNearlyModel" "turn" "[I") ∈ ez_TW := ez_tw 690 (by decide +kernel) rfl
theorem q_691 : (Jvm.Cond.fieldLink "EastNearlyModel" (234 : Nat) "EastNearlyModel" "spans" "I") ∈ ez_TW := ez_tw 691 (by decide +kernel) rfl
theorem q_692 : (Jvm.Cond.fieldLink "EastNearlyModel" (171 : Nat) "EastNearlyModel" "first" "I") ∈ ez_TW := ez_tw 692 (by decide +kernel) rfl
theorem q_693 : (Jvm.Cond.fieldLink "EastNearlyModel" (237 : Nat) "EastNearlyModel" "last" "I") ∈ ez_TW := ez_tw 693 (by decide +kernel) rfl
theorem q_694 : (Jvm.Cond.lays "EastNearlyModel" "EastNearlyModel" "thrown" "I") ∈ ez_TW := ez_tw 694 (by decide +kernel) rfl
theorem q_696 : (Jvm.Cond.laysFinal "EastNearlyModel" "EastNearlyModel" "edges" "[I") ∈ ez_TW := ez_tw 696 (by decide +kernel) rfl
theorem q_698 : (Jvm.Cond.lays "EastNearlyModel" "EastNearlyModel" "switchYear" "I") ∈ ez_TW := ez_tw 698 (by decide +kernel) rfl
theorem q_700 : (Jvm.Cond.lays "EastNearlyModel" "EastNearlyModel" "feastDate" "I") ∈ ez_TW := ez_tw 700 (by decide +kernel) rfl
theorem q_702 : (Jvm.Cond.laysFinal "EastNearlyModel" "EastNearlyModel" "text" "[I") ∈ ez_TW := ez_tw 702 (by decide +kernel) rfl
theorem q_704 : (Jvm.Cond.lays "EastNearlyModel" "EastNearlyModel" "textSize" "I") ∈ ez_TW := ez_tw 704 (by decide +kernel) rfl
theorem q_706 : (Jvm.Cond.lays "EastNearlyModel" "EastNearlyModel" "place" "I") ∈ ez_TW := ez_tw 706 (by decide +kernel) rfl
theorem q_708 : (Jvm.Cond.lays "EastNearlyModel" "EastNearlyModel" "entries" "I") ∈ ez_TW := ez_tw 708 (by decide +kernel) rfl
theorem q_710 : (Jvm.Cond.laysFinal "EastNearlyModel" "EastNearlyModel" "years" "[I") ∈ ez_TW := ez_tw 710 (by decide +kernel) rfl
theorem q_712 : (Jvm.Cond.laysFinal "EastNearlyModel" "EastNearlyModel" "values" "[I") ∈ ez_TW := ez_tw 712 (by decide +kernel) rfl
theorem q_714 : (Jvm.Cond.lays "EastNearlyModel" "EastNearlyModel" "readMany" "I") ∈ ez_TW := ez_tw 714 (by decide +kernel) rfl
theorem q_716 : (Jvm.Cond.laysFinal "EastNearlyModel" "EastNearlyModel" "readYears" "[I") ∈ ez_TW := ez_tw 716 (by decide +kernel) rfl
theorem q_718 : (Jvm.Cond.laysFinal "EastNearlyModel" "EastNearlyModel" "readValues" "[I") ∈ ez_TW := ez_tw 718 (by decide +kernel) rfl
theorem q_720 : (Jvm.Cond.lays "EastNearlyModel" "EastNearlyModel" "churches" "I") ∈ ez_TW := ez_tw 720 (by decide +kernel) rfl
theorem q_722 : (Jvm.Cond.laysFinal "EastNearlyModel" "EastNearlyModel" "of" "[I") ∈ ez_TW := ez_tw 722 (by decide +kernel) rfl
theorem q_724 : (Jvm.Cond.laysFinal "EastNearlyModel" "EastNearlyModel" "weights" "[I") ∈ ez_TW := ez_tw 724 (by decide +kernel) rfl
theorem q_726 : (Jvm.Cond.laysFinal "EastNearlyModel" "EastNearlyModel" "kept" "[I") ∈ ez_TW := ez_tw 726 (by decide +kernel) rfl
theorem q_728 : (Jvm.Cond.laysFinal "EastNearlyModel" "EastNearlyModel" "keptMany" "[I") ∈ ez_TW := ez_tw 728 (by decide +kernel) rfl
theorem q_730 : (Jvm.Cond.laysFinal "EastNearlyModel" "EastNearlyModel" "isKept" "[Z") ∈ ez_TW := ez_tw 730 (by decide +kernel) rfl
theorem q_732 : (Jvm.Cond.lays "EastNearlyModel" "EastNearlyModel" "saints" "I") ∈ ez_TW := ez_tw 732 (by decide +kernel) rfl
theorem q_734 : (Jvm.Cond.laysFinal "EastNearlyModel" "EastNearlyModel" "who" "[I") ∈ ez_TW := ez_tw 734 (by decide +kernel) rfl
theorem q_736 : (Jvm.Cond.laysFinal "EastNearlyModel" "EastNearlyModel" "likes" "[I") ∈ ez_TW := ez_tw 736 (by decide +kernel) rfl
theorem q_738 : (Jvm.Cond.laysFinal "EastNearlyModel" "EastNearlyModel" "ways" "[J") ∈ ez_TW := ez_tw 738 (by decide +kernel) rfl
theorem q_740 : (Jvm.Cond.laysFinal "EastNearlyModel" "EastNearlyModel" "order" "[I") ∈ ez_TW := ez_tw 740 (by decide +kernel) rfl
theorem q_742 : (Jvm.Cond.laysFinal "EastNearlyModel" "EastNearlyModel" "turn" "[I") ∈ ez_TW := ez_tw 742 (by decide +kernel) rfl
theorem q_744 : (Jvm.Cond.lays "EastNearlyModel" "EastNearlyModel" "spans" "I") ∈ ez_TW := ez_tw 744 (by decide +kernel) rfl
theorem q_746 : (Jvm.Cond.lays "EastNearlyModel" "EastNearlyModel" "first" "I") ∈ ez_TW := ez_tw 746 (by decide +kernel) rfl
theorem q_748 : (Jvm.Cond.lays "EastNearlyModel" "EastNearlyModel" "last" "I") ∈ ez_TW := ez_tw 748 (by decide +kernel) rfl
theorem q_751 : (Jvm.Cond.arrayClass Jvm.ClassFile.FieldType.boolean) ∈ ez_TW := ez_tw 751 (by decide +kernel) rfl
theorem q_752 : (Jvm.Cond.arrayClass Jvm.ClassFile.FieldType.long) ∈ ez_TW := ez_tw 752 (by decide +kernel) rfl
theorem q_753 : (Jvm.Cond.methodLink "EastNearlyLaw" (17 : Nat) ({ cls := "EastNearlyModel", name := "off", desc := "(II)I" } : Jvm.MethodName)) ∈ ez_TW := ez_tw 753 (by decide +kernel) rfl
theorem q_754 : (Jvm.Cond.instanceMethod ({ cls := "EastNearlyModel", name := "off", desc := "(II)I" } : Jvm.MethodName)) ∈ ez_TW := ez_tw 754 (by decide +kernel) rfl
theorem q_755 : (Jvm.Cond.selects "EastNearlyModel" ({ cls := "EastNearlyModel", name := "off", desc := "(II)I" } : Jvm.MethodName) ({ cls := "EastNearlyModel", name := "off", desc := "(II)I" } : Jvm.MethodName)) ∈ ez_TW := ez_tw 755 (by decide +kernel) rfl
theorem q_756 : (Jvm.Cond.code ({ cls := "EastNearlyModel", name := "off", desc := "(II)I" } : Jvm.MethodName) prog_8_method_11_code (3 : Nat) (Option.some Jvm.ClassFile.FieldType.int)) ∈ ez_TW := ez_tw 756 (by decide +kernel) rfl
theorem q_757 : (Jvm.Cond.methodLink "EastNearlyModel" (84 : Nat) ({ cls := "EastNearlyModel", name := "noDegree", desc := "(I)Z" } : Jvm.MethodName)) ∈ ez_TW := ez_tw 757 (by decide +kernel) rfl
theorem q_758 : (Jvm.Cond.static ({ cls := "EastNearlyModel", name := "noDegree", desc := "(I)Z" } : Jvm.MethodName)) ∈ ez_TW := ez_tw 758 (by decide +kernel) rfl
theorem q_759 : (Jvm.Cond.code ({ cls := "EastNearlyModel", name := "noDegree", desc := "(I)Z" } : Jvm.MethodName) prog_8_method_4_code (1 : Nat) (Option.some Jvm.ClassFile.FieldType.boolean)) ∈ ez_TW := ez_tw 759 (by decide +kernel) rfl
theorem q_760 : (Jvm.Cond.constantLong "EastNearlyModel" (67 : Nat) (359 : Int64)) ∈ ez_TW := ez_tw 760 (by decide +kernel) rfl
theorem q_761 : (Jvm.Cond.methodLink "EastNearlyModel" (69 : Nat) ({ cls := "EastNearlyModel", name := "in", desc := "(JJJ)Z" } : Jvm.MethodName)) ∈ ez_TW := ez_tw 761 (by decide +kernel) rfl
theorem q_762 : (Jvm.Cond.static ({ cls := "EastNearlyModel", name := "in", desc := "(JJJ)Z" } : Jvm.MethodName)) ∈ ez_TW := ez_tw 762 (by decide +kernel) rfl
theorem q_763 : (Jvm.Cond.code ({ cls := "EastNearlyModel", name := "in", desc := "(JJJ)Z" } : Jvm.MethodName) prog_8_method_3_code (6 : Nat) (Option.some Jvm.ClassFile.FieldType.boolean)) ∈ ez_TW := ez_tw 763 (by decide +kernel) rfl
theorem q_764 : (Jvm.Cond.methodLink "EastNearlyModel" (88 : Nat) ({ cls := "EastNearlyModel", name := "offOf", desc := "(II)I" } : Jvm.MethodName)) ∈ ez_TW := ez_tw 764 (by decide +kernel) rfl
theorem q_765 : (Jvm.Cond.static ({ cls := "EastNearlyModel", name := "offOf", desc := "(II)I" } : Jvm.MethodName)) ∈ ez_TW := ez_tw 765 (by decide +kernel) rfl
theorem q_766 : (Jvm.Cond.code ({ cls := "EastNearlyModel", name := "offOf", desc := "(II)I" } : Jvm.MethodName) prog_8_method_10_code (3 : Nat) (Option.some Jvm.ClassFile.FieldType.int)) ∈ ez_TW := ez_tw 766 (by decide +kernel) rfl
theorem q_767 : (Jvm.Cond.methodLink "EastNearlyLaw" (22 : Nat) ({ cls := "EastNearlyModel", name := "sun", desc := "(I)I" } : Jvm.MethodName)) ∈ ez_TW := ez_tw 767 (by decide +kernel) rfl
theorem q_768 : (Jvm.Cond.instanceMethod ({ cls := "EastNearlyModel", name := "sun", desc := "(I)I" } : Jvm.MethodName)) ∈ ez_TW := ez_tw 768 (by decide +kernel) rfl
theorem q_769 : (Jvm.Cond.selects "EastNearlyModel" ({ cls := "EastNearlyModel", name := "sun", desc := "(I)I" } : Jvm.MethodName) ({ cls := "EastNearlyModel", name := "sun", desc := "(I)I" } : Jvm.MethodName)) ∈ ez_TW := ez_tw 769 (by decide +kernel) rfl
theorem q_770 : (Jvm.Cond.code ({ cls := "EastNearlyModel", name := "sun", desc := "(I)I" } : Jvm.MethodName) prog_8_method_13_code (2 : Nat) (Option.some Jvm.ClassFile.FieldType.int)) ∈ ez_TW := ez_tw 770 (by decide +kernel) rfl
theorem q_771 : (Jvm.Cond.methodLink "EastNearlyModel" (92 : Nat) ({ cls := "EastNearlyModel", name := "noDay", desc := "(I)Z" } : Jvm.MethodName)) ∈ ez_TW := ez_tw 771 (by decide +kernel) rfl
theorem q_772 : (Jvm.Cond.static ({ cls := "EastNearlyModel", name := "noDay", desc := "(I)Z" } : Jvm.MethodName)) ∈ ez_TW := ez_tw 772 (by decide +kernel) rfl
theorem q_773 : (Jvm.Cond.code ({ cls := "EastNearlyModel", name := "noDay", desc := "(I)Z" } : Jvm.MethodName) prog_8_method_6_code (1 : Nat) (Option.some Jvm.ClassFile.FieldType.boolean)) ∈ ez_TW := ez_tw 773 (by decide +kernel) rfl
theorem q_774 : (Jvm.Cond.constantLong "EastNearlyModel" (75 : Nat) (363 : Int64)) ∈ ez_TW := ez_tw 774 (by decide +kernel) rfl
theorem q_775 : (Jvm.Cond.methodLink "EastNearlyModel" (95 : Nat) ({ cls := "EastNearlyModel", name := "sunOf", desc := "(I)I" } : Jvm.MethodName)) ∈ ez_TW := ez_tw 775 (by decide +kernel) rfl
theorem q_776 : (Jvm.Cond.static ({ cls := "EastNearlyModel", name := "sunOf", desc := "(I)I" } : Jvm.MethodName)) ∈ ez_TW := ez_tw 776 (by decide +kernel) rfl
theorem q_777 : (Jvm.Cond.code ({ cls := "EastNearlyModel", name := "sunOf", desc := "(I)I" } : Jvm.MethodName) prog_8_method_12_code (3 : Nat) (Option.some Jvm.ClassFile.FieldType.int)) ∈ ez_TW := ez_tw 777 (by decide +kernel) rfl
theorem q_778 : (Jvm.Cond.methodLink "EastNearlyLaw" (27 : Nat) ({ cls := "EastNearlyModel", name := "edge", desc := "(III)I" } : Jvm.MethodName)) ∈ ez_TW := ez_tw 778 (by decide +kernel) rfl
theorem q_779 : (Jvm.Cond.instanceMethod ({ cls := "EastNearlyModel", name := "edge", desc := "(III)I" } : Jvm.MethodName)) ∈ ez_TW := ez_tw 779 (by decide +kernel) rfl
theorem q_780 : (Jvm.Cond.selects "EastNearlyModel" ({ cls := "EastNearlyModel", name := "edge", desc := "(III)I" } : Jvm.MethodName) ({ cls := "EastNearlyModel", name := "edge", desc := "(III)I" } : Jvm.MethodName)) ∈ ez_TW := ez_tw 780 (by decide +kernel) rfl
theorem q_781 : (Jvm.Cond.code ({ cls := "EastNearlyModel", name := "edge", desc := "(III)I" } : Jvm.MethodName) prog_8_method_14_code (5 : Nat) (Option.some Jvm.ClassFile.FieldType.int)) ∈ ez_TW := ez_tw 781 (by decide +kernel) rfl
theorem q_782 : (Jvm.Cond.methodLink "EastNearlyModel" (99 : Nat) ({ cls := "EastNearlyModel", name := "noLand", desc := "(I)Z" } : Jvm.MethodName)) ∈ ez_TW := ez_tw 782 (by decide +kernel) rfl
theorem q_783 : (Jvm.Cond.static ({ cls := "EastNearlyModel", name := "noLand", desc := "(I)Z" } : Jvm.MethodName)) ∈ ez_TW := ez_tw 783 (by decide +kernel) rfl
theorem q_784 : (Jvm.Cond.code ({ cls := "EastNearlyModel", name := "noLand", desc := "(I)Z" } : Jvm.MethodName) prog_8_method_7_code (1 : Nat) (Option.some Jvm.ClassFile.FieldType.boolean)) ∈ ez_TW := ez_tw 784 (by decide +kernel) rfl
theorem q_785 : (Jvm.Cond.constantLong "EastNearlyModel" (77 : Nat) (3 : Int64)) ∈ ez_TW := ez_tw 785 (by decide +kernel) rfl
theorem q_786 : (Jvm.Cond.constantLong "EastNearlyModel" (102 : Nat) (35 : Int64)) ∈ ez_TW := ez_tw 786 (by decide +kernel) rfl
theorem q_787 : (Jvm.Cond.constantLong "EastNearlyModel" (104 : Nat) (9 : Int64)) ∈ ez_TW := ez_tw 787 (by decide +kernel) rfl
theorem q_788 : (Jvm.Cond.methodLink "EastNearlyLaw" (31 : Nat) ({ cls := "EastNearlyModel", name := "rise", desc := "(II)I" } : Jvm.MethodName)) ∈ ez_TW := ez_tw 788 (by decide +kernel) rfl
theorem q_789 : (Jvm.Cond.instanceMethod ({ cls := "EastNearlyModel", name := "rise", desc := "(II)I" } : Jvm.MethodName)) ∈ ez_TW := ez_tw 789 (by decide +kernel) rfl
theorem q_790 : (Jvm.Cond.selects "EastNearlyModel" ({ cls := "EastNearlyModel", name := "rise", desc := "(II)I" } : Jvm.MethodName) ({ cls := "EastNearlyModel", name := "rise", desc := "(II)I" } : Jvm.MethodName)) ∈ ez_TW := ez_tw 790 (by decide +kernel) rfl
theorem q_791 : (Jvm.Cond.code ({ cls := "EastNearlyModel", name := "rise", desc := "(II)I" } : Jvm.MethodName) prog_8_method_16_code (3 : Nat) (Option.some Jvm.ClassFile.FieldType.int)) ∈ ez_TW := ez_tw 791 (by decide +kernel) rfl
theorem q_792 : (Jvm.Cond.methodLink "EastNearlyModel" (106 : Nat) ({ cls := "EastNearlyModel", name := "riseOf", desc := "(II)I" } : Jvm.MethodName)) ∈ ez_TW := ez_tw 792 (by decide +kernel) rfl
theorem q_794 : (Jvm.Cond.instanceMethod ({ cls := "EastNearlyModel", name := "riseOf", desc := "(II)I" } : Jvm.MethodName)) ∈ ez_TW := ez_tw 794 (by decide +kernel) rfl
theorem q_795 : (Jvm.Cond.code ({ cls := "EastNearlyModel", name := "riseOf", desc := "(II)I" } : Jvm.MethodName) prog_8_method_15_code (5 : Nat) (Option.some Jvm.ClassFile.FieldType.int)) ∈ ez_TW := ez_tw 795 (by decide +kernel) rfl
theorem q_796 : (Jvm.Cond.methodLink "EastNearlyLaw" (35 : Nat) ({ cls := "EastNearlyModel", name := "switched", desc := "(I)I" } : Jvm.MethodName)) ∈ ez_TW := ez_tw 796 (by decide +kernel) rfl
theorem q_797 : (Jvm.Cond.instanceMethod ({ cls := "EastNearlyModel", name := "switched", desc := "(I)I" } : Jvm.MethodName)) ∈ ez_TW := ez_tw 797 (by decide +kernel) rfl
theorem q_798 : (Jvm.Cond.selects "EastNearlyModel" ({ cls := "EastNearlyModel", name := "switched", desc := "(I)I" } : Jvm.MethodName) ({ cls := "EastNearlyModel", name := "switched", desc := "(I)I" } : Jvm.MethodName)) ∈ ez_TW := ez_tw 798 (by decide +kernel) rfl
theorem q_799 : (Jvm.Cond.code ({ cls := "EastNearlyModel", name := "switched", desc := "(I)I" } : Jvm.MethodName) prog_8_method_17_code (3 : Nat) (Option.some Jvm.ClassFile.FieldType.int)) ∈ ez_TW := ez_tw 799 (by decide +kernel) rfl
theorem q_800 : (Jvm.Cond.constantLong "EastNearlyModel" (109 : Nat) (600 : Int64)) ∈ ez_TW := ez_tw 800 (by decide +kernel) rfl
theorem q_801 : (Jvm.Cond.methodLink "EastNearlyLaw" (39 : Nat) ({ cls := "EastNearlyModel", name := "day", desc := "(II)I" } : Jvm.MethodName)) ∈ ez_TW := ez_tw 801 (by decide +kernel) rfl
theorem q_802 : (Jvm.Cond.instanceMethod ({ cls := "EastNearlyModel", name := "day", desc := "(II)I" } : Jvm.MethodName)) ∈ ez_TW := ez_tw 802 (by decide +kernel) rfl
theorem q_803 : (Jvm.Cond.selects "EastNearlyModel" ({ cls := "EastNearlyModel", name := "day", desc := "(II)I" } : Jvm.MethodName) ({ cls := "EastNearlyModel", name := "day", desc := "(II)I" } : Jvm.MethodName)) ∈ ez_TW := ez_tw 803 (by decide +kernel) rfl
theorem q_804 : (Jvm.Cond.code ({ cls := "EastNearlyModel", name := "day", desc := "(II)I" } : Jvm.MethodName) prog_8_method_19_code (3 : Nat) (Option.some Jvm.ClassFile.FieldType.int)) ∈ ez_TW := ez_tw 804 (by decide +kernel) rfl
theorem q_805 : (Jvm.Cond.methodLink "EastNearlyModel" (111 : Nat) ({ cls := "EastNearlyModel", name := "noYear", desc := "(I)Z" } : Jvm.MethodName)) ∈ ez_TW := ez_tw 805 (by decide +kernel) rfl
theorem q_806 : (Jvm.Cond.static ({ cls := "EastNearlyModel", name := "noYear", desc := "(I)Z" } : Jvm.MethodName)) ∈ ez_TW := ez_tw 806 (by decide +kernel) rfl
theorem q_807 : (Jvm.Cond.code ({ cls := "EastNearlyModel", name := "noYear", desc := "(I)Z" } : Jvm.MethodName) prog_8_method_5_code (1 : Nat) (Option.some Jvm.ClassFile.FieldType.boolean)) ∈ ez_TW := ez_tw 807 (by decide +kernel) rfl
theorem q_808 : (Jvm.Cond.constantLong "EastNearlyModel" (73 : Nat) (599 : Int64)) ∈ ez_TW := ez_tw 808 (by decide +kernel) rfl
theorem q_809 : (Jvm.Cond.methodLink "EastNearlyModel" (114 : Nat) ({ cls := "EastNearlyModel", name := "dayOf", desc := "(II)I" } : Jvm.MethodName)) ∈ ez_TW := ez_tw 809 (by decide +kernel) rfl
theorem q_811 : (Jvm.Cond.instanceMethod ({ cls := "EastNearlyModel", name := "dayOf", desc := "(II)I" } : Jvm.MethodName)) ∈ ez_TW := ez_tw 811 (by decide +kernel) rfl
theorem q_812 : (Jvm.Cond.code ({ cls := "EastNearlyModel", name := "dayOf", desc := "(II)I" } : Jvm.MethodName) prog_8_method_18_code (3 : Nat) (Option.some Jvm.ClassFile.FieldType.int)) ∈ ez_TW := ez_tw 812 (by decide +kernel) rfl
theorem q_813 : (Jvm.Cond.methodLink "EastNearlyLaw" (43 : Nat) ({ cls := "EastNearlyModel", name := "feast", desc := "(I)I" } : Jvm.MethodName)) ∈ ez_TW := ez_tw 813 (by decide +kernel) rfl
theorem q_814 : (Jvm.Cond.instanceMethod ({ cls := "EastNearlyModel", name := "feast", desc := "(I)I" } : Jvm.MethodName)) ∈ ez_TW := ez_tw 814 (by decide +kernel) rfl
theorem q_815 : (Jvm.Cond.selects "EastNearlyModel" ({ cls := "EastNearlyModel", name := "feast", desc := "(I)I" } : Jvm.MethodName) ({ cls := "EastNearlyModel", name := "feast", desc := "(I)I" } : Jvm.MethodName)) ∈ ez_TW := ez_tw 815 (by decide +kernel) rfl
theorem q_816 : (Jvm.Cond.code ({ cls := "EastNearlyModel", name := "feast", desc := "(I)I" } : Jvm.MethodName) prog_8_method_20_code (3 : Nat) (Option.some Jvm.ClassFile.FieldType.int)) ∈ ez_TW := ez_tw 816 (by decide +kernel) rfl
theorem q_817 : (Jvm.Cond.methodLink "EastNearlyLaw" (50 : Nat) ({ cls := "EastNearlyModel", name := "write", desc := "(IJ)I" } : Jvm.MethodName)) ∈ ez_TW := ez_tw 817 (by decide +kernel) rfl
theorem q_818 : (Jvm.Cond.instanceMethod ({ cls := "EastNearlyModel", name := "write", desc := "(IJ)I" } : Jvm.MethodName)) ∈ ez_TW := ez_tw 818 (by decide +kernel) rfl
theorem q_819 : (Jvm.Cond.selects "EastNearlyModel" ({ cls := "EastNearlyModel", name := "write", desc := "(IJ)I" } : Jvm.MethodName) ({ cls := "EastNearlyModel", name := "write", desc := "(IJ)I" } : Jvm.MethodName)) ∈ ez_TW := ez_tw 819 (by decide +kernel) rfl
theorem q_820 : (Jvm.Cond.code ({ cls := "EastNearlyModel", name := "write", desc := "(IJ)I" } : Jvm.MethodName) prog_8_method_21_code (5 : Nat) (Option.some Jvm.ClassFile.FieldType.int)) ∈ ez_TW := ez_tw 820 (by decide +kernel) rfl
theorem q_821 : (Jvm.Cond.constantLong "EastNearlyModel" (120 : Nat) (8 : Int64)) ∈ ez_TW := ez_tw 821 (by decide +kernel) rfl
theorem q_822 : (Jvm.Cond.methodLink "EastNearlyLaw" (55 : Nat) ({ cls := "EastNearlyModel", name := "wipe", desc := "()I" } : Jvm.MethodName)) ∈ ez_TW := ez_tw 822 (by decide +kernel) rfl
theorem q_823 : (Jvm.Cond.instanceMethod ({ cls := "EastNearlyModel", name := "wipe", desc := "()I" } : Jvm.MethodName)) ∈ ez_TW := ez_tw 823 (by decide +kernel) rfl
theorem q_824 : (Jvm.Cond.selects "EastNearlyModel" ({ cls := "EastNearlyModel", name := "wipe", desc := "()I" } : Jvm.MethodName) ({ cls := "EastNearlyModel", name := "wipe", desc := "()I" } : Jvm.MethodName)) ∈ ez_TW := ez_tw 824 (by decide +kernel) rfl
theorem q_825 : (Jvm.Cond.code ({ cls := "EastNearlyModel", name := "wipe", desc := "()I" } : Jvm.MethodName) prog_8_method_22_code (2 : Nat) (Option.some Jvm.ClassFile.FieldType.int)) ∈ ez_TW := ez_tw 825 (by decide +kernel) rfl
theorem q_826 : (Jvm.Cond.methodLink "EastNearlyLaw" (59 : Nat) ({ cls := "EastNearlyModel", name := "fault", desc := "()I" } : Jvm.MethodName)) ∈ ez_TW := ez_tw 826 (by decide +kernel) rfl
theorem q_827 : (Jvm.Cond.instanceMethod ({ cls := "EastNearlyModel", name := "fault", desc := "()I" } : Jvm.MethodName)) ∈ ez_TW := ez_tw 827 (by decide +kernel) rfl
theorem q_828 : (Jvm.Cond.selects "EastNearlyModel" ({ cls := "EastNearlyModel", name := "fault", desc := "()I" } : Jvm.MethodName) ({ cls := "EastNearlyModel", name := "fault", desc := "()I" } : Jvm.MethodName)) ∈ ez_TW := ez_tw 828 (by decide +kernel) rfl
theorem q_829 : (Jvm.Cond.code ({ cls := "EastNearlyModel", name := "fault", desc := "()I" } : Jvm.MethodName) prog_8_method_27_code (1 : Nat) (Option.some Jvm.ClassFile.FieldType.int)) ∈ ez_TW := ez_tw 829 (by decide +kernel) rfl
theorem q_830 : (Jvm.Cond.methodLink "EastNearlyModel" (140 : Nat) ({ cls := "EastNearlyModel", name := "readBook", desc := "()I" } : Jvm.MethodName)) ∈ ez_TW := ez_tw 830 (by decide +kernel) rfl
theorem q_832 : (Jvm.Cond.instanceMethod ({ cls := "EastNearlyModel", name := "readBook", desc := "()I" } : Jvm.MethodName)) ∈ ez_TW := ez_tw 832 (by decide +kernel) rfl
theorem q_833 : (Jvm.Cond.code ({ cls := "EastNearlyModel", name := "readBook", desc := "()I" } : Jvm.MethodName) prog_8_method_26_code (7 : Nat) (Option.some Jvm.ClassFile.FieldType.int)) ∈ ez_TW := ez_tw 833 (by decide +kernel) rfl
theorem q_834 : (Jvm.Cond.methodLink "EastNearlyModel" (134 : Nat) ({ cls := "EastNearlyModel", name := "readYear", desc := "(I)I" } : Jvm.MethodName)) ∈ ez_TW := ez_tw 834 (by decide +kernel) rfl
theorem q_836 : (Jvm.Cond.instanceMethod ({ cls := "EastNearlyModel", name := "readYear", desc := "(I)I" } : Jvm.MethodName)) ∈ ez_TW := ez_tw 836 (by decide +kernel) rfl
theorem q_837 : (Jvm.Cond.code ({ cls := "EastNearlyModel", name := "readYear", desc := "(I)I" } : Jvm.MethodName) prog_8_method_25_code (8 : Nat) (Option.some Jvm.ClassFile.FieldType.int)) ∈ ez_TW := ez_tw 837 (by decide +kernel) rfl
theorem q_838 : (Jvm.Cond.methodLink "EastNearlyModel" (128 : Nat) ({ cls := "EastNearlyModel", name := "figure", desc := "(II)I" } : Jvm.MethodName)) ∈ ez_TW := ez_tw 838 (by decide +kernel) rfl
theorem q_840 : (Jvm.Cond.instanceMethod ({ cls := "EastNearlyModel", name := "figure", desc := "(II)I" } : Jvm.MethodName)) ∈ ez_TW := ez_tw 840 (by decide +kernel) rfl
theorem q_841 : (Jvm.Cond.code ({ cls := "EastNearlyModel", name := "figure", desc := "(II)I" } : Jvm.MethodName) prog_8_method_24_code (3 : Nat) (Option.some Jvm.ClassFile.FieldType.int)) ∈ ez_TW := ez_tw 841 (by decide +kernel) rfl
theorem q_842 : (Jvm.Cond.methodLink "EastNearlyModel" (137 : Nat) ({ cls := "EastNearlyModel", name := "sign", desc := "(I)Z" } : Jvm.MethodName)) ∈ ez_TW := ez_tw 842 (by decide +kernel) rfl
theorem q_844 : (Jvm.Cond.instanceMethod ({ cls := "EastNearlyModel", name := "sign", desc := "(I)Z" } : Jvm.MethodName)) ∈ ez_TW := ez_tw 844 (by decide +kernel) rfl
theorem q_845 : (Jvm.Cond.code ({ cls := "EastNearlyModel", name := "sign", desc := "(I)Z" } : Jvm.MethodName) prog_8_method_23_code (3 : Nat) (Option.some Jvm.ClassFile.FieldType.boolean)) ∈ ez_TW := ez_tw 845 (by decide +kernel) rfl
theorem q_846 : (Jvm.Cond.methodLink "EastNearlyLaw" (63 : Nat) ({ cls := "EastNearlyModel", name := "book", desc := "()I" } : Jvm.MethodName)) ∈ ez_TW := ez_tw 846 (by decide +kernel) rfl
theorem q_847 : (Jvm.Cond.instanceMethod ({ cls := "EastNearlyModel", name := "book", desc := "()I" } : Jvm.MethodName)) ∈ ez_TW := ez_tw 847 (by decide +kernel) rfl
theorem q_848 : (Jvm.Cond.selects "EastNearlyModel" ({ cls := "EastNearlyModel", name := "book", desc := "()I" } : Jvm.MethodName) ({ cls := "EastNearlyModel", name := "book", desc := "()I" } : Jvm.MethodName)) ∈ ez_TW := ez_tw 848 (by decide +kernel) rfl
theorem q_849 : (Jvm.Cond.code ({ cls := "EastNearlyModel", name := "book", desc := "()I" } : Jvm.MethodName) prog_8_method_28_code (2 : Nat) (Option.some Jvm.ClassFile.FieldType.int)) ∈ ez_TW := ez_tw 849 (by decide +kernel) rfl
theorem q_850 : (Jvm.Cond.methodLink "EastNearlyLaw" (67 : Nat) ({ cls := "EastNearlyModel", name := "needle", desc := "(I)I" } : Jvm.MethodName)) ∈ ez_TW := ez_tw 850 (by decide +kernel) rfl
theorem q_851 : (Jvm.Cond.instanceMethod ({ cls := "EastNearlyModel", name := "needle", desc := "(I)I" } : Jvm.MethodName)) ∈ ez_TW := ez_tw 851 (by decide +kernel) rfl
theorem q_852 : (Jvm.Cond.selects "EastNearlyModel" ({ cls := "EastNearlyModel", name := "needle", desc := "(I)I" } : Jvm.MethodName) ({ cls := "EastNearlyModel", name := "needle", desc := "(I)I" } : Jvm.MethodName)) ∈ ez_TW := ez_tw 852 (by decide +kernel) rfl
theorem q_853 : (Jvm.Cond.code ({ cls := "EastNearlyModel", name := "needle", desc := "(I)I" } : Jvm.MethodName) prog_8_method_30_code (2 : Nat) (Option.some Jvm.ClassFile.FieldType.int)) ∈ ez_TW := ez_tw 853 (by decide +kernel) rfl
theorem q_854 : (Jvm.Cond.methodLink "EastNearlyModel" (147 : Nat) ({ cls := "EastNearlyModel", name := "needleOf", desc := "(I)I" } : Jvm.MethodName)) ∈ ez_TW := ez_tw 854 (by decide +kernel) rfl
theorem q_856 : (Jvm.Cond.instanceMethod ({ cls := "EastNearlyModel", name := "needleOf", desc := "(I)I" } : Jvm.MethodName)) ∈ ez_TW := ez_tw 856 (by decide +kernel) rfl
theorem q_857 : (Jvm.Cond.code ({ cls := "EastNearlyModel", name := "needleOf", desc := "(I)I" } : Jvm.MethodName) prog_8_method_29_code (3 : Nat) (Option.some Jvm.ClassFile.FieldType.int)) ∈ ez_TW := ez_tw 857 (by decide +kernel) rfl
theorem q_858 : (Jvm.Cond.methodLink "EastNearlyLaw" (72 : Nat) ({ cls := "EastNearlyModel", name := "church", desc := "(IIIII)I" } : Jvm.MethodName)) ∈ ez_TW := ez_tw 858 (by decide +kernel) rfl
theorem q_859 : (Jvm.Cond.instanceMethod ({ cls := "EastNearlyModel", name := "church", desc := "(IIIII)I" } : Jvm.MethodName)) ∈ ez_TW := ez_tw 859 (by decide +kernel) rfl
theorem q_860 : (Jvm.Cond.selects "EastNearlyModel" ({ cls := "EastNearlyModel", name := "church", desc := "(IIIII)I" } : Jvm.MethodName) ({ cls := "EastNearlyModel", name := "church", desc := "(IIIII)I" } : Jvm.MethodName)) ∈ ez_TW := ez_tw 860 (by decide +kernel) rfl
theorem q_861 : (Jvm.Cond.code ({ cls := "EastNearlyModel", name := "church", desc := "(IIIII)I" } : Jvm.MethodName) prog_8_method_32_code (8 : Nat) (Option.some Jvm.ClassFile.FieldType.int)) ∈ ez_TW := ez_tw 861 (by decide +kernel) rfl
theorem q_862 : (Jvm.Cond.methodLink "EastNearlyModel" (150 : Nat) ({ cls := "EastNearlyModel", name := "noSpan", desc := "(II)Z" } : Jvm.MethodName)) ∈ ez_TW := ez_tw 862 (by decide +kernel) rfl
theorem q_863 : (Jvm.Cond.static ({ cls := "EastNearlyModel", name := "noSpan", desc := "(II)Z" } : Jvm.MethodName)) ∈ ez_TW := ez_tw 863 (by decide +kernel) rfl
theorem q_864 : (Jvm.Cond.code ({ cls := "EastNearlyModel", name := "noSpan", desc := "(II)Z" } : Jvm.MethodName) prog_8_method_31_code (2 : Nat) (Option.some Jvm.ClassFile.FieldType.boolean)) ∈ ez_TW := ez_tw 864 (by decide +kernel) rfl
theorem q_865 : (Jvm.Cond.methodLink "EastNearlyLaw" (76 : Nat) ({ cls := "EastNearlyModel", name := "tell", desc := "(III)I" } : Jvm.MethodName)) ∈ ez_TW := ez_tw 865 (by decide +kernel) rfl
theorem q_866 : (Jvm.Cond.instanceMethod ({ cls := "EastNearlyModel", name := "tell", desc := "(III)I" } : Jvm.MethodName)) ∈ ez_TW := ez_tw 866 (by decide +kernel) rfl
theorem q_867 : (Jvm.Cond.selects "EastNearlyModel" ({ cls := "EastNearlyModel", name := "tell", desc := "(III)I" } : Jvm.MethodName) ({ cls := "EastNearlyModel", name := "tell", desc := "(III)I" } : Jvm.MethodName)) ∈ ez_TW := ez_tw 867 (by decide +kernel) rfl
theorem q_868 : (Jvm.Cond.code ({ cls := "EastNearlyModel", name := "tell", desc := "(III)I" } : Jvm.MethodName) prog_8_method_33_code (6 : Nat) (Option.some Jvm.ClassFile.FieldType.int)) ∈ ez_TW := ez_tw 868 (by decide +kernel) rfl
theorem q_869 : (Jvm.Cond.methodLink "EastNearlyModel" (154 : Nat) ({ cls := "EastNearlyModel", name := "noChurch", desc := "(I)Z" } : Jvm.MethodName)) ∈ ez_TW := ez_tw 869 (by decide +kernel) rfl
theorem q_871 : (Jvm.Cond.instanceMethod ({ cls := "EastNearlyModel", name := "noChurch", desc := "(I)Z" } : Jvm.MethodName)) ∈ ez_TW := ez_tw 871 (by decide +kernel) rfl
theorem q_872 : (Jvm.Cond.code ({ cls := "EastNearlyModel", name := "noChurch", desc := "(I)Z" } : Jvm.MethodName) prog_8_method_8_code (2 : Nat) (Option.some Jvm.ClassFile.FieldType.boolean)) ∈ ez_TW := ez_tw 872 (by decide +kernel) rfl
theorem q_873 : (Jvm.Cond.constantLong "EastNearlyModel" (157 : Nat) (2 : Int64)) ∈ ez_TW := ez_tw 873 (by decide +kernel) rfl
theorem q_874 : (Jvm.Cond.methodLink "EastNearlyLaw" (80 : Nat) ({ cls := "EastNearlyModel", name := "about", desc := "(II)I" } : Jvm.MethodName)) ∈ ez_TW := ez_tw 874 (by decide +kernel) rfl
theorem q_875 : (Jvm.Cond.instanceMethod ({ cls := "EastNearlyModel", name := "about", desc := "(II)I" } : Jvm.MethodName)) ∈ ez_TW := ez_tw 875 (by decide +kernel) rfl
theorem q_876 : (Jvm.Cond.selects "EastNearlyModel" ({ cls := "EastNearlyModel", name := "about", desc := "(II)I" } : Jvm.MethodName) ({ cls := "EastNearlyModel", name := "about", desc := "(II)I" } : Jvm.MethodName)) ∈ ez_TW := ez_tw 876 (by decide +kernel) rfl
theorem q_877 : (Jvm.Cond.code ({ cls := "EastNearlyModel", name := "about", desc := "(II)I" } : Jvm.MethodName) prog_8_method_34_code (3 : Nat) (Option.some Jvm.ClassFile.FieldType.int)) ∈ ez_TW := ez_tw 877 (by decide +kernel) rfl
theorem q_878 : (Jvm.Cond.constantLong "EastNearlyModel" (159 : Nat) (10 : Int64)) ∈ ez_TW := ez_tw 878 (by decide +kernel) rfl
theorem q_879 : (Jvm.Cond.methodLink "EastNearlyLaw" (84 : Nat) ({ cls := "EastNearlyModel", name := "line", desc := "(III)I" } : Jvm.MethodName)) ∈ ez_TW := ez_tw 879 (by decide +kernel) rfl
theorem q_880 : (Jvm.Cond.instanceMethod ({ cls := "EastNearlyModel", name := "line", desc := "(III)I" } : Jvm.MethodName)) ∈ ez_TW := ez_tw 880 (by decide +kernel) rfl
theorem q_881 : (Jvm.Cond.selects "EastNearlyModel" ({ cls := "EastNearlyModel", name := "line", desc := "(III)I" } : Jvm.MethodName) ({ cls := "EastNearlyModel", name := "line", desc := "(III)I" } : Jvm.MethodName)) ∈ ez_TW := ez_tw 881 (by decide +kernel) rfl
theorem q_882 : (Jvm.Cond.code ({ cls := "EastNearlyModel", name := "line", desc := "(III)I" } : Jvm.MethodName) prog_8_method_37_code (4 : Nat) (Option.some Jvm.ClassFile.FieldType.int)) ∈ ez_TW := ez_tw 882 (by decide +kernel) rfl
theorem q_883 : (Jvm.Cond.methodLink "EastNearlyModel" (165 : Nat) ({ cls := "EastNearlyModel", name := "noRule", desc := "(I)Z" } : Jvm.MethodName)) ∈ ez_TW := ez_tw 883 (by decide +kernel) rfl
theorem q_884 : (Jvm.Cond.static ({ cls := "EastNearlyModel", name := "noRule", desc := "(I)Z" } : Jvm.MethodName)) ∈ ez_TW := ez_tw 884 (by decide +kernel) rfl
theorem q_885 : (Jvm.Cond.code ({ cls := "EastNearlyModel", name := "noRule", desc := "(I)Z" } : Jvm.MethodName) prog_8_method_9_code (1 : Nat) (Option.some Jvm.ClassFile.FieldType.boolean)) ∈ ez_TW := ez_tw 885 (by decide +kernel) rfl
theorem q_886 : (Jvm.Cond.constantLong "EastNearlyModel" (82 : Nat) (5 : Int64)) ∈ ez_TW := ez_tw 886 (by decide +kernel) rfl
theorem q_887 : (Jvm.Cond.methodLink "EastNearlyModel" (168 : Nat) ({ cls := "EastNearlyModel", name := "lineOf", desc := "(III)I" } : Jvm.MethodName)) ∈ ez_TW := ez_tw 887 (by decide +kernel) rfl
theorem q_889 : (Jvm.Cond.instanceMethod ({ cls := "EastNearlyModel", name := "lineOf", desc := "(III)I" } : Jvm.MethodName)) ∈ ez_TW := ez_tw 889 (by decide +kernel) rfl
theorem q_890 : (Jvm.Cond.code ({ cls := "EastNearlyModel", name := "lineOf", desc := "(III)I" } : Jvm.MethodName) prog_8_method_36_code (5 : Nat) (Option.some Jvm.ClassFile.FieldType.int)) ∈ ez_TW := ez_tw 890 (by decide +kernel) rfl
theorem q_891 : (Jvm.Cond.methodLink "EastNearlyModel" (161 : Nat) ({ cls := "EastNearlyModel", name := "riseBy", desc := "(III)I" } : Jvm.MethodName)) ∈ ez_TW := ez_tw 891 (by decide +kernel) rfl
theorem q_893 : (Jvm.Cond.instanceMethod ({ cls := "EastNearlyModel", name := "riseBy", desc := "(III)I" } : Jvm.MethodName)) ∈ ez_TW := ez_tw 893 (by decide +kernel) rfl
theorem q_894 : (Jvm.Cond.code ({ cls := "EastNearlyModel", name := "riseBy", desc := "(III)I" } : Jvm.MethodName) prog_8_method_35_code (4 : Nat) (Option.some Jvm.ClassFile.FieldType.int)) ∈ ez_TW := ez_tw 894 (by decide +kernel) rfl
theorem q_895 : (Jvm.Cond.methodLink "EastNearlyLaw" (88 : Nat) ({ cls := "EastNearlyModel", name := "hits", desc := "(II)I" } : Jvm.MethodName)) ∈ ez_TW := ez_tw 895 (by decide +kernel) rfl
theorem q_896 : (Jvm.Cond.instanceMethod ({ cls := "EastNearlyModel", name := "hits", desc := "(II)I" } : Jvm.MethodName)) ∈ ez_TW := ez_tw 896 (by decide +kernel) rfl
theorem q_897 : (Jvm.Cond.selects "EastNearlyModel" ({ cls := "EastNearlyModel", name := "hits", desc := "(II)I" } : Jvm.MethodName) ({ cls := "EastNearlyModel", name := "hits", desc := "(II)I" } : Jvm.MethodName)) ∈ ez_TW := ez_tw 897 (by decide +kernel) rfl
theorem q_898 : (Jvm.Cond.code ({ cls := "EastNearlyModel", name := "hits", desc := "(II)I" } : Jvm.MethodName) prog_8_method_41_code (3 : Nat) (Option.some Jvm.ClassFile.FieldType.int)) ∈ ez_TW := ez_tw 898 (by decide +kernel) rfl
theorem q_899 : (Jvm.Cond.methodLink "EastNearlyModel" (182 : Nat) ({ cls := "EastNearlyModel", name := "hitsIn", desc := "(II)I" } : Jvm.MethodName)) ∈ ez_TW := ez_tw 899 (by decide +kernel) rfl
theorem q_901 : (Jvm.Cond.instanceMethod ({ cls := "EastNearlyModel", name := "hitsIn", desc := "(II)I" } : Jvm.MethodName)) ∈ ez_TW := ez_tw 901 (by decide +kernel) rfl
theorem q_902 : (Jvm.Cond.code ({ cls := "EastNearlyModel", name := "hitsIn", desc := "(II)I" } : Jvm.MethodName) prog_8_method_40_code (3 : Nat) (Option.some Jvm.ClassFile.FieldType.int)) ∈ ez_TW := ez_tw 902 (by decide +kernel) rfl
theorem q_903 : (Jvm.Cond.methodLink "EastNearlyModel" (178 : Nat) ({ cls := "EastNearlyModel", name := "hitsOf", desc := "(IIIIII)I" } : Jvm.MethodName)) ∈ ez_TW := ez_tw 903 (by decide +kernel) rfl
theorem q_905 : (Jvm.Cond.instanceMethod ({ cls := "EastNearlyModel", name := "hitsOf", desc := "(IIIIII)I" } : Jvm.MethodName)) ∈ ez_TW := ez_tw 905 (by decide +kernel) rfl
theorem q_906 : (Jvm.Cond.code ({ cls := "EastNearlyModel", name := "hitsOf", desc := "(IIIIII)I" } : Jvm.MethodName) prog_8_method_39_code (9 : Nat) (Option.some Jvm.ClassFile.FieldType.int)) ∈ ez_TW := ez_tw 906 (by decide +kernel) rfl
theorem q_907 : (Jvm.Cond.methodLink "EastNearlyModel" (174 : Nat) ({ cls := "EastNearlyModel", name := "isNear", desc := "(III)Z" } : Jvm.MethodName)) ∈ ez_TW := ez_tw 907 (by decide +kernel) rfl
theorem q_909 : (Jvm.Cond.instanceMethod ({ cls := "EastNearlyModel", name := "isNear", desc := "(III)Z" } : Jvm.MethodName)) ∈ ez_TW := ez_tw 909 (by decide +kernel) rfl
theorem q_910 : (Jvm.Cond.code ({ cls := "EastNearlyModel", name := "isNear", desc := "(III)Z" } : Jvm.MethodName) prog_8_method_38_code (4 : Nat) (Option.some Jvm.ClassFile.FieldType.boolean)) ∈ ez_TW := ez_tw 910 (by decide +kernel) rfl
theorem q_911 : (Jvm.Cond.methodLink "EastNearlyLaw" (92 : Nat) ({ cls := "EastNearlyModel", name := "hit", desc := "(III)I" } : Jvm.MethodName)) ∈ ez_TW := ez_tw 911 (by decide +kernel) rfl
theorem q_912 : (Jvm.Cond.instanceMethod ({ cls := "EastNearlyModel", name := "hit", desc := "(III)I" } : Jvm.MethodName)) ∈ ez_TW := ez_tw 912 (by decide +kernel) rfl
theorem q_913 : (Jvm.Cond.selects "EastNearlyModel" ({ cls := "EastNearlyModel", name := "hit", desc := "(III)I" } : Jvm.MethodName) ({ cls := "EastNearlyModel", name := "hit", desc := "(III)I" } : Jvm.MethodName)) ∈ ez_TW := ez_tw 913 (by decide +kernel) rfl
theorem q_914 : (Jvm.Cond.code ({ cls := "EastNearlyModel", name := "hit", desc := "(III)I" } : Jvm.MethodName) prog_8_method_42_code (4 : Nat) (Option.some Jvm.ClassFile.FieldType.int)) ∈ ez_TW := ez_tw 914 (by decide +kernel) rfl
theorem q_915 : (Jvm.Cond.methodLink "EastNearlyLaw" (96 : Nat) ({ cls := "EastNearlyModel", name := "explain", desc := "(I)I" } : Jvm.MethodName)) ∈ ez_TW := ez_tw 915 (by decide +kernel) rfl
theorem q_916 : (Jvm.Cond.instanceMethod ({ cls := "EastNearlyModel", name := "explain", desc := "(I)I" } : Jvm.MethodName)) ∈ ez_TW := ez_tw 916 (by decide +kernel) rfl
theorem q_917 : (Jvm.Cond.selects "EastNearlyModel" ({ cls := "EastNearlyModel", name := "explain", desc := "(I)I" } : Jvm.MethodName) ({ cls := "EastNearlyModel", name := "explain", desc := "(I)I" } : Jvm.MethodName)) ∈ ez_TW := ez_tw 917 (by decide +kernel) rfl
theorem q_918 : (Jvm.Cond.code ({ cls := "EastNearlyModel", name := "explain", desc := "(I)I" } : Jvm.MethodName) prog_8_method_44_code (2 : Nat) (Option.some Jvm.ClassFile.FieldType.int)) ∈ ez_TW := ez_tw 918 (by decide +kernel) rfl
theorem q_919 : (Jvm.Cond.methodLink "EastNearlyModel" (185 : Nat) ({ cls := "EastNearlyModel", name := "explained", desc := "(I)I" } : Jvm.MethodName)) ∈ ez_TW := ez_tw 919 (by decide +kernel) rfl
theorem q_921 : (Jvm.Cond.instanceMethod ({ cls := "EastNearlyModel", name := "explained", desc := "(I)I" } : Jvm.MethodName)) ∈ ez_TW := ez_tw 921 (by decide +kernel) rfl
theorem q_922 : (Jvm.Cond.code ({ cls := "EastNearlyModel", name := "explained", desc := "(I)I" } : Jvm.MethodName) prog_8_method_43_code (4 : Nat) (Option.some Jvm.ClassFile.FieldType.int)) ∈ ez_TW := ez_tw 922 (by decide +kernel) rfl
theorem q_923 : (Jvm.Cond.methodLink "EastNearlyLaw" (101 : Nat) ({ cls := "EastNearlyModel", name := "chance", desc := "(IIZ)J" } : Jvm.MethodName)) ∈ ez_TW := ez_tw 923 (by decide +kernel) rfl
theorem q_924 : (Jvm.Cond.instanceMethod ({ cls := "EastNearlyModel", name := "chance", desc := "(IIZ)J" } : Jvm.MethodName)) ∈ ez_TW := ez_tw 924 (by decide +kernel) rfl
theorem q_925 : (Jvm.Cond.selects "EastNearlyModel" ({ cls := "EastNearlyModel", name := "chance", desc := "(IIZ)J" } : Jvm.MethodName) ({ cls := "EastNearlyModel", name := "chance", desc := "(IIZ)J" } : Jvm.MethodName)) ∈ ez_TW := ez_tw 925 (by decide +kernel) rfl
theorem q_926 : (Jvm.Cond.code ({ cls := "EastNearlyModel", name := "chance", desc := "(IIZ)J" } : Jvm.MethodName) prog_8_method_46_code (5 : Nat) (Option.some Jvm.ClassFile.FieldType.long)) ∈ ez_TW := ez_tw 926 (by decide +kernel) rfl
theorem q_927 : (Jvm.Cond.constantLong "EastNearlyModel" (188 : Nat) (-1 : Int64)) ∈ ez_TW := ez_tw 927 (by decide +kernel) rfl
theorem q_928 : (Jvm.Cond.methodLink "EastNearlyModel" (190 : Nat) ({ cls := "EastNearlyModel", name := "told", desc := "(JJZ)J" } : Jvm.MethodName)) ∈ ez_TW := ez_tw 928 (by decide +kernel) rfl
theorem q_929 : (Jvm.Cond.static ({ cls := "EastNearlyModel", name := "told", desc := "(JJZ)J" } : Jvm.MethodName)) ∈ ez_TW := ez_tw 929 (by decide +kernel) rfl
theorem q_930 : (Jvm.Cond.code ({ cls := "EastNearlyModel", name := "told", desc := "(JJZ)J" } : Jvm.MethodName) prog_8_method_45_code (11 : Nat) (Option.some Jvm.ClassFile.FieldType.long)) ∈ ez_TW := ez_tw 930 (by decide +kernel) rfl
theorem q_931 : (Jvm.Cond.methodLink "EastNearlyLaw" (105 : Nat) ({ cls := "EastNearlyModel", name := "weight", desc := "(II)I" } : Jvm.MethodName)) ∈ ez_TW := ez_tw 931 (by decide +kernel) rfl
theorem q_932 : (Jvm.Cond.instanceMethod ({ cls := "EastNearlyModel", name := "weight", desc := "(II)I" } : Jvm.MethodName)) ∈ ez_TW := ez_tw 932 (by decide +kernel) rfl
theorem q_933 : (Jvm.Cond.selects "EastNearlyModel" ({ cls := "EastNearlyModel", name := "weight", desc := "(II)I" } : Jvm.MethodName) ({ cls := "EastNearlyModel", name := "weight", desc := "(II)I" } : Jvm.MethodName)) ∈ ez_TW := ez_tw 933 (by decide +kernel) rfl
theorem q_934 : (Jvm.Cond.code ({ cls := "EastNearlyModel", name := "weight", desc := "(II)I" } : Jvm.MethodName) prog_8_method_47_code (4 : Nat) (Option.some Jvm.ClassFile.FieldType.int)) ∈ ez_TW := ez_tw 934 (by decide +kernel) rfl
theorem q_935 : (Jvm.Cond.methodLink "EastNearlyLaw" (109 : Nat) ({ cls := "EastNearlyModel", name := "odds", desc := "(IIZ)J" } : Jvm.MethodName)) ∈ ez_TW := ez_tw 935 (by decide +kernel) rfl
theorem q_936 : (Jvm.Cond.instanceMethod ({ cls := "EastNearlyModel", name := "odds", desc := "(IIZ)J" } : Jvm.MethodName)) ∈ ez_TW := ez_tw 936 (by decide +kernel) rfl
theorem q_937 : (Jvm.Cond.selects "EastNearlyModel" ({ cls := "EastNearlyModel", name := "odds", desc := "(IIZ)J" } : Jvm.MethodName) ({ cls := "EastNearlyModel", name := "odds", desc := "(IIZ)J" } : Jvm.MethodName)) ∈ ez_TW := ez_tw 937 (by decide +kernel) rfl
theorem q_938 : (Jvm.Cond.code ({ cls := "EastNearlyModel", name := "odds", desc := "(IIZ)J" } : Jvm.MethodName) prog_8_method_49_code (5 : Nat) (Option.some Jvm.ClassFile.FieldType.long)) ∈ ez_TW := ez_tw 938 (by decide +kernel) rfl
theorem q_939 : (Jvm.Cond.methodLink "EastNearlyModel" (194 : Nat) ({ cls := "EastNearlyModel", name := "worth", desc := "(I)I" } : Jvm.MethodName)) ∈ ez_TW := ez_tw 939 (by decide +kernel) rfl
theorem q_941 : (Jvm.Cond.instanceMethod ({ cls := "EastNearlyModel", name := "worth", desc := "(I)I" } : Jvm.MethodName)) ∈ ez_TW := ez_tw 941 (by decide +kernel) rfl
theorem q_942 : (Jvm.Cond.code ({ cls := "EastNearlyModel", name := "worth", desc := "(I)I" } : Jvm.MethodName) prog_8_method_48_code (4 : Nat) (Option.some Jvm.ClassFile.FieldType.int)) ∈ ez_TW := ez_tw 942 (by decide +kernel) rfl
theorem q_943 : (Jvm.Cond.constantLong "EastNearlyModel" (197 : Nat) (-3 : Int64)) ∈ ez_TW := ez_tw 943 (by decide +kernel) rfl
theorem q_944 : (Jvm.Cond.methodLink "EastNearlyLaw" (113 : Nat) ({ cls := "EastNearlyModel", name := "best", desc := "(I)I" } : Jvm.MethodName)) ∈ ez_TW := ez_tw 944 (by decide +kernel) rfl
theorem q_945 : (Jvm.Cond.instanceMethod ({ cls := "EastNearlyModel", name := "best", desc := "(I)I" } : Jvm.MethodName)) ∈ ez_TW := ez_tw 945 (by decide +kernel) rfl
theorem q_946 : (Jvm.Cond.selects "EastNearlyModel" ({ cls := "EastNearlyModel", name := "best", desc := "(I)I" } : Jvm.MethodName) ({ cls := "EastNearlyModel", name := "best", desc := "(I)I" } : Jvm.MethodName)) ∈ ez_TW := ez_tw 946 (by decide +kernel) rfl
theorem q_947 : (Jvm.Cond.code ({ cls := "EastNearlyModel", name := "best", desc := "(I)I" } : Jvm.MethodName) prog_8_method_50_code (6 : Nat) (Option.some Jvm.ClassFile.FieldType.int)) ∈ ez_TW := ez_tw 947 (by decide +kernel) rfl
theorem q_948 : (Jvm.Cond.methodLink "EastNearlyLaw" (117 : Nat) ({ cls := "EastNearlyModel", name := "fewest", desc := "()I" } : Jvm.MethodName)) ∈ ez_TW := ez_tw 948 (by decide +kernel) rfl
theorem q_949 : (Jvm.Cond.instanceMethod ({ cls := "EastNearlyModel", name := "fewest", desc := "()I" } : Jvm.MethodName)) ∈ ez_TW := ez_tw 949 (by decide +kernel) rfl
theorem q_950 : (Jvm.Cond.selects "EastNearlyModel" ({ cls := "EastNearlyModel", name := "fewest", desc := "()I" } : Jvm.MethodName) ({ cls := "EastNearlyModel", name := "fewest", desc := "()I" } : Jvm.MethodName)) ∈ ez_TW := ez_tw 950 (by decide +kernel) rfl
theorem q_951 : (Jvm.Cond.code ({ cls := "EastNearlyModel", name := "fewest", desc := "()I" } : Jvm.MethodName) prog_8_method_52_code (6 : Nat) (Option.some Jvm.ClassFile.FieldType.int)) ∈ ez_TW := ez_tw 951 (by decide +kernel) rfl
theorem q_952 : (Jvm.Cond.methodLink "EastNearlyModel" (199 : Nat) ({ cls := "EastNearlyModel", name := "bits", desc := "(I)I" } : Jvm.MethodName)) ∈ ez_TW := ez_tw 952 (by decide +kernel) rfl
theorem q_953 : (Jvm.Cond.static ({ cls := "EastNearlyModel", name := "bits", desc := "(I)I" } : Jvm.MethodName)) ∈ ez_TW := ez_tw 953 (by decide +kernel) rfl
theorem q_954 : (Jvm.Cond.code ({ cls := "EastNearlyModel", name := "bits", desc := "(I)I" } : Jvm.MethodName) prog_8_method_51_code (3 : Nat) (Option.some Jvm.ClassFile.FieldType.int)) ∈ ez_TW := ez_tw 954 (by decide +kernel) rfl
theorem q_955 : (Jvm.Cond.methodLink "EastNearlyLaw" (121 : Nat) ({ cls := "EastNearlyModel", name := "look", desc := "()I" } : Jvm.MethodName)) ∈ ez_TW := ez_tw 955 (by decide +kernel) rfl
theorem q_956 : (Jvm.Cond.instanceMethod ({ cls := "EastNearlyModel", name := "look", desc := "()I" } : Jvm.MethodName)) ∈ ez_TW := ez_tw 956 (by decide +kernel) rfl
theorem q_957 : (Jvm.Cond.selects "EastNearlyModel" ({ cls := "EastNearlyModel", name := "look", desc := "()I" } : Jvm.MethodName) ({ cls := "EastNearlyModel", name := "look", desc := "()I" } : Jvm.MethodName)) ∈ ez_TW := ez_tw 957 (by decide +kernel) rfl
theorem q_958 : (Jvm.Cond.code ({ cls := "EastNearlyModel", name := "look", desc := "()I" } : Jvm.MethodName) prog_8_method_53_code (5 : Nat) (Option.some Jvm.ClassFile.FieldType.int)) ∈ ez_TW := ez_tw 958 (by decide +kernel) rfl
theorem q_959 : (Jvm.Cond.methodLink "EastNearlyLaw" (125 : Nat) ({ cls := "EastNearlyModel", name := "days", desc := "(I)I" } : Jvm.MethodName)) ∈ ez_TW := ez_tw 959 (by decide +kernel) rfl
theorem q_960 : (Jvm.Cond.instanceMethod ({ cls := "EastNearlyModel", name := "days", desc := "(I)I" } : Jvm.MethodName)) ∈ ez_TW := ez_tw 960 (by decide +kernel) rfl
theorem q_961 : (Jvm.Cond.selects "EastNearlyModel" ({ cls := "EastNearlyModel", name := "days", desc := "(I)I" } : Jvm.MethodName) ({ cls := "EastNearlyModel", name := "days", desc := "(I)I" } : Jvm.MethodName)) ∈ ez_TW := ez_tw 961 (by decide +kernel) rfl
theorem q_962 : (Jvm.Cond.code ({ cls := "EastNearlyModel", name := "days", desc := "(I)I" } : Jvm.MethodName) prog_8_method_54_code (4 : Nat) (Option.some Jvm.ClassFile.FieldType.int)) ∈ ez_TW := ez_tw 962 (by decide +kernel) rfl
theorem q_963 : (Jvm.Cond.methodLink "EastNearlyLaw" (129 : Nat) ({ cls := "EastNearlyModel", name := "on", desc := "(II)I" } : Jvm.MethodName)) ∈ ez_TW := ez_tw 963 (by decide +kernel) rfl
theorem q_964 : (Jvm.Cond.instanceMethod ({ cls := "EastNearlyModel", name := "on", desc := "(II)I" } : Jvm.MethodName)) ∈ ez_TW := ez_tw 964 (by decide +kernel) rfl
theorem q_965 : (Jvm.Cond.selects "EastNearlyModel" ({ cls := "EastNearlyModel", name := "on", desc := "(II)I" } : Jvm.MethodName) ({ cls := "EastNearlyModel", name := "on", desc := "(II)I" } : Jvm.MethodName)) ∈ ez_TW := ez_tw 965 (by decide +kernel) rfl
theorem q_966 : (Jvm.Cond.code ({ cls := "EastNearlyModel", name := "on", desc := "(II)I" } : Jvm.MethodName) prog_8_method_55_code (3 : Nat) (Option.some Jvm.ClassFile.FieldType.int)) ∈ ez_TW := ez_tw 966 (by decide +kernel) rfl
theorem q_967 : (Jvm.Cond.methodLink "EastNearlyLaw" (133 : Nat) ({ cls := "EastNearlyModel", name := "own", desc := "()I" } : Jvm.MethodName)) ∈ ez_TW := ez_tw 967 (by decide +kernel) rfl
theorem q_968 : (Jvm.Cond.instanceMethod ({ cls := "EastNearlyModel", name := "own", desc := "()I" } : Jvm.MethodName)) ∈ ez_TW := ez_tw 968 (by decide +kernel) rfl
theorem q_969 : (Jvm.Cond.selects "EastNearlyModel" ({ cls := "EastNearlyModel", name := "own", desc := "()I" } : Jvm.MethodName) ({ cls := "EastNearlyModel", name := "own", desc := "()I" } : Jvm.MethodName)) ∈ ez_TW := ez_tw 969 (by decide +kernel) rfl
theorem q_970 : (Jvm.Cond.code ({ cls := "EastNearlyModel", name := "own", desc := "()I" } : Jvm.MethodName) prog_8_method_58_code (1 : Nat) (Option.some Jvm.ClassFile.FieldType.int)) ∈ ez_TW := ez_tw 970 (by decide +kernel) rfl
theorem q_971 : (Jvm.Cond.methodLink "EastNearlyModel" (208 : Nat) ({ cls := "EastNearlyModel", name := "laySaints", desc := "()I" } : Jvm.MethodName)) ∈ ez_TW := ez_tw 971 (by decide +kernel) rfl
theorem q_973 : (Jvm.Cond.instanceMethod ({ cls := "EastNearlyModel", name := "laySaints", desc := "()I" } : Jvm.MethodName)) ∈ ez_TW := ez_tw 973 (by decide +kernel) rfl
theorem q_974 : (Jvm.Cond.code ({ cls := "EastNearlyModel", name := "laySaints", desc := "()I" } : Jvm.MethodName) prog_8_method_57_code (4 : Nat) (Option.some Jvm.ClassFile.FieldType.int)) ∈ ez_TW := ez_tw 974 (by decide +kernel) rfl
theorem q_975 : (Jvm.Cond.methodLink "EastNearlyModel" (205 : Nat) ({ cls := "EastNearlyModel", name := "isBy", desc := "(II)Z" } : Jvm.MethodName)) ∈ ez_TW := ez_tw 975 (by decide +kernel) rfl
theorem q_977 : (Jvm.Cond.instanceMethod ({ cls := "EastNearlyModel", name := "isBy", desc := "(II)Z" } : Jvm.MethodName)) ∈ ez_TW := ez_tw 977 (by decide +kernel) rfl
theorem q_978 : (Jvm.Cond.code ({ cls := "EastNearlyModel", name := "isBy", desc := "(II)Z" } : Jvm.MethodName) prog_8_method_56_code (5 : Nat) (Option.some Jvm.ClassFile.FieldType.boolean)) ∈ ez_TW := ez_tw 978 (by decide +kernel) rfl
theorem q_979 : (Jvm.Cond.methodLink "EastNearlyLaw" (138 : Nat) ({ cls := "EastNearlyModel", name := "deals", desc := "(I)J" } : Jvm.MethodName)) ∈ ez_TW := ez_tw 979 (by decide +kernel) rfl
theorem q_980 : (Jvm.Cond.instanceMethod ({ cls := "EastNearlyModel", name := "deals", desc := "(I)J" } : Jvm.MethodName)) ∈ ez_TW := ez_tw 980 (by decide +kernel) rfl
theorem q_981 : (Jvm.Cond.selects "EastNearlyModel" ({ cls := "EastNearlyModel", name := "deals", desc := "(I)J" } : Jvm.MethodName) ({ cls := "EastNearlyModel", name := "deals", desc := "(I)J" } : Jvm.MethodName)) ∈ ez_TW := ez_tw 981 (by decide +kernel) rfl
theorem q_982 : (Jvm.Cond.code ({ cls := "EastNearlyModel", name := "deals", desc := "(I)J" } : Jvm.MethodName) prog_8_method_61_code (2 : Nat) (Option.some Jvm.ClassFile.FieldType.long)) ∈ ez_TW := ez_tw 982 (by decide +kernel) rfl
theorem q_983 : (Jvm.Cond.constantLong "EastNearlyModel" (211 : Nat) (-2 : Int64)) ∈ ez_TW := ez_tw 983 (by decide +kernel) rfl
theorem q_984 : (Jvm.Cond.methodLink "EastNearlyModel" (213 : Nat) ({ cls := "EastNearlyModel", name := "layDeals", desc := "()V" } : Jvm.MethodName)) ∈ ez_TW := ez_tw 984 (by decide +kernel) rfl
theorem q_986 : (Jvm.Cond.instanceMethod ({ cls := "EastNearlyModel", name := "layDeals", desc := "()V" } : Jvm.MethodName)) ∈ ez_TW := ez_tw 986 (by decide +kernel) rfl
theorem q_987 : (Jvm.Cond.code ({ cls := "EastNearlyModel", name := "layDeals", desc := "()V" } : Jvm.MethodName) prog_8_method_59_code (7 : Nat) (Option.none : Option Jvm.ClassFile.FieldType)) ∈ ez_TW := ez_tw 987 (by decide +kernel) rfl
theorem q_988 : (Jvm.Cond.methodLink "EastNearlyModel" (216 : Nat) ({ cls := "EastNearlyModel", name := "dealsOf", desc := "(I)J" } : Jvm.MethodName)) ∈ ez_TW := ez_tw 988 (by decide +kernel) rfl
theorem q_990 : (Jvm.Cond.instanceMethod ({ cls := "EastNearlyModel", name := "dealsOf", desc := "(I)J" } : Jvm.MethodName)) ∈ ez_TW := ez_tw 990 (by decide +kernel) rfl
theorem q_991 : (Jvm.Cond.code ({ cls := "EastNearlyModel", name := "dealsOf", desc := "(I)J" } : Jvm.MethodName) prog_8_method_60_code (2 : Nat) (Option.some Jvm.ClassFile.FieldType.long)) ∈ ez_TW := ez_tw 991 (by decide +kernel) rfl
theorem q_992 : (Jvm.Cond.methodLink "EastNearlyLaw" (143 : Nat) ({ cls := "EastNearlyModel", name := "dealt", desc := "(Z)J" } : Jvm.MethodName)) ∈ ez_TW := ez_tw 992 (by decide +kernel) rfl
theorem q_993 : (Jvm.Cond.instanceMethod ({ cls := "EastNearlyModel", name := "dealt", desc := "(Z)J" } : Jvm.MethodName)) ∈ ez_TW := ez_tw 993 (by decide +kernel) rfl
theorem q_994 : (Jvm.Cond.selects "EastNearlyModel" ({ cls := "EastNearlyModel", name := "dealt", desc := "(Z)J" } : Jvm.MethodName) ({ cls := "EastNearlyModel", name := "dealt", desc := "(Z)J" } : Jvm.MethodName)) ∈ ez_TW := ez_tw 994 (by decide +kernel) rfl
theorem q_995 : (Jvm.Cond.code ({ cls := "EastNearlyModel", name := "dealt", desc := "(Z)J" } : Jvm.MethodName) prog_8_method_62_code (8 : Nat) (Option.some Jvm.ClassFile.FieldType.long)) ∈ ez_TW := ez_tw 995 (by decide +kernel) rfl
theorem q_996 : (Jvm.Cond.methodLink "EastNearlyLaw" (147 : Nat) ({ cls := "EastNearlyModel", name := "goes", desc := "()I" } : Jvm.MethodName)) ∈ ez_TW := ez_tw 996 (by decide +kernel) rfl
theorem q_997 : (Jvm.Cond.instanceMethod ({ cls := "EastNearlyModel", name := "goes", desc := "()I" } : Jvm.MethodName)) ∈ ez_TW := ez_tw 997 (by decide +kernel) rfl
theorem q_998 : (Jvm.Cond.selects "EastNearlyModel" ({ cls := "EastNearlyModel", name := "goes", desc := "()I" } : Jvm.MethodName) ({ cls := "EastNearlyModel", name := "goes", desc := "()I" } : Jvm.MethodName)) ∈ ez_TW := ez_tw 998 (by decide +kernel) rfl
theorem q_999 : (Jvm.Cond.code ({ cls := "EastNearlyModel", name := "goes", desc := "()I" } : Jvm.MethodName) prog_8_method_67_code (1 : Nat) (Option.some Jvm.ClassFile.FieldType.int)) ∈ ez_TW := ez_tw 999 (by decide +kernel) rfl
theorem q_1000 : (Jvm.Cond.methodLink "EastNearlyModel" (229 : Nat) ({ cls := "EastNearlyModel", name := "goesNow", desc := "()I" } : Jvm.MethodName)) ∈ ez_TW := ez_tw 1000 (by decide +kernel) rfl
theorem q_1002 : (Jvm.Cond.instanceMethod ({ cls := "EastNearlyModel", name := "goesNow", desc := "()I" } : Jvm.MethodName)) ∈ ez_TW := ez_tw 1002 (by decide +kernel) rfl
theorem q_1003 : (Jvm.Cond.code ({ cls := "EastNearlyModel", name := "goesNow", desc := "()I" } : Jvm.MethodName) prog_8_method_66_code (2 : Nat) (Option.some Jvm.ClassFile.FieldType.int)) ∈ ez_TW := ez_tw 1003 (by decide +kernel) rfl
theorem q_1004 : (Jvm.Cond.methodLink "EastNearlyModel" (226 : Nat) ({ cls := "EastNearlyModel", name := "goesBy", desc := "()I" } : Jvm.MethodName)) ∈ ez_TW := ez_tw 1004 (by decide +kernel) rfl
theorem q_1006 : (Jvm.Cond.instanceMethod ({ cls := "EastNearlyModel", name := "goesBy", desc := "()I" } : Jvm.MethodName)) ∈ ez_TW := ez_tw 1006 (by decide +kernel) rfl
theorem q_1007 : (Jvm.Cond.code ({ cls := "EastNearlyModel", name := "goesBy", desc := "()I" } : Jvm.MethodName) prog_8_method_65_code (6 : Nat) (Option.some Jvm.ClassFile.FieldType.int)) ∈ ez_TW := ez_tw 1007 (by decide +kernel) rfl
theorem q_1008 : (Jvm.Cond.methodLink "EastNearlyModel" (220 : Nat) ({ cls := "EastNearlyModel", name := "middle", desc := "(I)I" } : Jvm.MethodName)) ∈ ez_TW := ez_tw 1008 (by decide +kernel) rfl
theorem q_1010 : (Jvm.Cond.instanceMethod ({ cls := "EastNearlyModel", name := "middle", desc := "(I)I" } : Jvm.MethodName)) ∈ ez_TW := ez_tw 1010 (by decide +kernel) rfl
theorem q_1011 : (Jvm.Cond.code ({ cls := "EastNearlyModel", name := "middle", desc := "(I)I" } : Jvm.MethodName) prog_8_method_63_code (2 : Nat) (Option.some Jvm.ClassFile.FieldType.int)) ∈ ez_TW := ez_tw 1011 (by decide +kernel) rfl
theorem q_1012 : (Jvm.Cond.methodLink "EastNearlyModel" (223 : Nat) ({ cls := "EastNearlyModel", name := "aside", desc := "(I)I" } : Jvm.MethodName)) ∈ ez_TW := ez_tw 1012 (by decide +kernel) rfl
theorem q_1014 : (Jvm.Cond.instanceMethod ({ cls := "EastNearlyModel", name := "aside", desc := "(I)I" } : Jvm.MethodName)) ∈ ez_TW := ez_tw 1014 (by decide +kernel) rfl
theorem q_1015 : (Jvm.Cond.code ({ cls := "EastNearlyModel", name := "aside", desc := "(I)I" } : Jvm.MethodName) prog_8_method_64_code (3 : Nat) (Option.some Jvm.ClassFile.FieldType.int)) ∈ ez_TW := ez_tw 1015 (by decide +kernel) rfl
theorem q_1016 : (Jvm.Cond.methodLink "EastNearlyLaw" (151 : Nat) ({ cls := "EastNearlyModel", name := "luck", desc := "(Z)J" } : Jvm.MethodName)) ∈ ez_TW := ez_tw 1016 (by decide +kernel) rfl
theorem q_1017 : (Jvm.Cond.instanceMethod ({ cls := "EastNearlyModel", name := "luck", desc := "(Z)J" } : Jvm.MethodName)) ∈ ez_TW := ez_tw 1017 (by decide +kernel) rfl
theorem q_1018 : (Jvm.Cond.selects "EastNearlyModel" ({ cls := "EastNearlyModel", name := "luck", desc := "(Z)J" } : Jvm.MethodName) ({ cls := "EastNearlyModel", name := "luck", desc := "(Z)J" } : Jvm.MethodName)) ∈ ez_TW := ez_tw 1018 (by decide +kernel) rfl
theorem q_1019 : (Jvm.Cond.code ({ cls := "EastNearlyModel", name := "luck", desc := "(Z)J" } : Jvm.MethodName) prog_8_method_68_code (10 : Nat) (Option.some Jvm.ClassFile.FieldType.long)) ∈ ez_TW := ez_tw 1019 (by decide +kernel) rfl
theorem q_1020 : (Jvm.Cond.constantLong "EastNearlyModel" (232 : Nat) (6 : Int64)) ∈ ez_TW := ez_tw 1020 (by decide +kernel) rfl
theorem q_1021 : (Jvm.Cond.methodLink "EastNearlyLaw" (155 : Nat) ({ cls := "EastNearlyModel", name := "dated", desc := "(II)I" } : Jvm.MethodName)) ∈ ez_TW := ez_tw 1021 (by decide +kernel) rfl
theorem q_1022 : (Jvm.Cond.instanceMethod ({ cls := "EastNearlyModel", name := "dated", desc := "(II)I" } : Jvm.MethodName)) ∈ ez_TW := ez_tw 1022 (by decide +kernel) rfl
theorem q_1023 : (Jvm.Cond.selects "EastNearlyModel" ({ cls := "EastNearlyModel", name := "dated", desc := "(II)I" } : Jvm.MethodName) ({ cls := "EastNearlyModel", name := "dated", desc := "(II)I" } : Jvm.MethodName)) ∈ ez_TW := ez_tw 1023 (by decide +kernel) rfl
theorem q_1024 : (Jvm.Cond.code ({ cls := "EastNearlyModel", name := "dated", desc := "(II)I" } : Jvm.MethodName) prog_8_method_69_code (5 : Nat) (Option.some Jvm.ClassFile.FieldType.int)) ∈ ez_TW := ez_tw 1024 (by decide +kernel) rfl
theorem q_1025 : (Jvm.Cond.methodLink "EastNearlyLaw" (159 : Nat) ({ cls := "EastNearlyModel", name := "master", desc := "(II)I" } : Jvm.MethodName)) ∈ ez_TW := ez_tw 1025 (by decide +kernel) rfl
theorem q_1026 : (Jvm.Cond.instanceMethod ({ cls := "EastNearlyModel", name := "master", desc := "(II)I" } : Jvm.MethodName)) ∈ ez_TW := ez_tw 1026 (by decide +kernel) rfl
theorem q_1027 : (Jvm.Cond.selects "EastNearlyModel" ({ cls := "EastNearlyModel", name := "master", desc := "(II)I" } : Jvm.MethodName) ({ cls := "EastNearlyModel", name := "master", desc := "(II)I" } : Jvm.MethodName)) ∈ ez_TW := ez_tw 1027 (by decide +kernel) rfl
theorem q_1028 : (Jvm.Cond.code ({ cls := "EastNearlyModel", name := "master", desc := "(II)I" } : Jvm.MethodName) prog_8_method_70_code (9 : Nat) (Option.some Jvm.ClassFile.FieldType.int)) ∈ ez_TW := ez_tw 1028 (by decide +kernel) rfl
theorem q_1029 : (Jvm.Cond.constantLong "EastNearlyModel" (240 : Nat) (180 : Int64)) ∈ ez_TW := ez_tw 1029 (by decide +kernel) rfl
theorem q_1030 : (Jvm.Cond.methodLink "EastNearlyLaw" (164 : Nat) ({ cls := "EastNearlyModel", name := "choir", desc := "(IIII)I" } : Jvm.MethodName)) ∈ ez_TW := ez_tw 1030 (by decide +kernel) rfl
theorem q_1031 : (Jvm.Cond.instanceMethod ({ cls := "EastNearlyModel", name := "choir", desc := "(IIII)I" } : Jvm.MethodName)) ∈ ez_TW := ez_tw 1031 (by decide +kernel) rfl
theorem q_1032 : (Jvm.Cond.selects "EastNearlyModel" ({ cls := "EastNearlyModel", name := "choir", desc := "(IIII)I" } : Jvm.MethodName) ({ cls := "EastNearlyModel", name := "choir", desc := "(IIII)I" } : Jvm.MethodName)) ∈ ez_TW := ez_tw 1032 (by decide +kernel) rfl
theorem q_1033 : (Jvm.Cond.code ({ cls := "EastNearlyModel", name := "choir", desc := "(IIII)I" } : Jvm.MethodName) prog_8_method_71_code (6 : Nat) (Option.some Jvm.ClassFile.FieldType.int)) ∈ ez_TW := ez_tw 1033 (by decide +kernel) rfl
theorem q_1034 : (Jvm.Cond.methodLink "EastNearlyLaw" (168 : Nat) ({ cls := "EastNearlyModel", name := "bends", desc := "(I)I" } : Jvm.MethodName)) ∈ ez_TW := ez_tw 1034 (by decide +kernel) rfl
theorem q_1035 : (Jvm.Cond.instanceMethod ({ cls := "EastNearlyModel", name := "bends", desc := "(I)I" } : Jvm.MethodName)) ∈ ez_TW := ez_tw 1035 (by decide +kernel) rfl
theorem q_1036 : (Jvm.Cond.selects "EastNearlyModel" ({ cls := "EastNearlyModel", name := "bends", desc := "(I)I" } : Jvm.MethodName) ({ cls := "EastNearlyModel", name := "bends", desc := "(I)I" } : Jvm.MethodName)) ∈ ez_TW := ez_tw 1036 (by decide +kernel) rfl
theorem q_1037 : (Jvm.Cond.code ({ cls := "EastNearlyModel", name := "bends", desc := "(I)I" } : Jvm.MethodName) prog_8_method_72_code (2 : Nat) (Option.some Jvm.ClassFile.FieldType.int)) ∈ ez_TW := ez_tw 1037 (by decide +kernel) rfl
theorem q_1038 : (Jvm.Cond.methodLink "EastNearlyLaw" (172 : Nat) ({ cls := "EastNearlyModel", name := "why", desc := "(I)I" } : Jvm.MethodName)) ∈ ez_TW := ez_tw 1038 (by decide +kernel) rfl
theorem q_1039 : (Jvm.Cond.instanceMethod ({ cls := "EastNearlyModel", name := "why", desc := "(I)I" } : Jvm.MethodName)) ∈ ez_TW := ez_tw 1039 (by decide +kernel) rfl
theorem q_1040 : (Jvm.Cond.selects "EastNearlyModel" ({ cls := "EastNearlyModel", name := "why", desc := "(I)I" } : Jvm.MethodName) ({ cls := "EastNearlyModel", name := "why", desc := "(I)I" } : Jvm.MethodName)) ∈ ez_TW := ez_tw 1040 (by decide +kernel) rfl
theorem q_1041 : (Jvm.Cond.code ({ cls := "EastNearlyModel", name := "why", desc := "(I)I" } : Jvm.MethodName) prog_8_method_73_code (3 : Nat) (Option.some Jvm.ClassFile.FieldType.int)) ∈ ez_TW := ez_tw 1041 (by decide +kernel) rfl
theorem q_1042 : (Jvm.Cond.methodLink "EastNearlyLaw" (176 : Nat) ({ cls := "EastNearlyModel", name := "when", desc := "(III)I" } : Jvm.MethodName)) ∈ ez_TW := ez_tw 1042 (by decide +kernel) rfl
theorem q_1043 : (Jvm.Cond.instanceMethod ({ cls := "EastNearlyModel", name := "when", desc := "(III)I" } : Jvm.MethodName)) ∈ ez_TW := ez_tw 1043 (by decide +kernel) rfl
theorem q_1044 : (Jvm.Cond.selects "EastNearlyModel" ({ cls := "EastNearlyModel", name := "when", desc := "(III)I" } : Jvm.MethodName) ({ cls := "EastNearlyModel", name := "when", desc := "(III)I" } : Jvm.MethodName)) ∈ ez_TW := ez_tw 1044 (by decide +kernel) rfl
theorem q_1045 : (Jvm.Cond.code ({ cls := "EastNearlyModel", name := "when", desc := "(III)I" } : Jvm.MethodName) prog_8_method_75_code (4 : Nat) (Option.some Jvm.ClassFile.FieldType.int)) ∈ ez_TW := ez_tw 1045 (by decide +kernel) rfl
theorem q_1046 : (Jvm.Cond.methodLink "EastNearlyModel" (242 : Nat) ({ cls := "EastNearlyModel", name := "whenOf", desc := "(III)I" } : Jvm.MethodName)) ∈ ez_TW := ez_tw 1046 (by decide +kernel) rfl
theorem q_1048 : (Jvm.Cond.instanceMethod ({ cls := "EastNearlyModel", name := "whenOf", desc := "(III)I" } : Jvm.MethodName)) ∈ ez_TW := ez_tw 1048 (by decide +kernel) rfl
theorem q_1049 : (Jvm.Cond.code ({ cls := "EastNearlyModel", name := "whenOf", desc := "(III)I" } : Jvm.MethodName) prog_8_method_74_code (7 : Nat) (Option.some Jvm.ClassFile.FieldType.int)) ∈ ez_TW := ez_tw 1049 (by decide +kernel) rfl
theorem q_1050 : (Jvm.Cond.methodLink "EastNearlyLaw" (180 : Nat) ({ cls := "EastNearlyModel", name := "since", desc := "(II)I" } : Jvm.MethodName)) ∈ ez_TW := ez_tw 1050 (by decide +kernel) rfl
theorem q_1051 : (Jvm.Cond.instanceMethod ({ cls := "EastNearlyModel", name := "since", desc := "(II)I" } : Jvm.MethodName)) ∈ ez_TW := ez_tw 1051 (by decide +kernel) rfl
theorem q_1052 : (Jvm.Cond.selects "EastNearlyModel" ({ cls := "EastNearlyModel", name := "since", desc := "(II)I" } : Jvm.MethodName) ({ cls := "EastNearlyModel", name := "since", desc := "(II)I" } : Jvm.MethodName)) ∈ ez_TW := ez_tw 1052 (by decide +kernel) rfl
theorem q_1053 : (Jvm.Cond.code ({ cls := "EastNearlyModel", name := "since", desc := "(II)I" } : Jvm.MethodName) prog_8_method_76_code (7 : Nat) (Option.some Jvm.ClassFile.FieldType.int)) ∈ ez_TW := ez_tw 1053 (by decide +kernel) rfl
theorem q_1054 : (Jvm.Cond.methodLink "EastNearlyLaw" (184 : Nat) ({ cls := "EastNearlyModel", name := "keep", desc := "(I)I" } : Jvm.MethodName)) ∈ ez_TW := ez_tw 1054 (by decide +kernel) rfl
theorem q_1055 : (Jvm.Cond.instanceMethod ({ cls := "EastNearlyModel", name := "keep", desc := "(I)I" } : Jvm.MethodName)) ∈ ez_TW := ez_tw 1055 (by decide +kernel) rfl
theorem q_1056 : (Jvm.Cond.selects "EastNearlyModel" ({ cls := "EastNearlyModel", name := "keep", desc := "(I)I" } : Jvm.MethodName) ({ cls := "EastNearlyModel", name := "keep", desc := "(I)I" } : Jvm.MethodName)) ∈ ez_TW := ez_tw 1056 (by decide +kernel) rfl
theorem q_1057 : (Jvm.Cond.code ({ cls := "EastNearlyModel", name := "keep", desc := "(I)I" } : Jvm.MethodName) prog_8_method_77_code (3 : Nat) (Option.some Jvm.ClassFile.FieldType.int)) ∈ ez_TW := ez_tw 1057 (by decide +kernel) rfl
theorem q_1058 : (Jvm.Cond.methodLink "EastNearlyLaw" (188 : Nat) ({ cls := "EastNearlyModel", name := "again", desc := "(I)I" } : Jvm.MethodName)) ∈ ez_TW := ez_tw 1058 (by decide +kernel) rfl
theorem q_1059 : (Jvm.Cond.instanceMethod ({ cls := "EastNearlyModel", name := "again", desc := "(I)I" } : Jvm.MethodName)) ∈ ez_TW := ez_tw 1059 (by decide +kernel) rfl
theorem q_1060 : (Jvm.Cond.selects "EastNearlyModel" ({ cls := "EastNearlyModel", name := "again", desc := "(I)I" } : Jvm.MethodName) ({ cls := "EastNearlyModel", name := "again", desc := "(I)I" } : Jvm.MethodName)) ∈ ez_TW := ez_tw 1060 (by decide +kernel) rfl
theorem q_1061 : (Jvm.Cond.code ({ cls := "EastNearlyModel", name := "again", desc := "(I)I" } : Jvm.MethodName) prog_8_method_78_code (3 : Nat) (Option.some Jvm.ClassFile.FieldType.int)) ∈ ez_TW := ez_tw 1061 (by decide +kernel) rfl
theorem q_1062 : (Jvm.Cond.methodLink "EastNearlyLaw" (192 : Nat) ({ cls := "EastNearlyModel", name := "count", desc := "(I)I" } : Jvm.MethodName)) ∈ ez_TW := ez_tw 1062 (by decide +kernel) rfl
theorem q_1063 : (Jvm.Cond.instanceMethod ({ cls := "EastNearlyModel", name := "count", desc := "(I)I" } : Jvm.MethodName)) ∈ ez_TW := ez_tw 1063 (by decide +kernel) rfl
theorem q_1064 : (Jvm.Cond.selects "EastNearlyModel" ({ cls := "EastNearlyModel", name := "count", desc := "(I)I" } : Jvm.MethodName) ({ cls := "EastNearlyModel", name := "count", desc := "(I)I" } : Jvm.MethodName)) ∈ ez_TW := ez_tw 1064 (by decide +kernel) rfl
theorem q_1065 : (Jvm.Cond.code ({ cls := "EastNearlyModel", name := "count", desc := "(I)I" } : Jvm.MethodName) prog_8_method_79_code (6 : Nat) (Option.some Jvm.ClassFile.FieldType.int)) ∈ ez_TW := ez_tw 1065 (by decide +kernel) rfl
/-! ===== fields, constants ===== -/
theorem inTW_X0 : ∀ w ∈ u_ws RX0 TX0 5, w ∈ ez_TW := (show ∀ w ∈ ([u_lay RX0 TX0 0, u_lay RX0 TX0 1, u_lay RX0 TX0 2, u_lay RX0 TX0 3, u_lay RX0 TX0 4] : List Cond), w ∈ ez_TW from List.forall_mem_cons.mpr ⟨q_117, List.forall_mem_cons.mpr ⟨q_119, List.forall_mem_cons.mpr ⟨q_121, List.forall_mem_cons.mpr ⟨q_123, List.forall_mem_cons.mpr ⟨q_125, fun _ h => absurd h List.not_mem_nil⟩⟩⟩⟩⟩)
theorem inTW_X1 : ∀ w ∈ u_ws RX1 TX1 3, w ∈ ez_TW := (show ∀ w ∈ ([u_lay RX1 TX1 0, u_lay RX1 TX1 1, u_lay RX1 TX1 2] : List Cond), w ∈ ez_TW from List.forall_mem_cons.mpr ⟨q_139, List.forall_mem_cons.mpr ⟨q_141, List.forall_mem_cons.mpr ⟨q_143, fun _ h => absurd h List.not_mem_nil⟩⟩⟩)
theorem inTW_X2 : ∀ w ∈ u_ws RX2 TX2 4, w ∈ ez_TW := (show ∀ w ∈ ([u_lay RX2 TX2 0, u_lay RX2 TX2 1, u_lay RX2 TX2 2, u_lay RX2 TX2 3] : List Cond), w ∈ ez_TW from List.forall_mem_cons.mpr ⟨q_172, List.forall_mem_cons.mpr ⟨q_174, List.forall_mem_cons.mpr ⟨q_176, List.forall_mem_cons.mpr ⟨q_178, fun _ h => absurd h List.not_mem_nil⟩⟩⟩⟩)
theorem inTW_X3 : ∀ w ∈ u_ws RX3 TX3 3, w ∈ ez_TW := (show ∀ w ∈ ([u_lay RX3 TX3 0, u_lay RX3 TX3 1, u_lay RX3 TX3 2] : List Cond), w ∈ ez_TW from List.forall_mem_cons.mpr ⟨q_155, List.forall_mem_cons.mpr ⟨q_157, List.forall_mem_cons.mpr ⟨q_159, fun _ h => absurd h List.not_mem_nil⟩⟩⟩)
theorem inTW_X4 : ∀ w ∈ u_ws RX4 TX4 2, w ∈ ez_TW := (show ∀ w ∈ ([u_lay RX4 TX4 0, u_lay RX4 TX4 1] : List Cond), w ∈ ez_TW from List.forall_mem_cons.mpr ⟨q_98, List.forall_mem_cons.mpr ⟨q_100, fun _ h => absurd h List.not_mem_nil⟩⟩)
theorem inTW_X5 : ∀ w ∈ u_ws RX5 TX5 10, w ∈ ez_TW := (show ∀ w ∈ ([u_lay RX5 TX5 0, u_lay RX5 TX5 1, u_lay RX5 TX5 2, u_lay RX5 TX5 3, u_lay RX5 TX5 4, u_lay RX5 TX5 5, u_lay RX5 TX5 6, u_lay RX5 TX5 7, u_lay RX5 TX5 8, u_lay RX5 TX5 9] : List Cond), w ∈ ez_TW from List.forall_mem_cons.mpr ⟨q_194, List.forall_mem_cons.mpr ⟨q_196, List.forall_mem_cons.mpr ⟨q_198, List.forall_mem_cons.mpr ⟨q_200, List.forall_mem_cons.mpr ⟨q_202, List.forall_mem_cons.mpr ⟨q_204, List.forall_mem_cons.mpr ⟨q_206, List.forall_mem_cons.mpr ⟨q_208, List.forall_mem_cons.mpr ⟨q_210, List.forall_mem_cons.mpr ⟨q_212, fun _ h => absurd h List.not_mem_nil⟩⟩⟩⟩⟩⟩⟩⟩⟩⟩)
theorem inTW_X6 : ∀ w ∈ u_ws RX6 TX6 28, w ∈ ez_TW := (show ∀ w ∈ ([u_lay RX6 TX6 0, u_lay RX6 TX6 1, u_lay RX6 TX6 2, u_lay RX6 TX6 3, u_lay RX6 TX6 4, u_lay RX6 TX6 5, u_lay RX6 TX6 6, u_lay RX6 TX6 7, u_lay RX6 TX6 8, u_lay RX6 TX6 9, u_lay RX6 TX6 10, u_lay RX6 TX6 11, u_lay RX6 TX6 12, u_lay RX6 TX6 13, u_lay RX6 TX6 14, u_lay RX6 TX6 15, u_lay RX6 TX6 16, u_lay RX6 TX6 17, u_lay RX6 TX6 18, u_lay RX6 TX6 19, u_lay RX6 TX6 20, u_lay RX6 TX6 21, u_lay RX6 TX6 22, u_lay RX6 TX6 23, u_lay RX6 TX6 24, u_lay RX6 TX6 25, u_lay RX6 TX6 26, u_lay RX6 TX6 27] : List Cond), w ∈ ez_TW from List.forall_mem_cons.mpr ⟨q_694, List.forall_mem_cons.mpr ⟨q_696, List.forall_mem_cons.mpr ⟨q_698, List.forall_mem_cons.mpr ⟨q_700, List.forall_mem_cons.mpr ⟨q_702, List.forall_mem_cons.mpr ⟨q_704, List.forall_mem_cons.mpr ⟨q_706, List.forall_mem_cons.mpr ⟨q_708, List.forall_mem_cons.mpr ⟨q_710, List.forall_mem_cons.mpr ⟨q_712, List.forall_mem_cons.mpr ⟨q_714, List.forall_mem_cons.mpr ⟨q_716, List.forall_mem_cons.mpr ⟨q_718, List.forall_mem_cons.mpr ⟨q_720, List.forall_mem_cons.mpr ⟨q_722, List.forall_mem_cons.mpr ⟨q_724, List.forall_mem_cons.mpr ⟨q_726, List.forall_mem_cons.mpr ⟨q_728, List.forall_mem_cons.mpr ⟨q_730, List.forall_mem_cons.mpr ⟨q_732, List.forall_mem_cons.mpr ⟨q_734, List.forall_mem_cons.mpr ⟨q_736, List.forall_mem_cons.mpr ⟨q_738, List.forall_mem_cons.mpr ⟨q_740, List.forall_mem_cons.mpr ⟨q_742, List.forall_mem_cons.mpr ⟨q_744, List.forall_mem_cons.mpr ⟨q_746, List.forall_mem_cons.mpr ⟨q_748, fun _ h => absurd h List.not_mem_nil⟩⟩⟩⟩⟩⟩⟩⟩⟩⟩⟩⟩⟩⟩⟩⟩⟩⟩⟩⟩⟩⟩⟩⟩⟩⟩⟩⟩)
def fl_X0 : List (Nat × Nat × Nat × Nat) := [(11, 0, 0, 2), (15, 0, 1, 2), (18, 0, 2, 2), (21, 0, 3, 0), (25, 0, 4, 0)]
theorem fo_X0_0 : ez_FldOK RX0 (11, 0, 0, 2) := ⟨RX0, TX0, 5, tyX0, rfl, by decide, inTW_X0, tyX0_ok, nmX0, (fun h => absurd h (by decide)), (fun h => absurd h (by decide)), Or.inl q_110⟩
theorem fo_X0_1 : ez_FldOK RX0 (15, 0, 1, 2) := ⟨RX0, TX0, 5, tyX0, rfl, by decide, inTW_X0, tyX0_ok, nmX0, (fun h => absurd h (by decide)), (fun h => absurd h (by decide)), Or.inl q_111⟩
theorem fo_X0_2 : ez_FldOK RX0 (18, 0, 2, 2) := ⟨RX0, TX0, 5, tyX0, rfl, by decide, inTW_X0, tyX0_ok, nmX0, (fun h => absurd h (by decide)), (fun h => absurd h (by decide)), Or.inl q_112⟩
theorem fo_X0_3 : ez_FldOK RX0 (21, 0, 3, 0) := ⟨RX0, TX0, 5, tyX0, rfl, by decide, inTW_X0, tyX0_ok, nmX0, (fun _ => ⟨rfl, rfl⟩), (fun h => absurd h (by decide)), Or.inl q_113⟩
theorem fo_X0_4 : ez_FldOK RX0 (25, 0, 4, 0) := ⟨RX0, TX0, 5, tyX0, rfl, by decide, inTW_X0, tyX0_ok, nmX0, (fun _ => ⟨rfl, rfl⟩), (fun h => absurd h (by decide)), Or.inl q_115⟩
theorem fo_X0 : ∀ q ∈ fl_X0, ez_FldOK RX0 q := List.forall_mem_cons.mpr ⟨fo_X0_0, List.forall_mem_cons.mpr ⟨fo_X0_1, List.forall_mem_cons.mpr ⟨fo_X0_2, List.forall_mem_cons.mpr ⟨fo_X0_3, List.forall_mem_cons.mpr ⟨fo_X0_4, fun _ h => absurd h List.not_mem_nil⟩⟩⟩⟩⟩
def co_X0 : List (Nat × Int) := []
theorem co_X0_ok : ∀ q ∈ co_X0, ez_ConOK RX0 q := fun _ h => absurd h List.not_mem_nil
def fl_X1 : List (Nat × Nat × Nat × Nat) := [(9, 1, 0, 2), (15, 1, 1, 0), (19, 1, 2, 1)]
theorem fo_X1_0 : ez_FldOK RX1 (9, 1, 0, 2) := ⟨RX1, TX1, 3, tyX1, rfl, by decide, inTW_X1, tyX1_ok, nmX1, (fun h => absurd h (by decide)), (fun h => absurd h (by decide)), Or.inl q_134⟩
theorem fo_X1_1 : ez_FldOK RX1 (15, 1, 1, 0) := ⟨RX1, TX1, 3, tyX1, rfl, by decide, inTW_X1, tyX1_ok, nmX1, (fun _ => ⟨rfl, rfl⟩), (fun h => absurd h (by decide)), Or.inl q_135⟩
theorem fo_X1_2 : ez_FldOK RX1 (19, 1, 2, 1) := ⟨RX1, TX1, 3, tyX1, rfl, by decide, inTW_X1, tyX1_ok, nmX1, (fun h => absurd h (by decide)), (fun _ => ⟨rfl, rfl⟩), Or.inl q_137⟩
theorem fo_X1 : ∀ q ∈ fl_X1, ez_FldOK RX1 q := List.forall_mem_cons.mpr ⟨fo_X1_0, List.forall_mem_cons.mpr ⟨fo_X1_1, List.forall_mem_cons.mpr ⟨fo_X1_2, fun _ h => absurd h List.not_mem_nil⟩⟩⟩
def co_X1 : List (Nat × Int) := []
theorem co_X1_ok : ∀ q ∈ co_X1, ez_ConOK RX1 q := fun _ h => absurd h List.not_mem_nil
def fl_X2 : List (Nat × Nat × Nat × Nat) := [(9, 2, 0, 2), (15, 2, 1, 2), (18, 2, 2, 2), (21, 2, 3, 0)]
theorem fo_X2_0 : ez_FldOK RX2 (9, 2, 0, 2) := ⟨RX2, TX2, 4, tyX2, rfl, by decide, inTW_X2, tyX2_ok, nmX2, (fun h => absurd h (by decide)), (fun h => absurd h (by decide)), Or.inl q_168⟩
theorem fo_X2_1 : ez_FldOK RX2 (15, 2, 1, 2) := ⟨RX2, TX2, 4, tyX2, rfl, by decide, inTW_X2, tyX2_ok, nmX2, (fun h => absurd h (by decide)), (fun h => absurd h (by decide)), Or.inl q_169⟩
theorem fo_X2_2 : ez_FldOK RX2 (18, 2, 2, 2) := ⟨RX2, TX2, 4, tyX2, rfl, by decide, inTW_X2, tyX2_ok, nmX2, (fun h => absurd h (by decide)), (fun h => absurd h (by decide)), Or.inl q_170⟩
theorem fo_X2_3 : ez_FldOK RX2 (21, 2, 3, 0) := ⟨RX2, TX2, 4, tyX2, rfl, by decide, inTW_X2, tyX2_ok, nmX2, (fun _ => ⟨rfl, rfl⟩), (fun h => absurd h (by decide)), Or.inl q_171⟩
theorem fo_X2 : ∀ q ∈ fl_X2, ez_FldOK RX2 q := List.forall_mem_cons.mpr ⟨fo_X2_0, List.forall_mem_cons.mpr ⟨fo_X2_1, List.forall_mem_cons.mpr ⟨fo_X2_2, List.forall_mem_cons.mpr ⟨fo_X2_3, fun _ h => absurd h List.not_mem_nil⟩⟩⟩⟩
def co_X2 : List (Nat × Int) := []
theorem co_X2_ok : ∀ q ∈ co_X2, ez_ConOK RX2 q := fun _ h => absurd h List.not_mem_nil
def fl_X3 : List (Nat × Nat × Nat × Nat) := [(9, 3, 0, 2), (15, 3, 1, 2), (18, 3, 2, 0)]
theorem fo_X3_0 : ez_FldOK RX3 (9, 3, 0, 2) := ⟨RX3, TX3, 3, tyX3, rfl, by decide, inTW_X3, tyX3_ok, nmX3, (fun h => absurd h (by decide)), (fun h => absurd h (by decide)), Or.inl q_152⟩
theorem fo_X3_1 : ez_FldOK RX3 (15, 3, 1, 2) := ⟨RX3, TX3, 3, tyX3, rfl, by decide, inTW_X3, tyX3_ok, nmX3, (fun h => absurd h (by decide)), (fun h => absurd h (by decide)), Or.inl q_153⟩
theorem fo_X3_2 : ez_FldOK RX3 (18, 3, 2, 0) := ⟨RX3, TX3, 3, tyX3, rfl, by decide, inTW_X3, tyX3_ok, nmX3, (fun _ => ⟨rfl, rfl⟩), (fun h => absurd h (by decide)), Or.inl q_154⟩
theorem fo_X3 : ∀ q ∈ fl_X3, ez_FldOK RX3 q := List.forall_mem_cons.mpr ⟨fo_X3_0, List.forall_mem_cons.mpr ⟨fo_X3_1, List.forall_mem_cons.mpr ⟨fo_X3_2, fun _ h => absurd h List.not_mem_nil⟩⟩⟩
def co_X3 : List (Nat × Int) := []
theorem co_X3_ok : ∀ q ∈ co_X3, ez_ConOK RX3 q := fun _ h => absurd h List.not_mem_nil
def fl_X4 : List (Nat × Nat × Nat × Nat) := [(9, 4, 0, 2), (15, 4, 1, 0)]
theorem fo_X4_0 : ez_FldOK RX4 (9, 4, 0, 2) := ⟨RX4, TX4, 2, tyX4, rfl, by decide, inTW_X4, tyX4_ok, nmX4, (fun h => absurd h (by decide)), (fun h => absurd h (by decide)), Or.inl q_95⟩
theorem fo_X4_1 : ez_FldOK RX4 (15, 4, 1, 0) := ⟨RX4, TX4, 2, tyX4, rfl, by decide, inTW_X4, tyX4_ok, nmX4, (fun _ => ⟨rfl, rfl⟩), (fun h => absurd h (by decide)), Or.inl q_96⟩
theorem fo_X4 : ∀ q ∈ fl_X4, ez_FldOK RX4 q := List.forall_mem_cons.mpr ⟨fo_X4_0, List.forall_mem_cons.mpr ⟨fo_X4_1, fun _ h => absurd h List.not_mem_nil⟩⟩
def co_X4 : List (Nat × Int) := []
theorem co_X4_ok : ∀ q ∈ co_X4, ez_ConOK RX4 q := fun _ h => absurd h List.not_mem_nil
def fl_X5 : List (Nat × Nat × Nat × Nat) := [(10, 5, 0, 2), (19, 5, 1, 2), (26, 5, 2, 2), (30, 5, 3, 2), (33, 5, 4, 2), (39, 5, 5, 2), (46, 5, 6, 2), (50, 5, 7, 2), (54, 5, 8, 2), (57, 5, 9, 0), (94, 4, 1, 0), (126, 1, 1, 0), (232, 1, 2, 1), (242, 0, 4, 0), (245, 0, 3, 0)]
theorem fo_X5_0 : ez_FldOK RX5 (10, 5, 0, 2) := ⟨RX5, TX5, 10, tyX5, rfl, by decide, inTW_X5, tyX5_ok, nmX5, (fun h => absurd h (by decide)), (fun h => absurd h (by decide)), Or.inl q_184⟩
theorem fo_X5_1 : ez_FldOK RX5 (19, 5, 1, 2) := ⟨RX5, TX5, 10, tyX5, rfl, by decide, inTW_X5, tyX5_ok, nmX5, (fun h => absurd h (by decide)), (fun h => absurd h (by decide)), Or.inl q_185⟩
theorem fo_X5_2 : ez_FldOK RX5 (26, 5, 2, 2) := ⟨RX5, TX5, 10, tyX5, rfl, by decide, inTW_X5, tyX5_ok, nmX5, (fun h => absurd h (by decide)), (fun h => absurd h (by decide)), Or.inl q_186⟩
theorem fo_X5_3 : ez_FldOK RX5 (30, 5, 3, 2) := ⟨RX5, TX5, 10, tyX5, rfl, by decide, inTW_X5, tyX5_ok, nmX5, (fun h => absurd h (by decide)), (fun h => absurd h (by decide)), Or.inl q_187⟩
theorem fo_X5_4 : ez_FldOK RX5 (33, 5, 4, 2) := ⟨RX5, TX5, 10, tyX5, rfl, by decide, inTW_X5, tyX5_ok, nmX5, (fun h => absurd h (by decide)), (fun h => absurd h (by decide)), Or.inl q_188⟩
theorem fo_X5_5 : ez_FldOK RX5 (39, 5, 5, 2) := ⟨RX5, TX5, 10, tyX5, rfl, by decide, inTW_X5, tyX5_ok, nmX5, (fun h => absurd h (by decide)), (fun h => absurd h (by decide)), Or.inl q_189⟩
theorem fo_X5_6 : ez_FldOK RX5 (46, 5, 6, 2) := ⟨RX5, TX5, 10, tyX5, rfl, by decide, inTW_X5, tyX5_ok, nmX5, (fun h => absurd h (by decide)), (fun h => absurd h (by decide)), Or.inl q_190⟩
theorem fo_X5_7 : ez_FldOK RX5 (50, 5, 7, 2) := ⟨RX5, TX5, 10, tyX5, rfl, by decide, inTW_X5, tyX5_ok, nmX5, (fun h => absurd h (by decide)), (fun h => absurd h (by decide)), Or.inl q_191⟩
theorem fo_X5_8 : ez_FldOK RX5 (54, 5, 8, 2) := ⟨RX5, TX5, 10, tyX5, rfl, by decide, inTW_X5, tyX5_ok, nmX5, (fun h => absurd h (by decide)), (fun h => absurd h (by decide)), Or.inl q_192⟩
theorem fo_X5_9 : ez_FldOK RX5 (57, 5, 9, 0) := ⟨RX5, TX5, 10, tyX5, rfl, by decide, inTW_X5, tyX5_ok, nmX5, (fun _ => ⟨rfl, rfl⟩), (fun h => absurd h (by decide)), Or.inl q_193⟩
theorem fo_X5_10 : ez_FldOK RX5 (94, 4, 1, 0) := ⟨RX4, TX4, 2, tyX4, rfl, by decide, inTW_X4, tyX4_ok, nmX4, (fun _ => ⟨rfl, rfl⟩), (fun h => absurd h (by decide)), Or.inr ⟨"EastNearly", q_97⟩⟩
theorem fo_X5_11 : ez_FldOK RX5 (126, 1, 1, 0) := ⟨RX1, TX1, 3, tyX1, rfl, by decide, inTW_X1, tyX1_ok, nmX1, (fun _ => ⟨rfl, rfl⟩), (fun h => absurd h (by decide)), Or.inr ⟨"EastNearly", q_136⟩⟩
theorem fo_X5_12 : ez_FldOK RX5 (232, 1, 2, 1) := ⟨RX1, TX1, 3, tyX1, rfl, by decide, inTW_X1, tyX1_ok, nmX1, (fun h => absurd h (by decide)), (fun _ => ⟨rfl, rfl⟩), Or.inr ⟨"EastNearly", q_138⟩⟩
theorem fo_X5_13 : ez_FldOK RX5 (242, 0, 4, 0) := ⟨RX0, TX0, 5, tyX0, rfl, by decide, inTW_X0, tyX0_ok, nmX0, (fun _ => ⟨rfl, rfl⟩), (fun h => absurd h (by decide)), Or.inr ⟨"EastNearly", q_116⟩⟩
theorem fo_X5_14 : ez_FldOK RX5 (245, 0, 3, 0) := ⟨RX0, TX0, 5, tyX0, rfl, by decide, inTW_X0, tyX0_ok, nmX0, (fun _ => ⟨rfl, rfl⟩), (fun h => absurd h (by decide)), Or.inr ⟨"EastNearly", q_114⟩⟩
theorem fo_X5 : ∀ q ∈ fl_X5, ez_FldOK RX5 q := List.forall_mem_cons.mpr ⟨fo_X5_0, List.forall_mem_cons.mpr ⟨fo_X5_1, List.forall_mem_cons.mpr ⟨fo_X5_2, List.forall_mem_cons.mpr ⟨fo_X5_3, List.forall_mem_cons.mpr ⟨fo_X5_4, List.forall_mem_cons.mpr ⟨fo_X5_5, List.forall_mem_cons.mpr ⟨fo_X5_6, List.forall_mem_cons.mpr ⟨fo_X5_7, List.forall_mem_cons.mpr ⟨fo_X5_8, List.forall_mem_cons.mpr ⟨fo_X5_9, List.forall_mem_cons.mpr ⟨fo_X5_10, List.forall_mem_cons.mpr ⟨fo_X5_11, List.forall_mem_cons.mpr ⟨fo_X5_12, List.forall_mem_cons.mpr ⟨fo_X5_13, List.forall_mem_cons.mpr ⟨fo_X5_14, fun _ h => absurd h List.not_mem_nil⟩⟩⟩⟩⟩⟩⟩⟩⟩⟩⟩⟩⟩⟩⟩
def co_X5 : List (Nat × Int) := [(314, (-1)), (340, (-3)), (374, (-2))]
theorem co_X5_0 : ez_ConOK RX5 (314, -1) := by
  refine fun i => ⟨fun h => ?_, fun h => ?_⟩
  · have h : 314 = 2 * i + 1 := h
    omega
  · have h : 314 = 2 * i := h
    obtain rfl : i = 157 := by omega
    exact ⟨⟨by decide, by decide⟩, q_434⟩
theorem co_X5_1 : ez_ConOK RX5 (340, -3) := by
  refine fun i => ⟨fun h => ?_, fun h => ?_⟩
  · have h : 340 = 2 * i + 1 := h
    omega
  · have h : 340 = 2 * i := h
    obtain rfl : i = 170 := by omega
    exact ⟨⟨by decide, by decide⟩, q_454⟩
theorem co_X5_2 : ez_ConOK RX5 (374, -2) := by
  refine fun i => ⟨fun h => ?_, fun h => ?_⟩
  · have h : 374 = 2 * i + 1 := h
    omega
  · have h : 374 = 2 * i := h
    obtain rfl : i = 187 := by omega
    exact ⟨⟨by decide, by decide⟩, q_501⟩
theorem co_X5_ok : ∀ q ∈ co_X5, ez_ConOK RX5 q := List.forall_mem_cons.mpr ⟨co_X5_0, List.forall_mem_cons.mpr ⟨co_X5_1, List.forall_mem_cons.mpr ⟨co_X5_2, fun _ h => absurd h List.not_mem_nil⟩⟩⟩
def fl_X6 : List (Nat × Nat × Nat × Nat) := [(7, 6, 1, 2), (13, 6, 2, 0), (17, 6, 4, 2), (20, 6, 8, 2), (23, 6, 9, 2), (26, 6, 11, 2), (29, 6, 12, 2), (32, 6, 14, 2), (35, 6, 15, 2), (38, 6, 16, 2), (41, 6, 17, 2), (44, 6, 18, 2), (48, 6, 20, 2), (51, 6, 21, 2), (54, 6, 22, 2), (58, 6, 23, 2), (61, 6, 24, 2), (64, 6, 0, 0), (79, 6, 13, 0), (117, 6, 3, 0), (122, 6, 5, 0), (125, 6, 6, 0), (131, 6, 10, 0), (144, 6, 7, 0), (171, 6, 26, 0), (202, 6, 19, 0), (234, 6, 25, 0), (237, 6, 27, 0)]
theorem fo_X6_0 : ez_FldOK RX6 (7, 6, 1, 2) := ⟨RX6, TX6, 28, tyX6, rfl, by decide, inTW_X6, tyX6_ok, nmX6, (fun h => absurd h (by decide)), (fun h => absurd h (by decide)), Or.inl q_667⟩
theorem fo_X6_1 : ez_FldOK RX6 (13, 6, 2, 0) := ⟨RX6, TX6, 28, tyX6, rfl, by decide, inTW_X6, tyX6_ok, nmX6, (fun _ => ⟨rfl, rfl⟩), (fun h => absurd h (by decide)), Or.inl q_668⟩
theorem fo_X6_2 : ez_FldOK RX6 (17, 6, 4, 2) := ⟨RX6, TX6, 28, tyX6, rfl, by decide, inTW_X6, tyX6_ok, nmX6, (fun h => absurd h (by decide)), (fun h => absurd h (by decide)), Or.inl q_670⟩
theorem fo_X6_3 : ez_FldOK RX6 (20, 6, 8, 2) := ⟨RX6, TX6, 28, tyX6, rfl, by decide, inTW_X6, tyX6_ok, nmX6, (fun h => absurd h (by decide)), (fun h => absurd h (by decide)), Or.inl q_674⟩
theorem fo_X6_4 : ez_FldOK RX6 (23, 6, 9, 2) := ⟨RX6, TX6, 28, tyX6, rfl, by decide, inTW_X6, tyX6_ok, nmX6, (fun h => absurd h (by decide)), (fun h => absurd h (by decide)), Or.inl q_675⟩
theorem fo_X6_5 : ez_FldOK RX6 (26, 6, 11, 2) := ⟨RX6, TX6, 28, tyX6, rfl, by decide, inTW_X6, tyX6_ok, nmX6, (fun h => absurd h (by decide)), (fun h => absurd h (by decide)), Or.inl q_677⟩
theorem fo_X6_6 : ez_FldOK RX6 (29, 6, 12, 2) := ⟨RX6, TX6, 28, tyX6, rfl, by decide, inTW_X6, tyX6_ok, nmX6, (fun h => absurd h (by decide)), (fun h => absurd h (by decide)), Or.inl q_678⟩
theorem fo_X6_7 : ez_FldOK RX6 (32, 6, 14, 2) := ⟨RX6, TX6, 28, tyX6, rfl, by decide, inTW_X6, tyX6_ok, nmX6, (fun h => absurd h (by decide)), (fun h => absurd h (by decide)), Or.inl q_680⟩
theorem fo_X6_8 : ez_FldOK RX6 (35, 6, 15, 2) := ⟨RX6, TX6, 28, tyX6, rfl, by decide, inTW_X6, tyX6_ok, nmX6, (fun h => absurd h (by decide)), (fun h => absurd h (by decide)), Or.inl q_681⟩
theorem fo_X6_9 : ez_FldOK RX6 (38, 6, 16, 2) := ⟨RX6, TX6, 28, tyX6, rfl, by decide, inTW_X6, tyX6_ok, nmX6, (fun h => absurd h (by decide)), (fun h => absurd h (by decide)), Or.inl q_682⟩
theorem fo_X6_10 : ez_FldOK RX6 (41, 6, 17, 2) := ⟨RX6, TX6, 28, tyX6, rfl, by decide, inTW_X6, tyX6_ok, nmX6, (fun h => absurd h (by decide)), (fun h => absurd h (by decide)), Or.inl q_683⟩
theorem fo_X6_11 : ez_FldOK RX6 (44, 6, 18, 2) := ⟨RX6, TX6, 28, tyX6, rfl, by decide, inTW_X6, tyX6_ok, nmX6, (fun h => absurd h (by decide)), (fun h => absurd h (by decide)), Or.inl q_684⟩
theorem fo_X6_12 : ez_FldOK RX6 (48, 6, 20, 2) := ⟨RX6, TX6, 28, tyX6, rfl, by decide, inTW_X6, tyX6_ok, nmX6, (fun h => absurd h (by decide)), (fun h => absurd h (by decide)), Or.inl q_686⟩
theorem fo_X6_13 : ez_FldOK RX6 (51, 6, 21, 2) := ⟨RX6, TX6, 28, tyX6, rfl, by decide, inTW_X6, tyX6_ok, nmX6, (fun h => absurd h (by decide)), (fun h => absurd h (by decide)), Or.inl q_687⟩
theorem fo_X6_14 : ez_FldOK RX6 (54, 6, 22, 2) := ⟨RX6, TX6, 28, tyX6, rfl, by decide, inTW_X6, tyX6_ok, nmX6, (fun h => absurd h (by decide)), (fun h => absurd h (by decide)), Or.inl q_688⟩
theorem fo_X6_15 : ez_FldOK RX6 (58, 6, 23, 2) := ⟨RX6, TX6, 28, tyX6, rfl, by decide, inTW_X6, tyX6_ok, nmX6, (fun h => absurd h (by decide)), (fun h => absurd h (by decide)), Or.inl q_689⟩
theorem fo_X6_16 : ez_FldOK RX6 (61, 6, 24, 2) := ⟨RX6, TX6, 28, tyX6, rfl, by decide, inTW_X6, tyX6_ok, nmX6, (fun h => absurd h (by decide)), (fun h => absurd h (by decide)), Or.inl q_690⟩
theorem fo_X6_17 : ez_FldOK RX6 (64, 6, 0, 0) := ⟨RX6, TX6, 28, tyX6, rfl, by decide, inTW_X6, tyX6_ok, nmX6, (fun _ => ⟨rfl, rfl⟩), (fun h => absurd h (by decide)), Or.inl q_666⟩
theorem fo_X6_18 : ez_FldOK RX6 (79, 6, 13, 0) := ⟨RX6, TX6, 28, tyX6, rfl, by decide, inTW_X6, tyX6_ok, nmX6, (fun _ => ⟨rfl, rfl⟩), (fun h => absurd h (by decide)), Or.inl q_679⟩
theorem fo_X6_19 : ez_FldOK RX6 (117, 6, 3, 0) := ⟨RX6, TX6, 28, tyX6, rfl, by decide, inTW_X6, tyX6_ok, nmX6, (fun _ => ⟨rfl, rfl⟩), (fun h => absurd h (by decide)), Or.inl q_669⟩
theorem fo_X6_20 : ez_FldOK RX6 (122, 6, 5, 0) := ⟨RX6, TX6, 28, tyX6, rfl, by decide, inTW_X6, tyX6_ok, nmX6, (fun _ => ⟨rfl, rfl⟩), (fun h => absurd h (by decide)), Or.inl q_671⟩
theorem fo_X6_21 : ez_FldOK RX6 (125, 6, 6, 0) := ⟨RX6, TX6, 28, tyX6, rfl, by decide, inTW_X6, tyX6_ok, nmX6, (fun _ => ⟨rfl, rfl⟩), (fun h => absurd h (by decide)), Or.inl q_672⟩
theorem fo_X6_22 : ez_FldOK RX6 (131, 6, 10, 0) := ⟨RX6, TX6, 28, tyX6, rfl, by decide, inTW_X6, tyX6_ok, nmX6, (fun _ => ⟨rfl, rfl⟩), (fun h => absurd h (by decide)), Or.inl q_676⟩
theorem fo_X6_23 : ez_FldOK RX6 (144, 6, 7, 0) := ⟨RX6, TX6, 28, tyX6, rfl, by decide, inTW_X6, tyX6_ok, nmX6, (fun _ => ⟨rfl, rfl⟩), (fun h => absurd h (by decide)), Or.inl q_673⟩
theorem fo_X6_24 : ez_FldOK RX6 (171, 6, 26, 0) := ⟨RX6, TX6, 28, tyX6, rfl, by decide, inTW_X6, tyX6_ok, nmX6, (fun _ => ⟨rfl, rfl⟩), (fun h => absurd h (by decide)), Or.inl q_692⟩
theorem fo_X6_25 : ez_FldOK RX6 (202, 6, 19, 0) := ⟨RX6, TX6, 28, tyX6, rfl, by decide, inTW_X6, tyX6_ok, nmX6, (fun _ => ⟨rfl, rfl⟩), (fun h => absurd h (by decide)), Or.inl q_685⟩
theorem fo_X6_26 : ez_FldOK RX6 (234, 6, 25, 0) := ⟨RX6, TX6, 28, tyX6, rfl, by decide, inTW_X6, tyX6_ok, nmX6, (fun _ => ⟨rfl, rfl⟩), (fun h => absurd h (by decide)), Or.inl q_691⟩
theorem fo_X6_27 : ez_FldOK RX6 (237, 6, 27, 0) := ⟨RX6, TX6, 28, tyX6, rfl, by decide, inTW_X6, tyX6_ok, nmX6, (fun _ => ⟨rfl, rfl⟩), (fun h => absurd h (by decide)), Or.inl q_693⟩
theorem fo_X6 : ∀ q ∈ fl_X6, ez_FldOK RX6 q := List.forall_mem_cons.mpr ⟨fo_X6_0, List.forall_mem_cons.mpr ⟨fo_X6_1, List.forall_mem_cons.mpr ⟨fo_X6_2, List.forall_mem_cons.mpr ⟨fo_X6_3, List.forall_mem_cons.mpr ⟨fo_X6_4, List.forall_mem_cons.mpr ⟨fo_X6_5, List.forall_mem_cons.mpr ⟨fo_X6_6, List.forall_mem_cons.mpr ⟨fo_X6_7, List.forall_mem_cons.mpr ⟨fo_X6_8, List.forall_mem_cons.mpr ⟨fo_X6_9, List.forall_mem_cons.mpr ⟨fo_X6_10, List.forall_mem_cons.mpr ⟨fo_X6_11, List.forall_mem_cons.mpr ⟨fo_X6_12, List.forall_mem_cons.mpr ⟨fo_X6_13, List.forall_mem_cons.mpr ⟨fo_X6_14, List.forall_mem_cons.mpr ⟨fo_X6_15, List.forall_mem_cons.mpr ⟨fo_X6_16, List.forall_mem_cons.mpr ⟨fo_X6_17, List.forall_mem_cons.mpr ⟨fo_X6_18, List.forall_mem_cons.mpr ⟨fo_X6_19, List.forall_mem_cons.mpr ⟨fo_X6_20, List.forall_mem_cons.mpr ⟨fo_X6_21, List.forall_mem_cons.mpr ⟨fo_X6_22, List.forall_mem_cons.mpr ⟨fo_X6_23, List.forall_mem_cons.mpr ⟨fo_X6_24, List.forall_mem_cons.mpr ⟨fo_X6_25, List.forall_mem_cons.mpr ⟨fo_X6_26, List.forall_mem_cons.mpr ⟨fo_X6_27, fun _ h => absurd h List.not_mem_nil⟩⟩⟩⟩⟩⟩⟩⟩⟩⟩⟩⟩⟩⟩⟩⟩⟩⟩⟩⟩⟩⟩⟩⟩⟩⟩⟩⟩
def co_X6 : List (Nat × Int) := [(134, 359), (146, 599), (150, 363), (154, 3), (164, 5), (204, 35), (208, 9), (218, 600), (240, 8), (314, 2), (318, 10), (376, (-1)), (394, (-3)), (422, (-2)), (464, 6), (480, 180)]
theorem co_X6_0 : ez_ConOK RX6 (134, 359) := by
  refine fun i => ⟨fun h => ?_, fun h => ?_⟩
  · have h : 134 = 2 * i + 1 := h
    omega
  · have h : 134 = 2 * i := h
    obtain rfl : i = 67 := by omega
    exact ⟨⟨by decide, by decide⟩, q_760⟩
theorem co_X6_1 : ez_ConOK RX6 (146, 599) := by
  refine fun i => ⟨fun h => ?_, fun h => ?_⟩
  · have h : 146 = 2 * i + 1 := h
    omega
  · have h : 146 = 2 * i := h
    obtain rfl : i = 73 := by omega
    exact ⟨⟨by decide, by decide⟩, q_808⟩
theorem co_X6_2 : ez_ConOK RX6 (150, 363) := by
  refine fun i => ⟨fun h => ?_, fun h => ?_⟩
  · have h : 150 = 2 * i + 1 := h
    omega
  · have h : 150 = 2 * i := h
    obtain rfl : i = 75 := by omega
    exact ⟨⟨by decide, by decide⟩, q_774⟩
theorem co_X6_3 : ez_ConOK RX6 (154, 3) := by
  refine fun i => ⟨fun h => ?_, fun h => ?_⟩
  · have h : 154 = 2 * i + 1 := h
    omega
  · have h : 154 = 2 * i := h
    obtain rfl : i = 77 := by omega
    exact ⟨⟨by decide, by decide⟩, q_785⟩
theorem co_X6_4 : ez_ConOK RX6 (164, 5) := by
  refine fun i => ⟨fun h => ?_, fun h => ?_⟩
  · have h : 164 = 2 * i + 1 := h
    omega
  · have h : 164 = 2 * i := h
    obtain rfl : i = 82 := by omega
    exact ⟨⟨by decide, by decide⟩, q_886⟩
theorem co_X6_5 : ez_ConOK RX6 (204, 35) := by
  refine fun i => ⟨fun h => ?_, fun h => ?_⟩
  · have h : 204 = 2 * i + 1 := h
    omega
  · have h : 204 = 2 * i := h
    obtain rfl : i = 102 := by omega
    exact ⟨⟨by decide, by decide⟩, q_786⟩
theorem co_X6_6 : ez_ConOK RX6 (208, 9) := by
  refine fun i => ⟨fun h => ?_, fun h => ?_⟩
  · have h : 208 = 2 * i + 1 := h
    omega
  · have h : 208 = 2 * i := h
    obtain rfl : i = 104 := by omega
    exact ⟨⟨by decide, by decide⟩, q_787⟩
theorem co_X6_7 : ez_ConOK RX6 (218, 600) := by
  refine fun i => ⟨fun h => ?_, fun h => ?_⟩
  · have h : 218 = 2 * i + 1 := h
    omega
  · have h : 218 = 2 * i := h
    obtain rfl : i = 109 := by omega
    exact ⟨⟨by decide, by decide⟩, q_800⟩
theorem co_X6_8 : ez_ConOK RX6 (240, 8) := by
  refine fun i => ⟨fun h => ?_, fun h => ?_⟩
  · have h : 240 = 2 * i + 1 := h
    omega
  · have h : 240 = 2 * i := h
    obtain rfl : i = 120 := by omega
    exact ⟨⟨by decide, by decide⟩, q_821⟩
theorem co_X6_9 : ez_ConOK RX6 (314, 2) := by
  refine fun i => ⟨fun h => ?_, fun h => ?_⟩
  · have h : 314 = 2 * i + 1 := h
    omega
  · have h : 314 = 2 * i := h
    obtain rfl : i = 157 := by omega
    exact ⟨⟨by decide, by decide⟩, q_873⟩
theorem co_X6_10 : ez_ConOK RX6 (318, 10) := by
  refine fun i => ⟨fun h => ?_, fun h => ?_⟩
  · have h : 318 = 2 * i + 1 := h
    omega
  · have h : 318 = 2 * i := h
    obtain rfl : i = 159 := by omega
    exact ⟨⟨by decide, by decide⟩, q_878⟩
theorem co_X6_11 : ez_ConOK RX6 (376, -1) := by
  refine fun i => ⟨fun h => ?_, fun h => ?_⟩
  · have h : 376 = 2 * i + 1 := h
    omega
  · have h : 376 = 2 * i := h
    obtain rfl : i = 188 := by omega
    exact ⟨⟨by decide, by decide⟩, q_927⟩
theorem co_X6_12 : ez_ConOK RX6 (394, -3) := by
  refine fun i => ⟨fun h => ?_, fun h => ?_⟩
  · have h : 394 = 2 * i + 1 := h
    omega
  · have h : 394 = 2 * i := h
    obtain rfl : i = 197 := by omega
    exact ⟨⟨by decide, by decide⟩, q_943⟩
theorem co_X6_13 : ez_ConOK RX6 (422, -2) := by
  refine fun i => ⟨fun h => ?_, fun h => ?_⟩
  · have h : 422 = 2 * i + 1 := h
    omega
  · have h : 422 = 2 * i := h
    obtain rfl : i = 211 := by omega
    exact ⟨⟨by decide, by decide⟩, q_983⟩
theorem co_X6_14 : ez_ConOK RX6 (464, 6) := by
  refine fun i => ⟨fun h => ?_, fun h => ?_⟩
  · have h : 464 = 2 * i + 1 := h
    omega
  · have h : 464 = 2 * i := h
    obtain rfl : i = 232 := by omega
    exact ⟨⟨by decide, by decide⟩, q_1020⟩
theorem co_X6_15 : ez_ConOK RX6 (480, 180) := by
  refine fun i => ⟨fun h => ?_, fun h => ?_⟩
  · have h : 480 = 2 * i + 1 := h
    omega
  · have h : 480 = 2 * i := h
    obtain rfl : i = 240 := by omega
    exact ⟨⟨by decide, by decide⟩, q_1029⟩
theorem co_X6_ok : ∀ q ∈ co_X6, ez_ConOK RX6 q := List.forall_mem_cons.mpr ⟨co_X6_0, List.forall_mem_cons.mpr ⟨co_X6_1, List.forall_mem_cons.mpr ⟨co_X6_2, List.forall_mem_cons.mpr ⟨co_X6_3, List.forall_mem_cons.mpr ⟨co_X6_4, List.forall_mem_cons.mpr ⟨co_X6_5, List.forall_mem_cons.mpr ⟨co_X6_6, List.forall_mem_cons.mpr ⟨co_X6_7, List.forall_mem_cons.mpr ⟨co_X6_8, List.forall_mem_cons.mpr ⟨co_X6_9, List.forall_mem_cons.mpr ⟨co_X6_10, List.forall_mem_cons.mpr ⟨co_X6_11, List.forall_mem_cons.mpr ⟨co_X6_12, List.forall_mem_cons.mpr ⟨co_X6_13, List.forall_mem_cons.mpr ⟨co_X6_14, List.forall_mem_cons.mpr ⟨co_X6_15, fun _ h => absurd h List.not_mem_nil⟩⟩⟩⟩⟩⟩⟩⟩⟩⟩⟩⟩⟩⟩⟩⟩
def fl_J6 : List (Nat × Nat × Nat × Nat) := []
theorem fo_J6 : ∀ q ∈ fl_J6, ez_FldOK RJ6 q := fun _ h => absurd h List.not_mem_nil
def co_J6 : List (Nat × Int) := [(531, 1431655765), (533, 858993459), (535, 252645135)]
theorem co_J6_0 : ez_ConOK RJ6 (531, 1431655765) := by
  refine fun i => ⟨fun h => ?_, fun h => ?_⟩
  · have h : 531 = 2 * i + 1 := h
    obtain rfl : i = 265 := by omega
    exact ⟨⟨by decide, by decide⟩, q_466⟩
  · have h : 531 = 2 * i := h
    omega
theorem co_J6_1 : ez_ConOK RJ6 (533, 858993459) := by
  refine fun i => ⟨fun h => ?_, fun h => ?_⟩
  · have h : 533 = 2 * i + 1 := h
    obtain rfl : i = 266 := by omega
    exact ⟨⟨by decide, by decide⟩, q_467⟩
  · have h : 533 = 2 * i := h
    omega
theorem co_J6_2 : ez_ConOK RJ6 (535, 252645135) := by
  refine fun i => ⟨fun h => ?_, fun h => ?_⟩
  · have h : 535 = 2 * i + 1 := h
    obtain rfl : i = 267 := by omega
    exact ⟨⟨by decide, by decide⟩, q_468⟩
  · have h : 535 = 2 * i := h
    omega
theorem co_J6_ok : ∀ q ∈ co_J6, ez_ConOK RJ6 q := List.forall_mem_cons.mpr ⟨co_J6_0, List.forall_mem_cons.mpr ⟨co_J6_1, List.forall_mem_cons.mpr ⟨co_J6_2, fun _ h => absurd h List.not_mem_nil⟩⟩⟩
def fl_J9 : List (Nat × Nat × Nat × Nat) := []
theorem fo_J9 : ∀ q ∈ fl_J9, ez_FldOK RJ9 q := fun _ h => absurd h List.not_mem_nil
def co_J9 : List (Nat × Int) := []
theorem co_J9_ok : ∀ q ∈ co_J9, ez_ConOK RJ9 q := fun _ h => absurd h List.not_mem_nil
