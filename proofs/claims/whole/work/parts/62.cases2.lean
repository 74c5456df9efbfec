/-! ===== the law: its cases ===== -/
set_option maxHeartbeats 4000000 in
theorem kc_about : kw_case 658 := by
  intro p l e s m below meth c b L xs D cA adX adN H locs ls n S Qf C hL hn hl hd kk
  obtain ⟨MX, MN, hPX, hPN, hmX, hmN, eX, eN, hI, hS⟩ := hd
  refine lv_aload_n C.hx C.hb dl_658 rfl (lv_at hl 2 rfl) ?_
  refine kg_arg (k := 1) C hL hn hl hS (by decide) dl_659 dl_660 dl_661 dl_662 dl_663 ?_
  refine kg_arg (k := 2) C hL hn hl hS (by decide) dl_664 dl_665 dl_666 dl_667 dl_668 ?_
  refine kg_callV (Lc := LX) (ad := adX) (M := MX) (ci := 5) (T := TX5) (N := 10) (k := 2) (as := [.inl (ka xs (n + 1)), .inl (ka xs (n + 2))]) (rest := []) (Q := fun v M' => v = some (.inl (op_about S (ka xs (n + 1)) (ka xs (n + 2)))) ∧ ff_X M' = S) C so_X5_about q_386 q_72 ⟨by decide +kernel, by decide +kernel, by decide +kernel⟩ q_383 q_384 q_385 rfl rfl ⟨by decide, by decide⟩ (List.forall_mem_cons.mpr ⟨ka_ri xs _, List.forall_mem_cons.mpr ⟨ka_ri xs _, fun _ h => absurd h List.not_mem_nil⟩⟩) hmX (by unfold sp_X5_about; exact ⟨rfl, by rw [eX]; exact hI, fun M' h => ⟨by rw [eX], by rw [h, eX]⟩⟩) rfl hPX (C.hDX _) C.hAX hS hPN (C.hdX _) hl (Nat.le_of_ble_eq_true rfl) rfl dl_669 (fun v MX H locs hQ hmX hPX hPN hS => ?_)
  obtain ⟨rfl, eX⟩ := hQ
  refine W.eq (g2 := F0 m 672 ls [.int (Int32.ofInt (op_about S (ka xs (n + 1)) (ka xs (n + 2))))]) rfl ?_
  refine lv_aload_n C.hx C.hb dl_672 rfl (lv_at hl 1 rfl) ?_
  refine kg_arg (k := 1) C hL hn hl hS (by decide) dl_673 dl_674 dl_675 dl_676 dl_677 ?_
  refine kg_arg (k := 2) C hL hn hl hS (by decide) dl_678 dl_679 dl_680 dl_681 dl_682 ?_
  refine kg_callV (Lc := LM) (ad := adN) (M := MN) (ci := 6) (T := TX6) (N := 28) (k := 2) (as := [.inl (ka xs (n + 1)), .inl (ka xs (n + 2))]) (rest := [.int (Int32.ofInt (op_about S (ka xs (n + 1)) (ka xs (n + 2))))]) (Q := fun v M' => v = some (.inl (op_about S (ka xs (n + 1)) (ka xs (n + 2)))) ∧ ff_N M' = S) C so_X6_about q_877 q_78 ⟨by decide +kernel, by decide +kernel, by decide +kernel⟩ q_874 q_875 q_876 rfl rfl ⟨by decide, by decide⟩ (List.forall_mem_cons.mpr ⟨ka_ri xs _, List.forall_mem_cons.mpr ⟨ka_ri xs _, fun _ h => absurd h List.not_mem_nil⟩⟩) hmN (by unfold sp_X6_about; exact ⟨rfl, by rw [eN]; exact hI, fun M' h => ⟨by rw [eN], by rw [h, eN]⟩⟩) rfl hPN (C.hDN _) C.hAN hS hPX (C.hdN _) hl (Nat.le_of_ble_eq_true rfl) rfl dl_683 (fun v MN H locs hQ hmN hPN hPX hS => ?_)
  obtain ⟨rfl, eN⟩ := hQ
  refine W.eq (g2 := F0 m 686 ls [.int (Int32.ofInt (op_about S (ka xs (n + 1)) (ka xs (n + 2)))), .int (Int32.ofInt (op_about S (ka xs (n + 1)) (ka xs (n + 2))))]) rfl ?_
  exact kg_eqI rfl C dl_686 (by decide) (kk _ _ _ ⟨MX, MN, hPX, hPN, hmX, hmN, eX, eN, hI, hS⟩)
set_option maxHeartbeats 4000000 in
theorem kc_line : kw_case 691 := by
  intro p l e s m below meth c b L xs D cA adX adN H locs ls n S Qf C hL hn hl hd kk
  obtain ⟨MX, MN, hPX, hPN, hmX, hmN, eX, eN, hI, hS⟩ := hd
  refine lv_aload_n C.hx C.hb dl_691 rfl (lv_at hl 2 rfl) ?_
  refine kg_arg (k := 1) C hL hn hl hS (by decide) dl_692 dl_693 dl_694 dl_695 dl_696 ?_
  refine kg_arg (k := 2) C hL hn hl hS (by decide) dl_697 dl_698 dl_699 dl_700 dl_701 ?_
  refine kg_arg (k := 3) C hL hn hl hS (by decide) dl_702 dl_703 dl_704 dl_705 dl_706 ?_
  refine kg_callV (Lc := LX) (ad := adX) (M := MX) (ci := 5) (T := TX5) (N := 10) (k := 3) (as := [.inl (ka xs (n + 1)), .inl (ka xs (n + 2)), .inl (ka xs (n + 3))]) (rest := []) (Q := fun v M' => v = some (.inl (op_line S (ka xs (n + 1)) (ka xs (n + 2)) (ka xs (n + 3)))) ∧ ff_X M' = S) C so_X5_line q_391 q_72 ⟨by decide +kernel, by decide +kernel, by decide +kernel⟩ q_388 q_389 q_390 rfl rfl ⟨by decide, by decide⟩ (List.forall_mem_cons.mpr ⟨ka_ri xs _, List.forall_mem_cons.mpr ⟨ka_ri xs _, List.forall_mem_cons.mpr ⟨ka_ri xs _, fun _ h => absurd h List.not_mem_nil⟩⟩⟩) hmX (by unfold sp_X5_line; exact ⟨rfl, by rw [eX]; exact hI, fun M' h => ⟨by rw [eX], by rw [h, eX]⟩⟩) rfl hPX (C.hDX _) C.hAX hS hPN (C.hdX _) hl (Nat.le_of_ble_eq_true rfl) rfl dl_707 (fun v MX H locs hQ hmX hPX hPN hS => ?_)
  obtain ⟨rfl, eX⟩ := hQ
  refine W.eq (g2 := F0 m 710 ls [.int (Int32.ofInt (op_line S (ka xs (n + 1)) (ka xs (n + 2)) (ka xs (n + 3))))]) rfl ?_
  refine lv_aload_n C.hx C.hb dl_710 rfl (lv_at hl 1 rfl) ?_
  refine kg_arg (k := 1) C hL hn hl hS (by decide) dl_711 dl_712 dl_713 dl_714 dl_715 ?_
  refine kg_arg (k := 2) C hL hn hl hS (by decide) dl_716 dl_717 dl_718 dl_719 dl_720 ?_
  refine kg_arg (k := 3) C hL hn hl hS (by decide) dl_721 dl_722 dl_723 dl_724 dl_725 ?_
  refine kg_callV (Lc := LM) (ad := adN) (M := MN) (ci := 6) (T := TX6) (N := 28) (k := 3) (as := [.inl (ka xs (n + 1)), .inl (ka xs (n + 2)), .inl (ka xs (n + 3))]) (rest := [.int (Int32.ofInt (op_line S (ka xs (n + 1)) (ka xs (n + 2)) (ka xs (n + 3))))]) (Q := fun v M' => v = some (.inl (op_line S (ka xs (n + 1)) (ka xs (n + 2)) (ka xs (n + 3)))) ∧ ff_N M' = S) C so_X6_line q_882 q_78 ⟨by decide +kernel, by decide +kernel, by decide +kernel⟩ q_879 q_880 q_881 rfl rfl ⟨by decide, by decide⟩ (List.forall_mem_cons.mpr ⟨ka_ri xs _, List.forall_mem_cons.mpr ⟨ka_ri xs _, List.forall_mem_cons.mpr ⟨ka_ri xs _, fun _ h => absurd h List.not_mem_nil⟩⟩⟩) hmN (by unfold sp_X6_line; exact ⟨rfl, by rw [eN]; exact hI, fun M' h => ⟨by rw [eN], by rw [h, eN]⟩⟩) rfl hPN (C.hDN _) C.hAN hS hPX (C.hdN _) hl (Nat.le_of_ble_eq_true rfl) rfl dl_726 (fun v MN H locs hQ hmN hPN hPX hS => ?_)
  obtain ⟨rfl, eN⟩ := hQ
  refine W.eq (g2 := F0 m 729 ls [.int (Int32.ofInt (op_line S (ka xs (n + 1)) (ka xs (n + 2)) (ka xs (n + 3)))), .int (Int32.ofInt (op_line S (ka xs (n + 1)) (ka xs (n + 2)) (ka xs (n + 3))))]) rfl ?_
  exact kg_eqI rfl C dl_729 (by decide) (kk _ _ _ ⟨MX, MN, hPX, hPN, hmX, hmN, eX, eN, hI, hS⟩)
set_option maxHeartbeats 4000000 in
theorem kc_hits : kw_case 734 := by
  intro p l e s m below meth c b L xs D cA adX adN H locs ls n S Qf C hL hn hl hd kk
  obtain ⟨MX, MN, hPX, hPN, hmX, hmN, eX, eN, hI, hS⟩ := hd
  refine lv_aload_n C.hx C.hb dl_734 rfl (lv_at hl 2 rfl) ?_
  refine kg_arg (k := 1) C hL hn hl hS (by decide) dl_735 dl_736 dl_737 dl_738 dl_739 ?_
  refine kg_arg (k := 2) C hL hn hl hS (by decide) dl_740 dl_741 dl_742 dl_743 dl_744 ?_
  refine kg_callV (Lc := LX) (ad := adX) (M := MX) (ci := 5) (T := TX5) (N := 10) (k := 2) (as := [.inl (ka xs (n + 1)), .inl (ka xs (n + 2))]) (rest := []) (Q := fun v M' => v = some (.inl (op_hits S (ka xs (n + 1)) (ka xs (n + 2)))) ∧ ff_X M' = S) C so_X5_hits q_402 q_72 ⟨by decide +kernel, by decide +kernel, by decide +kernel⟩ q_399 q_400 q_401 rfl rfl ⟨by decide, by decide⟩ (List.forall_mem_cons.mpr ⟨ka_ri xs _, List.forall_mem_cons.mpr ⟨ka_ri xs _, fun _ h => absurd h List.not_mem_nil⟩⟩) hmX (by unfold sp_X5_hits; exact ⟨rfl, by rw [eX]; exact hI, fun M' h => ⟨by rw [eX], by rw [h, eX]⟩⟩) rfl hPX (C.hDX _) C.hAX hS hPN (C.hdX _) hl (Nat.le_of_ble_eq_true rfl) rfl dl_745 (fun v MX H locs hQ hmX hPX hPN hS => ?_)
  obtain ⟨rfl, eX⟩ := hQ
  refine W.eq (g2 := F0 m 748 ls [.int (Int32.ofInt (op_hits S (ka xs (n + 1)) (ka xs (n + 2))))]) rfl ?_
  refine lv_aload_n C.hx C.hb dl_748 rfl (lv_at hl 1 rfl) ?_
  refine kg_arg (k := 1) C hL hn hl hS (by decide) dl_749 dl_750 dl_751 dl_752 dl_753 ?_
  refine kg_arg (k := 2) C hL hn hl hS (by decide) dl_754 dl_755 dl_756 dl_757 dl_758 ?_
  refine kg_callV (Lc := LM) (ad := adN) (M := MN) (ci := 6) (T := TX6) (N := 28) (k := 2) (as := [.inl (ka xs (n + 1)), .inl (ka xs (n + 2))]) (rest := [.int (Int32.ofInt (op_hits S (ka xs (n + 1)) (ka xs (n + 2))))]) (Q := fun v M' => v = some (.inl (op_hits S (ka xs (n + 1)) (ka xs (n + 2)))) ∧ ff_N M' = S) C so_X6_hits q_898 q_78 ⟨by decide +kernel, by decide +kernel, by decide +kernel⟩ q_895 q_896 q_897 rfl rfl ⟨by decide, by decide⟩ (List.forall_mem_cons.mpr ⟨ka_ri xs _, List.forall_mem_cons.mpr ⟨ka_ri xs _, fun _ h => absurd h List.not_mem_nil⟩⟩) hmN (by unfold sp_X6_hits; exact ⟨rfl, by rw [eN]; exact hI, fun M' h => ⟨by rw [eN], by rw [h, eN]⟩⟩) rfl hPN (C.hDN _) C.hAN hS hPX (C.hdN _) hl (Nat.le_of_ble_eq_true rfl) rfl dl_759 (fun v MN H locs hQ hmN hPN hPX hS => ?_)
  obtain ⟨rfl, eN⟩ := hQ
  refine W.eq (g2 := F0 m 762 ls [.int (Int32.ofInt (op_hits S (ka xs (n + 1)) (ka xs (n + 2)))), .int (Int32.ofInt (op_hits S (ka xs (n + 1)) (ka xs (n + 2))))]) rfl ?_
  exact kg_eqI rfl C dl_762 (by decide) (kk _ _ _ ⟨MX, MN, hPX, hPN, hmX, hmN, eX, eN, hI, hS⟩)
set_option maxHeartbeats 4000000 in
theorem kc_hit : kw_case 767 := by
  intro p l e s m below meth c b L xs D cA adX adN H locs ls n S Qf C hL hn hl hd kk
  obtain ⟨MX, MN, hPX, hPN, hmX, hmN, eX, eN, hI, hS⟩ := hd
  refine lv_aload_n C.hx C.hb dl_767 rfl (lv_at hl 2 rfl) ?_
  refine kg_arg (k := 1) C hL hn hl hS (by decide) dl_768 dl_769 dl_770 dl_771 dl_772 ?_
  refine kg_arg (k := 2) C hL hn hl hS (by decide) dl_773 dl_774 dl_775 dl_776 dl_777 ?_
  refine kg_arg (k := 3) C hL hn hl hS (by decide) dl_778 dl_779 dl_780 dl_781 dl_782 ?_
  refine kg_callV (Lc := LX) (ad := adX) (M := MX) (ci := 5) (T := TX5) (N := 10) (k := 3) (as := [.inl (ka xs (n + 1)), .inl (ka xs (n + 2)), .inl (ka xs (n + 3))]) (rest := []) (Q := fun v M' => v = some (.inl (op_hit S (ka xs (n + 1)) (ka xs (n + 2)) (ka xs (n + 3)))) ∧ ff_X M' = S) C so_X5_hit q_417 q_72 ⟨by decide +kernel, by decide +kernel, by decide +kernel⟩ q_414 q_415 q_416 rfl rfl ⟨by decide, by decide⟩ (List.forall_mem_cons.mpr ⟨ka_ri xs _, List.forall_mem_cons.mpr ⟨ka_ri xs _, List.forall_mem_cons.mpr ⟨ka_ri xs _, fun _ h => absurd h List.not_mem_nil⟩⟩⟩) hmX (by unfold sp_X5_hit; exact ⟨rfl, by rw [eX]; exact hI, fun M' h => ⟨by rw [eX], by rw [h, eX]⟩⟩) rfl hPX (C.hDX _) C.hAX hS hPN (C.hdX _) hl (Nat.le_of_ble_eq_true rfl) rfl dl_783 (fun v MX H locs hQ hmX hPX hPN hS => ?_)
  obtain ⟨rfl, eX⟩ := hQ
  refine W.eq (g2 := F0 m 786 ls [.int (Int32.ofInt (op_hit S (ka xs (n + 1)) (ka xs (n + 2)) (ka xs (n + 3))))]) rfl ?_
  refine lv_aload_n C.hx C.hb dl_786 rfl (lv_at hl 1 rfl) ?_
  refine kg_arg (k := 1) C hL hn hl hS (by decide) dl_787 dl_788 dl_789 dl_790 dl_791 ?_
  refine kg_arg (k := 2) C hL hn hl hS (by decide) dl_792 dl_793 dl_794 dl_795 dl_796 ?_
  refine kg_arg (k := 3) C hL hn hl hS (by decide) dl_797 dl_798 dl_799 dl_800 dl_801 ?_
  refine kg_callV (Lc := LM) (ad := adN) (M := MN) (ci := 6) (T := TX6) (N := 28) (k := 3) (as := [.inl (ka xs (n + 1)), .inl (ka xs (n + 2)), .inl (ka xs (n + 3))]) (rest := [.int (Int32.ofInt (op_hit S (ka xs (n + 1)) (ka xs (n + 2)) (ka xs (n + 3))))]) (Q := fun v M' => v = some (.inl (op_hit S (ka xs (n + 1)) (ka xs (n + 2)) (ka xs (n + 3)))) ∧ ff_N M' = S) C so_X6_hit q_914 q_78 ⟨by decide +kernel, by decide +kernel, by decide +kernel⟩ q_911 q_912 q_913 rfl rfl ⟨by decide, by decide⟩ (List.forall_mem_cons.mpr ⟨ka_ri xs _, List.forall_mem_cons.mpr ⟨ka_ri xs _, List.forall_mem_cons.mpr ⟨ka_ri xs _, fun _ h => absurd h List.not_mem_nil⟩⟩⟩) hmN (by unfold sp_X6_hit; exact ⟨rfl, by rw [eN]; exact hI, fun M' h => ⟨by rw [eN], by rw [h, eN]⟩⟩) rfl hPN (C.hDN _) C.hAN hS hPX (C.hdN _) hl (Nat.le_of_ble_eq_true rfl) rfl dl_802 (fun v MN H locs hQ hmN hPN hPX hS => ?_)
  obtain ⟨rfl, eN⟩ := hQ
  refine W.eq (g2 := F0 m 805 ls [.int (Int32.ofInt (op_hit S (ka xs (n + 1)) (ka xs (n + 2)) (ka xs (n + 3)))), .int (Int32.ofInt (op_hit S (ka xs (n + 1)) (ka xs (n + 2)) (ka xs (n + 3))))]) rfl ?_
  exact kg_eqI rfl C dl_805 (by decide) (kk _ _ _ ⟨MX, MN, hPX, hPN, hmX, hmN, eX, eN, hI, hS⟩)
set_option maxHeartbeats 4000000 in
theorem kc_explain : kw_case 810 := by
  intro p l e s m below meth c b L xs D cA adX adN H locs ls n S Qf C hL hn hl hd kk
  obtain ⟨MX, MN, hPX, hPN, hmX, hmN, eX, eN, hI, hS⟩ := hd
  refine lv_aload_n C.hx C.hb dl_810 rfl (lv_at hl 2 rfl) ?_
  refine kg_arg (k := 1) C hL hn hl hS (by decide) dl_811 dl_812 dl_813 dl_814 dl_815 ?_
  refine kg_callV (Lc := LX) (ad := adX) (M := MX) (ci := 5) (T := TX5) (N := 10) (k := 1) (as := [.inl (ka xs (n + 1))]) (rest := []) (Q := fun v M' => v = some (.inl (op_explain S (ka xs (n + 1)))) ∧ ff_X M' = S) C so_X5_explain q_421 q_72 ⟨by decide +kernel, by decide +kernel, by decide +kernel⟩ q_418 q_419 q_420 rfl rfl ⟨by decide, by decide⟩ (List.forall_mem_cons.mpr ⟨ka_ri xs _, fun _ h => absurd h List.not_mem_nil⟩) hmX (by unfold sp_X5_explain; exact ⟨rfl, by rw [eX]; exact hI, fun M' h => ⟨by rw [eX], by rw [h, eX]⟩⟩) rfl hPX (C.hDX _) C.hAX hS hPN (C.hdX _) hl (Nat.le_of_ble_eq_true rfl) rfl dl_816 (fun v MX H locs hQ hmX hPX hPN hS => ?_)
  obtain ⟨rfl, eX⟩ := hQ
  refine W.eq (g2 := F0 m 819 ls [.int (Int32.ofInt (op_explain S (ka xs (n + 1))))]) rfl ?_
  refine lv_aload_n C.hx C.hb dl_819 rfl (lv_at hl 1 rfl) ?_
  refine kg_arg (k := 1) C hL hn hl hS (by decide) dl_820 dl_821 dl_822 dl_823 dl_824 ?_
  refine kg_callV (Lc := LM) (ad := adN) (M := MN) (ci := 6) (T := TX6) (N := 28) (k := 1) (as := [.inl (ka xs (n + 1))]) (rest := [.int (Int32.ofInt (op_explain S (ka xs (n + 1))))]) (Q := fun v M' => v = some (.inl (op_explain S (ka xs (n + 1)))) ∧ ff_N M' = S) C so_X6_explain q_918 q_78 ⟨by decide +kernel, by decide +kernel, by decide +kernel⟩ q_915 q_916 q_917 rfl rfl ⟨by decide, by decide⟩ (List.forall_mem_cons.mpr ⟨ka_ri xs _, fun _ h => absurd h List.not_mem_nil⟩) hmN (by unfold sp_X6_explain; exact ⟨rfl, by rw [eN]; exact hI, fun M' h => ⟨by rw [eN], by rw [h, eN]⟩⟩) rfl hPN (C.hDN _) C.hAN hS hPX (C.hdN _) hl (Nat.le_of_ble_eq_true rfl) rfl dl_825 (fun v MN H locs hQ hmN hPN hPX hS => ?_)
  obtain ⟨rfl, eN⟩ := hQ
  refine W.eq (g2 := F0 m 828 ls [.int (Int32.ofInt (op_explain S (ka xs (n + 1)))), .int (Int32.ofInt (op_explain S (ka xs (n + 1))))]) rfl ?_
  exact kg_eqI rfl C dl_828 (by decide) (kk _ _ _ ⟨MX, MN, hPX, hPN, hmX, hmN, eX, eN, hI, hS⟩)
set_option maxHeartbeats 4000000 in
theorem kc_chance : kw_case 833 := by
  intro p l e s m below meth c b L xs D cA adX adN H locs ls n S Qf C hL hn hl hd kk
  obtain ⟨MX, MN, hPX, hPN, hmX, hmN, eX, eN, hI, hS⟩ := hd
  refine lv_aload_n C.hx C.hb dl_833 rfl (lv_at hl 2 rfl) ?_
  refine kg_arg (k := 1) C hL hn hl hS (by decide) dl_834 dl_835 dl_836 dl_837 dl_838 ?_
  refine kg_arg (k := 2) C hL hn hl hS (by decide) dl_839 dl_840 dl_841 dl_842 dl_843 ?_
  refine kg_arg (k := 3) C hL hn hl hS (by decide) dl_844 dl_845 dl_846 dl_847 dl_848 ?_
  refine kg_bool C dl_849 dl_852 dl_853 dl_856 ?_
  refine kg_callV (Lc := LX) (ad := adX) (M := MX) (ci := 5) (T := TX5) (N := 10) (k := 3) (as := [.inl (ka xs (n + 1)), .inl (ka xs (n + 2)), .inl (kb (Int32.ofInt (ka xs (n + 3))))]) (rest := []) (Q := fun v M' => v = some (.inr (.inl (op_chance S (ka xs (n + 1)) (ka xs (n + 2)) (kb (Int32.ofInt (ka xs (n + 3))))))) ∧ ff_X M' = S) C so_X5_chance q_433 q_72 ⟨by decide +kernel, by decide +kernel, by decide +kernel⟩ q_430 q_431 q_432 rfl rfl ⟨by decide, by decide⟩ (List.forall_mem_cons.mpr ⟨ka_ri xs _, List.forall_mem_cons.mpr ⟨ka_ri xs _, List.forall_mem_cons.mpr ⟨kb_ri _, fun _ h => absurd h List.not_mem_nil⟩⟩⟩) hmX (by unfold sp_X5_chance; exact ⟨rfl, by rw [eX]; exact hI, kb_01 _, fun M' h => ⟨by rw [eX], by rw [h, eX]⟩⟩) rfl hPX (C.hDX _) C.hAX hS hPN (C.hdX _) hl (Nat.le_of_ble_eq_true rfl) rfl dl_857 (fun v MX H locs hQ hmX hPX hPN hS => ?_)
  obtain ⟨rfl, eX⟩ := hQ
  refine W.eq (g2 := F0 m 860 ls [.long (Int64.ofInt (op_chance S (ka xs (n + 1)) (ka xs (n + 2)) (kb (Int32.ofInt (ka xs (n + 3))))))]) rfl ?_
  refine lv_aload_n C.hx C.hb dl_860 rfl (lv_at hl 1 rfl) ?_
  refine kg_arg (k := 1) C hL hn hl hS (by decide) dl_861 dl_862 dl_863 dl_864 dl_865 ?_
  refine kg_arg (k := 2) C hL hn hl hS (by decide) dl_866 dl_867 dl_868 dl_869 dl_870 ?_
  refine kg_arg (k := 3) C hL hn hl hS (by decide) dl_871 dl_872 dl_873 dl_874 dl_875 ?_
  refine kg_bool C dl_876 dl_879 dl_880 dl_883 ?_
  refine kg_callV (Lc := LM) (ad := adN) (M := MN) (ci := 6) (T := TX6) (N := 28) (k := 3) (as := [.inl (ka xs (n + 1)), .inl (ka xs (n + 2)), .inl (kb (Int32.ofInt (ka xs (n + 3))))]) (rest := [.long (Int64.ofInt (op_chance S (ka xs (n + 1)) (ka xs (n + 2)) (kb (Int32.ofInt (ka xs (n + 3))))))]) (Q := fun v M' => v = some (.inr (.inl (op_chance S (ka xs (n + 1)) (ka xs (n + 2)) (kb (Int32.ofInt (ka xs (n + 3))))))) ∧ ff_N M' = S) C so_X6_chance q_926 q_78 ⟨by decide +kernel, by decide +kernel, by decide +kernel⟩ q_923 q_924 q_925 rfl rfl ⟨by decide, by decide⟩ (List.forall_mem_cons.mpr ⟨ka_ri xs _, List.forall_mem_cons.mpr ⟨ka_ri xs _, List.forall_mem_cons.mpr ⟨kb_ri _, fun _ h => absurd h List.not_mem_nil⟩⟩⟩) hmN (by unfold sp_X6_chance; exact ⟨rfl, by rw [eN]; exact hI, kb_01 _, fun M' h => ⟨by rw [eN], by rw [h, eN]⟩⟩) rfl hPN (C.hDN _) C.hAN hS hPX (C.hdN _) hl (Nat.le_of_ble_eq_true rfl) rfl dl_884 (fun v MN H locs hQ hmN hPN hPX hS => ?_)
  obtain ⟨rfl, eN⟩ := hQ
  refine W.eq (g2 := F0 m 887 ls [.long (Int64.ofInt (op_chance S (ka xs (n + 1)) (ka xs (n + 2)) (kb (Int32.ofInt (ka xs (n + 3)))))), .long (Int64.ofInt (op_chance S (ka xs (n + 1)) (ka xs (n + 2)) (kb (Int32.ofInt (ka xs (n + 3))))))]) rfl ?_
  exact kg_eqL rfl C dl_887 dl_888 (by decide) (kk _ _ _ ⟨MX, MN, hPX, hPN, hmX, hmN, eX, eN, hI, hS⟩)
set_option maxHeartbeats 4000000 in
theorem kc_weight : kw_case 893 := by
  intro p l e s m below meth c b L xs D cA adX adN H locs ls n S Qf C hL hn hl hd kk
  obtain ⟨MX, MN, hPX, hPN, hmX, hmN, eX, eN, hI, hS⟩ := hd
  refine lv_aload_n C.hx C.hb dl_893 rfl (lv_at hl 2 rfl) ?_
  refine kg_arg (k := 1) C hL hn hl hS (by decide) dl_894 dl_895 dl_896 dl_897 dl_898 ?_
  refine kg_arg (k := 2) C hL hn hl hS (by decide) dl_899 dl_900 dl_901 dl_902 dl_903 ?_
  refine kg_callV (Lc := LX) (ad := adX) (M := MX) (ci := 5) (T := TX5) (N := 10) (k := 2) (as := [.inl (ka xs (n + 1)), .inl (ka xs (n + 2))]) (rest := []) (Q := fun v M' => v = some (.inl (op_weight S (ka xs (n + 1)) (ka xs (n + 2)))) ∧ ff_X M' = op_weight_s S (ka xs (n + 1)) (ka xs (n + 2))) C so_X5_weight q_444 q_72 ⟨by decide +kernel, by decide +kernel, by decide +kernel⟩ q_441 q_442 q_443 rfl rfl ⟨by decide, by decide⟩ (List.forall_mem_cons.mpr ⟨ka_ri xs _, List.forall_mem_cons.mpr ⟨ka_ri xs _, fun _ h => absurd h List.not_mem_nil⟩⟩) hmX (by unfold sp_X5_weight; exact ⟨rfl, by rw [eX]; exact hI, fun M' h => ⟨by rw [eX], by rw [h, eX]⟩⟩) rfl hPX (C.hDX _) C.hAX hS hPN (C.hdX _) hl (Nat.le_of_ble_eq_true rfl) rfl dl_904 (fun v MX H locs hQ hmX hPX hPN hS => ?_)
  obtain ⟨rfl, eX⟩ := hQ
  refine W.eq (g2 := F0 m 907 ls [.int (Int32.ofInt (op_weight S (ka xs (n + 1)) (ka xs (n + 2))))]) rfl ?_
  refine lv_aload_n C.hx C.hb dl_907 rfl (lv_at hl 1 rfl) ?_
  refine kg_arg (k := 1) C hL hn hl hS (by decide) dl_908 dl_909 dl_910 dl_911 dl_912 ?_
  refine kg_arg (k := 2) C hL hn hl hS (by decide) dl_913 dl_914 dl_915 dl_916 dl_917 ?_
  refine kg_callV (Lc := LM) (ad := adN) (M := MN) (ci := 6) (T := TX6) (N := 28) (k := 2) (as := [.inl (ka xs (n + 1)), .inl (ka xs (n + 2))]) (rest := [.int (Int32.ofInt (op_weight S (ka xs (n + 1)) (ka xs (n + 2))))]) (Q := fun v M' => v = some (.inl (op_weight S (ka xs (n + 1)) (ka xs (n + 2)))) ∧ ff_N M' = op_weight_s S (ka xs (n + 1)) (ka xs (n + 2))) C so_X6_weight q_934 q_78 ⟨by decide +kernel, by decide +kernel, by decide +kernel⟩ q_931 q_932 q_933 rfl rfl ⟨by decide, by decide⟩ (List.forall_mem_cons.mpr ⟨ka_ri xs _, List.forall_mem_cons.mpr ⟨ka_ri xs _, fun _ h => absurd h List.not_mem_nil⟩⟩) hmN (by unfold sp_X6_weight; exact ⟨rfl, by rw [eN]; exact hI, fun M' h => ⟨by rw [eN], by rw [h, eN]⟩⟩) rfl hPN (C.hDN _) C.hAN hS hPX (C.hdN _) hl (Nat.le_of_ble_eq_true rfl) rfl dl_918 (fun v MN H locs hQ hmN hPN hPX hS => ?_)
  obtain ⟨rfl, eN⟩ := hQ
  refine W.eq (g2 := F0 m 921 ls [.int (Int32.ofInt (op_weight S (ka xs (n + 1)) (ka xs (n + 2)))), .int (Int32.ofInt (op_weight S (ka xs (n + 1)) (ka xs (n + 2))))]) rfl ?_
  exact kg_eqI rfl C dl_921 (by decide) (kk _ _ _ ⟨MX, MN, hPX, hPN, hmX, hmN, eX, eN, (ff_Inv_weight hI _ _), hS⟩)
set_option maxHeartbeats 4000000 in
theorem kc_odds : kw_case 926 := by
  intro p l e s m below meth c b L xs D cA adX adN H locs ls n S Qf C hL hn hl hd kk
  obtain ⟨MX, MN, hPX, hPN, hmX, hmN, eX, eN, hI, hS⟩ := hd
  refine lv_aload_n C.hx C.hb dl_926 rfl (lv_at hl 2 rfl) ?_
  refine kg_arg (k := 1) C hL hn hl hS (by decide) dl_927 dl_928 dl_929 dl_930 dl_931 ?_
  refine kg_arg (k := 2) C hL hn hl hS (by decide) dl_932 dl_933 dl_934 dl_935 dl_936 ?_
  refine kg_arg (k := 3) C hL hn hl hS (by decide) dl_937 dl_938 dl_939 dl_940 dl_941 ?_
  refine kg_bool C dl_942 dl_945 dl_946 dl_949 ?_
  refine kg_callV (Lc := LX) (ad := adX) (M := MX) (ci := 5) (T := TX5) (N := 10) (k := 3) (as := [.inl (ka xs (n + 1)), .inl (ka xs (n + 2)), .inl (kb (Int32.ofInt (ka xs (n + 3))))]) (rest := []) (Q := fun v M' => v = some (.inr (.inl (op_odds S (ka xs (n + 1)) (ka xs (n + 2)) (kb (Int32.ofInt (ka xs (n + 3))))))) ∧ ff_X M' = S) C so_X5_odds q_449 q_72 ⟨by decide +kernel, by decide +kernel, by decide +kernel⟩ q_446 q_447 q_448 rfl rfl ⟨by decide, by decide⟩ (List.forall_mem_cons.mpr ⟨ka_ri xs _, List.forall_mem_cons.mpr ⟨ka_ri xs _, List.forall_mem_cons.mpr ⟨kb_ri _, fun _ h => absurd h List.not_mem_nil⟩⟩⟩) hmX (by unfold sp_X5_odds; exact ⟨rfl, by rw [eX]; exact hI, kb_01 _, fun M' h => ⟨by rw [eX], by rw [h, eX]⟩⟩) rfl hPX (C.hDX _) C.hAX hS hPN (C.hdX _) hl (Nat.le_of_ble_eq_true rfl) rfl dl_950 (fun v MX H locs hQ hmX hPX hPN hS => ?_)
  obtain ⟨rfl, eX⟩ := hQ
  refine W.eq (g2 := F0 m 953 ls [.long (Int64.ofInt (op_odds S (ka xs (n + 1)) (ka xs (n + 2)) (kb (Int32.ofInt (ka xs (n + 3))))))]) rfl ?_
  refine lv_aload_n C.hx C.hb dl_953 rfl (lv_at hl 1 rfl) ?_
  refine kg_arg (k := 1) C hL hn hl hS (by decide) dl_954 dl_955 dl_956 dl_957 dl_958 ?_
  refine kg_arg (k := 2) C hL hn hl hS (by decide) dl_959 dl_960 dl_961 dl_962 dl_963 ?_
  refine kg_arg (k := 3) C hL hn hl hS (by decide) dl_964 dl_965 dl_966 dl_967 dl_968 ?_
  refine kg_bool C dl_969 dl_972 dl_973 dl_976 ?_
  refine kg_callV (Lc := LM) (ad := adN) (M := MN) (ci := 6) (T := TX6) (N := 28) (k := 3) (as := [.inl (ka xs (n + 1)), .inl (ka xs (n + 2)), .inl (kb (Int32.ofInt (ka xs (n + 3))))]) (rest := [.long (Int64.ofInt (op_odds S (ka xs (n + 1)) (ka xs (n + 2)) (kb (Int32.ofInt (ka xs (n + 3))))))]) (Q := fun v M' => v = some (.inr (.inl (op_odds S (ka xs (n + 1)) (ka xs (n + 2)) (kb (Int32.ofInt (ka xs (n + 3))))))) ∧ ff_N M' = S) C so_X6_odds q_938 q_78 ⟨by decide +kernel, by decide +kernel, by decide +kernel⟩ q_935 q_936 q_937 rfl rfl ⟨by decide, by decide⟩ (List.forall_mem_cons.mpr ⟨ka_ri xs _, List.forall_mem_cons.mpr ⟨ka_ri xs _, List.forall_mem_cons.mpr ⟨kb_ri _, fun _ h => absurd h List.not_mem_nil⟩⟩⟩) hmN (by unfold sp_X6_odds; exact ⟨rfl, by rw [eN]; exact hI, kb_01 _, fun M' h => ⟨by rw [eN], by rw [h, eN]⟩⟩) rfl hPN (C.hDN _) C.hAN hS hPX (C.hdN _) hl (Nat.le_of_ble_eq_true rfl) rfl dl_977 (fun v MN H locs hQ hmN hPN hPX hS => ?_)
  obtain ⟨rfl, eN⟩ := hQ
  refine W.eq (g2 := F0 m 980 ls [.long (Int64.ofInt (op_odds S (ka xs (n + 1)) (ka xs (n + 2)) (kb (Int32.ofInt (ka xs (n + 3)))))), .long (Int64.ofInt (op_odds S (ka xs (n + 1)) (ka xs (n + 2)) (kb (Int32.ofInt (ka xs (n + 3))))))]) rfl ?_
  exact kg_eqL rfl C dl_980 dl_981 (by decide) (kk _ _ _ ⟨MX, MN, hPX, hPN, hmX, hmN, eX, eN, hI, hS⟩)
set_option maxHeartbeats 4000000 in
theorem kc_best : kw_case 986 := by
  intro p l e s m below meth c b L xs D cA adX adN H locs ls n S Qf C hL hn hl hd kk
  obtain ⟨MX, MN, hPX, hPN, hmX, hmN, eX, eN, hI, hS⟩ := hd
  refine lv_aload_n C.hx C.hb dl_986 rfl (lv_at hl 2 rfl) ?_
  refine kg_arg (k := 1) C hL hn hl hS (by decide) dl_987 dl_988 dl_989 dl_990 dl_991 ?_
  refine kg_callV (Lc := LX) (ad := adX) (M := MX) (ci := 5) (T := TX5) (N := 10) (k := 1) (as := [.inl (ka xs (n + 1))]) (rest := []) (Q := fun v M' => v = some (.inl (op_best S (ka xs (n + 1)))) ∧ ff_X M' = S) C so_X5_best q_458 q_72 ⟨by decide +kernel, by decide +kernel, by decide +kernel⟩ q_455 q_456 q_457 rfl rfl ⟨by decide, by decide⟩ (List.forall_mem_cons.mpr ⟨ka_ri xs _, fun _ h => absurd h List.not_mem_nil⟩) hmX (by unfold sp_X5_best; exact ⟨rfl, by rw [eX]; exact hI, fun M' h => ⟨by rw [eX], by rw [h, eX]⟩⟩) rfl hPX (C.hDX _) C.hAX hS hPN (C.hdX _) hl (Nat.le_of_ble_eq_true rfl) rfl dl_992 (fun v MX H locs hQ hmX hPX hPN hS => ?_)
  obtain ⟨rfl, eX⟩ := hQ
  refine W.eq (g2 := F0 m 995 ls [.int (Int32.ofInt (op_best S (ka xs (n + 1))))]) rfl ?_
  refine lv_aload_n C.hx C.hb dl_995 rfl (lv_at hl 1 rfl) ?_
  refine kg_arg (k := 1) C hL hn hl hS (by decide) dl_996 dl_997 dl_998 dl_999 dl_1000 ?_
  refine kg_callV (Lc := LM) (ad := adN) (M := MN) (ci := 6) (T := TX6) (N := 28) (k := 1) (as := [.inl (ka xs (n + 1))]) (rest := [.int (Int32.ofInt (op_best S (ka xs (n + 1))))]) (Q := fun v M' => v = some (.inl (op_best S (ka xs (n + 1)))) ∧ ff_N M' = S) C so_X6_best q_947 q_78 ⟨by decide +kernel, by decide +kernel, by decide +kernel⟩ q_944 q_945 q_946 rfl rfl ⟨by decide, by decide⟩ (List.forall_mem_cons.mpr ⟨ka_ri xs _, fun _ h => absurd h List.not_mem_nil⟩) hmN (by unfold sp_X6_best; exact ⟨rfl, by rw [eN]; exact hI, fun M' h => ⟨by rw [eN], by rw [h, eN]⟩⟩) rfl hPN (C.hDN _) C.hAN hS hPX (C.hdN _) hl (Nat.le_of_ble_eq_true rfl) rfl dl_1001 (fun v MN H locs hQ hmN hPN hPX hS => ?_)
  obtain ⟨rfl, eN⟩ := hQ
  refine W.eq (g2 := F0 m 1004 ls [.int (Int32.ofInt (op_best S (ka xs (n + 1)))), .int (Int32.ofInt (op_best S (ka xs (n + 1))))]) rfl ?_
  exact kg_eqI rfl C dl_1004 (by decide) (kk _ _ _ ⟨MX, MN, hPX, hPN, hmX, hmN, eX, eN, hI, hS⟩)
set_option maxHeartbeats 4000000 in
theorem kc_fewest : kw_case 1009 := by
  intro p l e s m below meth c b L xs D cA adX adN H locs ls n S Qf C hL hn hl hd kk
  obtain ⟨MX, MN, hPX, hPN, hmX, hmN, eX, eN, hI, hS⟩ := hd
  refine lv_aload_n C.hx C.hb dl_1009 rfl (lv_at hl 2 rfl) ?_
  refine kg_callV (Lc := LX) (ad := adX) (M := MX) (ci := 5) (T := TX5) (N := 10) (k := 0) (as := []) (rest := []) (Q := fun v M' => v = some (.inl (op_fewest S)) ∧ ff_X M' = S) C so_X5_fewest q_462 q_72 ⟨by decide +kernel, by decide +kernel, by decide +kernel⟩ q_459 q_460 q_461 rfl rfl ⟨by decide, by decide⟩ (fun _ h => absurd h List.not_mem_nil) hmX (by unfold sp_X5_fewest; exact ⟨rfl, by rw [eX]; exact hI, fun M' h => ⟨by rw [eX], by rw [h, eX]⟩⟩) rfl hPX (C.hDX _) C.hAX hS hPN (C.hdX _) hl (Nat.le_of_ble_eq_true rfl) rfl dl_1010 (fun v MX H locs hQ hmX hPX hPN hS => ?_)
  obtain ⟨rfl, eX⟩ := hQ
  refine W.eq (g2 := F0 m 1013 ls [.int (Int32.ofInt (op_fewest S))]) rfl ?_
  refine lv_aload_n C.hx C.hb dl_1013 rfl (lv_at hl 1 rfl) ?_
  refine kg_callV (Lc := LM) (ad := adN) (M := MN) (ci := 6) (T := TX6) (N := 28) (k := 0) (as := []) (rest := [.int (Int32.ofInt (op_fewest S))]) (Q := fun v M' => v = some (.inl (op_fewest S)) ∧ ff_N M' = S) C so_X6_fewest q_951 q_78 ⟨by decide +kernel, by decide +kernel, by decide +kernel⟩ q_948 q_949 q_950 rfl rfl ⟨by decide, by decide⟩ (fun _ h => absurd h List.not_mem_nil) hmN (by unfold sp_X6_fewest; exact ⟨rfl, by rw [eN]; exact hI, fun M' h => ⟨by rw [eN], by rw [h, eN]⟩⟩) rfl hPN (C.hDN _) C.hAN hS hPX (C.hdN _) hl (Nat.le_of_ble_eq_true rfl) rfl dl_1014 (fun v MN H locs hQ hmN hPN hPX hS => ?_)
  obtain ⟨rfl, eN⟩ := hQ
  refine W.eq (g2 := F0 m 1017 ls [.int (Int32.ofInt (op_fewest S)), .int (Int32.ofInt (op_fewest S))]) rfl ?_
  exact kg_eqI rfl C dl_1017 (by decide) (kk _ _ _ ⟨MX, MN, hPX, hPN, hmX, hmN, eX, eN, hI, hS⟩)
set_option maxHeartbeats 4000000 in
theorem kc_look : kw_case 1022 := by
  intro p l e s m below meth c b L xs D cA adX adN H locs ls n S Qf C hL hn hl hd kk
  obtain ⟨MX, MN, hPX, hPN, hmX, hmN, eX, eN, hI, hS⟩ := hd
  refine lv_aload_n C.hx C.hb dl_1022 rfl (lv_at hl 2 rfl) ?_
  refine kg_callV (Lc := LX) (ad := adX) (M := MX) (ci := 5) (T := TX5) (N := 10) (k := 0) (as := []) (rest := []) (Q := fun v M' => v = some (.inl (op_look S)) ∧ ff_X M' = S) C so_X5_look q_476 q_72 ⟨by decide +kernel, by decide +kernel, by decide +kernel⟩ q_473 q_474 q_475 rfl rfl ⟨by decide, by decide⟩ (fun _ h => absurd h List.not_mem_nil) hmX (by unfold sp_X5_look; exact ⟨rfl, by rw [eX]; exact hI, fun M' h => ⟨by rw [eX], by rw [h, eX]⟩⟩) rfl hPX (C.hDX _) C.hAX hS hPN (C.hdX _) hl (Nat.le_of_ble_eq_true rfl) rfl dl_1023 (fun v MX H locs hQ hmX hPX hPN hS => ?_)
  obtain ⟨rfl, eX⟩ := hQ
  refine W.eq (g2 := F0 m 1026 ls [.int (Int32.ofInt (op_look S))]) rfl ?_
  refine lv_aload_n C.hx C.hb dl_1026 rfl (lv_at hl 1 rfl) ?_
  refine kg_callV (Lc := LM) (ad := adN) (M := MN) (ci := 6) (T := TX6) (N := 28) (k := 0) (as := []) (rest := [.int (Int32.ofInt (op_look S))]) (Q := fun v M' => v = some (.inl (op_look S)) ∧ ff_N M' = S) C so_X6_look q_958 q_78 ⟨by decide +kernel, by decide +kernel, by decide +kernel⟩ q_955 q_956 q_957 rfl rfl ⟨by decide, by decide⟩ (fun _ h => absurd h List.not_mem_nil) hmN (by unfold sp_X6_look; exact ⟨rfl, by rw [eN]; exact hI, fun M' h => ⟨by rw [eN], by rw [h, eN]⟩⟩) rfl hPN (C.hDN _) C.hAN hS hPX (C.hdN _) hl (Nat.le_of_ble_eq_true rfl) rfl dl_1027 (fun v MN H locs hQ hmN hPN hPX hS => ?_)
  obtain ⟨rfl, eN⟩ := hQ
  refine W.eq (g2 := F0 m 1030 ls [.int (Int32.ofInt (op_look S)), .int (Int32.ofInt (op_look S))]) rfl ?_
  exact kg_eqI rfl C dl_1030 (by decide) (kk _ _ _ ⟨MX, MN, hPX, hPN, hmX, hmN, eX, eN, hI, hS⟩)
set_option maxHeartbeats 4000000 in
theorem kc_days : kw_case 1035 := by
  intro p l e s m below meth c b L xs D cA adX adN H locs ls n S Qf C hL hn hl hd kk
  obtain ⟨MX, MN, hPX, hPN, hmX, hmN, eX, eN, hI, hS⟩ := hd
  refine lv_aload_n C.hx C.hb dl_1035 rfl (lv_at hl 2 rfl) ?_
  refine kg_arg (k := 1) C hL hn hl hS (by decide) dl_1036 dl_1037 dl_1038 dl_1039 dl_1040 ?_
  refine kg_callV (Lc := LX) (ad := adX) (M := MX) (ci := 5) (T := TX5) (N := 10) (k := 1) (as := [.inl (ka xs (n + 1))]) (rest := []) (Q := fun v M' => v = some (.inl (op_days S (ka xs (n + 1)))) ∧ ff_X M' = S) C so_X5_days q_480 q_72 ⟨by decide +kernel, by decide +kernel, by decide +kernel⟩ q_477 q_478 q_479 rfl rfl ⟨by decide, by decide⟩ (List.forall_mem_cons.mpr ⟨ka_ri xs _, fun _ h => absurd h List.not_mem_nil⟩) hmX (by unfold sp_X5_days; exact ⟨rfl, by rw [eX]; exact hI, fun M' h => ⟨by rw [eX], by rw [h, eX]⟩⟩) rfl hPX (C.hDX _) C.hAX hS hPN (C.hdX _) hl (Nat.le_of_ble_eq_true rfl) rfl dl_1041 (fun v MX H locs hQ hmX hPX hPN hS => ?_)
  obtain ⟨rfl, eX⟩ := hQ
  refine W.eq (g2 := F0 m 1044 ls [.int (Int32.ofInt (op_days S (ka xs (n + 1))))]) rfl ?_
  refine lv_aload_n C.hx C.hb dl_1044 rfl (lv_at hl 1 rfl) ?_
  refine kg_arg (k := 1) C hL hn hl hS (by decide) dl_1045 dl_1046 dl_1047 dl_1048 dl_1049 ?_
  refine kg_callV (Lc := LM) (ad := adN) (M := MN) (ci := 6) (T := TX6) (N := 28) (k := 1) (as := [.inl (ka xs (n + 1))]) (rest := [.int (Int32.ofInt (op_days S (ka xs (n + 1))))]) (Q := fun v M' => v = some (.inl (op_days S (ka xs (n + 1)))) ∧ ff_N M' = S) C so_X6_days q_962 q_78 ⟨by decide +kernel, by decide +kernel, by decide +kernel⟩ q_959 q_960 q_961 rfl rfl ⟨by decide, by decide⟩ (List.forall_mem_cons.mpr ⟨ka_ri xs _, fun _ h => absurd h List.not_mem_nil⟩) hmN (by unfold sp_X6_days; exact ⟨rfl, by rw [eN]; exact hI, fun M' h => ⟨by rw [eN], by rw [h, eN]⟩⟩) rfl hPN (C.hDN _) C.hAN hS hPX (C.hdN _) hl (Nat.le_of_ble_eq_true rfl) rfl dl_1050 (fun v MN H locs hQ hmN hPN hPX hS => ?_)
  obtain ⟨rfl, eN⟩ := hQ
  refine W.eq (g2 := F0 m 1053 ls [.int (Int32.ofInt (op_days S (ka xs (n + 1)))), .int (Int32.ofInt (op_days S (ka xs (n + 1))))]) rfl ?_
  exact kg_eqI rfl C dl_1053 (by decide) (kk _ _ _ ⟨MX, MN, hPX, hPN, hmX, hmN, eX, eN, hI, hS⟩)
set_option maxHeartbeats 4000000 in
theorem kc_on : kw_case 1058 := by
  intro p l e s m below meth c b L xs D cA adX adN H locs ls n S Qf C hL hn hl hd kk
  obtain ⟨MX, MN, hPX, hPN, hmX, hmN, eX, eN, hI, hS⟩ := hd
  refine lv_aload_n C.hx C.hb dl_1058 rfl (lv_at hl 2 rfl) ?_
  refine kg_arg (k := 1) C hL hn hl hS (by decide) dl_1059 dl_1060 dl_1061 dl_1062 dl_1063 ?_
  refine kg_arg (k := 2) C hL hn hl hS (by decide) dl_1064 dl_1065 dl_1066 dl_1067 dl_1068 ?_
  refine kg_callV (Lc := LX) (ad := adX) (M := MX) (ci := 5) (T := TX5) (N := 10) (k := 2) (as := [.inl (ka xs (n + 1)), .inl (ka xs (n + 2))]) (rest := []) (Q := fun v M' => v = some (.inl (op_on S (ka xs (n + 1)) (ka xs (n + 2)))) ∧ ff_X M' = S) C so_X5_on q_488 q_72 ⟨by decide +kernel, by decide +kernel, by decide +kernel⟩ q_485 q_486 q_487 rfl rfl ⟨by decide, by decide⟩ (List.forall_mem_cons.mpr ⟨ka_ri xs _, List.forall_mem_cons.mpr ⟨ka_ri xs _, fun _ h => absurd h List.not_mem_nil⟩⟩) hmX (by unfold sp_X5_on; exact ⟨rfl, by rw [eX]; exact hI, fun M' h => ⟨by rw [eX], by rw [h, eX]⟩⟩) rfl hPX (C.hDX _) C.hAX hS hPN (C.hdX _) hl (Nat.le_of_ble_eq_true rfl) rfl dl_1069 (fun v MX H locs hQ hmX hPX hPN hS => ?_)
  obtain ⟨rfl, eX⟩ := hQ
  refine W.eq (g2 := F0 m 1072 ls [.int (Int32.ofInt (op_on S (ka xs (n + 1)) (ka xs (n + 2))))]) rfl ?_
  refine lv_aload_n C.hx C.hb dl_1072 rfl (lv_at hl 1 rfl) ?_
  refine kg_arg (k := 1) C hL hn hl hS (by decide) dl_1073 dl_1074 dl_1075 dl_1076 dl_1077 ?_
  refine kg_arg (k := 2) C hL hn hl hS (by decide) dl_1078 dl_1079 dl_1080 dl_1081 dl_1082 ?_
  refine kg_callV (Lc := LM) (ad := adN) (M := MN) (ci := 6) (T := TX6) (N := 28) (k := 2) (as := [.inl (ka xs (n + 1)), .inl (ka xs (n + 2))]) (rest := [.int (Int32.ofInt (op_on S (ka xs (n + 1)) (ka xs (n + 2))))]) (Q := fun v M' => v = some (.inl (op_on S (ka xs (n + 1)) (ka xs (n + 2)))) ∧ ff_N M' = S) C so_X6_on q_966 q_78 ⟨by decide +kernel, by decide +kernel, by decide +kernel⟩ q_963 q_964 q_965 rfl rfl ⟨by decide, by decide⟩ (List.forall_mem_cons.mpr ⟨ka_ri xs _, List.forall_mem_cons.mpr ⟨ka_ri xs _, fun _ h => absurd h List.not_mem_nil⟩⟩) hmN (by unfold sp_X6_on; exact ⟨rfl, by rw [eN]; exact hI, fun M' h => ⟨by rw [eN], by rw [h, eN]⟩⟩) rfl hPN (C.hDN _) C.hAN hS hPX (C.hdN _) hl (Nat.le_of_ble_eq_true rfl) rfl dl_1083 (fun v MN H locs hQ hmN hPN hPX hS => ?_)
  obtain ⟨rfl, eN⟩ := hQ
  refine W.eq (g2 := F0 m 1086 ls [.int (Int32.ofInt (op_on S (ka xs (n + 1)) (ka xs (n + 2)))), .int (Int32.ofInt (op_on S (ka xs (n + 1)) (ka xs (n + 2))))]) rfl ?_
  exact kg_eqI rfl C dl_1086 (by decide) (kk _ _ _ ⟨MX, MN, hPX, hPN, hmX, hmN, eX, eN, hI, hS⟩)
set_option maxHeartbeats 4000000 in
theorem kc_own : kw_case 1091 := by
  intro p l e s m below meth c b L xs D cA adX adN H locs ls n S Qf C hL hn hl hd kk
  obtain ⟨MX, MN, hPX, hPN, hmX, hmN, eX, eN, hI, hS⟩ := hd
  refine lv_aload_n C.hx C.hb dl_1091 rfl (lv_at hl 2 rfl) ?_
  refine kg_callV (Lc := LX) (ad := adX) (M := MX) (ci := 5) (T := TX5) (N := 10) (k := 0) (as := []) (rest := []) (Q := fun v M' => v = some (.inl (op_own S)) ∧ ff_X M' = S) C so_X5_own q_492 q_72 ⟨by decide +kernel, by decide +kernel, by decide +kernel⟩ q_489 q_490 q_491 rfl rfl ⟨by decide, by decide⟩ (fun _ h => absurd h List.not_mem_nil) hmX (by unfold sp_X5_own; exact ⟨rfl, by rw [eX]; exact hI, fun M' h => ⟨by rw [eX], by rw [h, eX]⟩⟩) rfl hPX (C.hDX _) C.hAX hS hPN (C.hdX _) hl (Nat.le_of_ble_eq_true rfl) rfl dl_1092 (fun v MX H locs hQ hmX hPX hPN hS => ?_)
  obtain ⟨rfl, eX⟩ := hQ
  refine W.eq (g2 := F0 m 1095 ls [.int (Int32.ofInt (op_own S))]) rfl ?_
  refine lv_aload_n C.hx C.hb dl_1095 rfl (lv_at hl 1 rfl) ?_
  refine kg_callV (Lc := LM) (ad := adN) (M := MN) (ci := 6) (T := TX6) (N := 28) (k := 0) (as := []) (rest := [.int (Int32.ofInt (op_own S))]) (Q := fun v M' => v = some (.inl (op_own S)) ∧ ff_N M' = S) C so_X6_own q_970 q_78 ⟨by decide +kernel, by decide +kernel, by decide +kernel⟩ q_967 q_968 q_969 rfl rfl ⟨by decide, by decide⟩ (fun _ h => absurd h List.not_mem_nil) hmN (by unfold sp_X6_own; exact ⟨rfl, by rw [eN]; exact hI, fun M' h => ⟨by rw [eN], by rw [h, eN]⟩⟩) rfl hPN (C.hDN _) C.hAN hS hPX (C.hdN _) hl (Nat.le_of_ble_eq_true rfl) rfl dl_1096 (fun v MN H locs hQ hmN hPN hPX hS => ?_)
  obtain ⟨rfl, eN⟩ := hQ
  refine W.eq (g2 := F0 m 1099 ls [.int (Int32.ofInt (op_own S)), .int (Int32.ofInt (op_own S))]) rfl ?_
  exact kg_eqI rfl C dl_1099 (by decide) (kk _ _ _ ⟨MX, MN, hPX, hPN, hmX, hmN, eX, eN, hI, hS⟩)

