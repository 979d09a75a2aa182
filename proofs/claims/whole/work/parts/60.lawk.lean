/-! the law: certificates (printed by gen/law.py) -/
theorem K_La_law_c23 (n : Nat) (E : zE) (r18 : Nat × Nat × Int32 × zS × zH → Option (Bool × zS × zH)) (a1 : Nat) (a2 : Nat) (x3 : Int32) (S : zS) (M : zH) (r : Bool) (S' : zS) (M' : zH) (kc nc : Nat) (hkc : kc + 6 ≤ 3214) (hnc : nc + 2567 ≤ 1341798) (hr18 : ∀ (a1 : Nat) (a2 : Nat) (x3 : Int32) (S : zS) (M : zH), r18 (a1, a2, x3, S, M) = some (r, S', M') → zG E Y_La_law (some (.int (bI r)), S', M') 18 [(0, .ref (eb E)), (1, .ref a1), (2, .ref a2), (3, .int x3)] [] S M (kc + 6) (nc + 2567)) (h : F_La_law_c23 n E r18 a1 a2 x3 S M = some (r, S', M')) : zG E Y_La_law (some (.int (bI r)), S', M') 821 [(0, .ref (eb E)), (1, .ref a1), (2, .ref a2), (3, .int x3)] [] S M kc nc := by
  unfold F_La_law_c23 at h
  refine zi_aload_n 1 d_La_law_821 rfl ?_
  refine zi_aload_n 0 d_La_law_822 rfl ?_
  refine zi_iload_n 3 d_La_law_823 rfl ?_
  refine zi_iconst 1 d_La_law_824 rfl ?_
  refine zi_iadd d_La_law_825 ?_
  obtain ⟨v_1, ev_1, h⟩ := zbind h
  refine zo_scr 827 d_La_law_826 ev_1 rfl ?_
  refine zi_aload_n 0 d_La_law_827 rfl ?_
  refine zi_iload_n 3 d_La_law_828 rfl ?_
  refine zi_iconst 2 d_La_law_829 rfl ?_
  refine zi_iadd d_La_law_830 ?_
  obtain ⟨v_2, ev_2, h⟩ := zbind h
  refine zo_scr 832 d_La_law_831 ev_2 rfl ?_
  obtain ⟨u_3, eu_3, h⟩ := zbind h
  obtain ⟨q_4, eq_4, h⟩ := zbind h
  refine zo_virt (k' := kc) (n' := nc) 835 [.int v_1, .int v_2] [] [.int q_4.1] zkd_10 (zck_s eu_3) (C_NC_seen n E S a1 v_1 v_2 M q_4.1 q_4.2 eq_4) d_La_law_832 tw_1017 tw_1014 tw_1015 tw_1016 tw_1 dd_NC_seen ⟨Nat.le_of_ble_eq_true rfl, Nat.le_of_ble_eq_true rfl, zle6 hkc (Nat.le_of_ble_eq_true rfl), zle6 hnc (Nat.le_of_ble_eq_true rfl)⟩ (Nat.le_of_ble_eq_true rfl) rfl rfl rfl rfl ?_
  refine zi_aload_n 2 d_La_law_835 rfl ?_
  refine zi_aload_n 0 d_La_law_836 rfl ?_
  refine zi_iload_n 3 d_La_law_837 rfl ?_
  refine zi_iconst 1 d_La_law_838 rfl ?_
  refine zi_iadd d_La_law_839 ?_
  obtain ⟨v_5, ev_5, h⟩ := zbind h
  refine zo_scr 841 d_La_law_840 ev_5 rfl ?_
  refine zi_aload_n 0 d_La_law_841 rfl ?_
  refine zi_iload_n 3 d_La_law_842 rfl ?_
  refine zi_iconst 2 d_La_law_843 rfl ?_
  refine zi_iadd d_La_law_844 ?_
  obtain ⟨v_6, ev_6, h⟩ := zbind h
  refine zo_scr 846 d_La_law_845 ev_6 rfl ?_
  obtain ⟨u_7, eu_7, h⟩ := zbind h
  obtain ⟨q_8, eq_8, h⟩ := zbind h
  refine zo_virt (k' := kc) (n' := nc) 849 [.int v_5, .int v_6] [.int q_4.1] [.int q_8.1, .int q_4.1] zkd_11 (zck_s eu_7) (C_Mo_seen n E S a2 v_5 v_6 q_4.2 q_8.1 q_8.2 eq_8) d_La_law_846 tw_1768 tw_1765 tw_1766 tw_1767 tw_13 dd_Mo_seen ⟨Nat.le_of_ble_eq_true rfl, Nat.le_of_ble_eq_true rfl, zle6 hkc (Nat.le_of_ble_eq_true rfl), zle6 hnc (Nat.le_of_ble_eq_true rfl)⟩ (Nat.le_of_ble_eq_true rfl) rfl rfl rfl rfl ?_
  refine zi_icmp_eq (tgt := 1286) d_La_law_849 rfl (fun c_9 => ?_) (fun c_9 => ?_)
  · rw [if_pos c_9] at h
    refine zi_lo [(0, .ref (eb E)), (1, .ref a1), (2, .ref a2), (3, .int x3)] [0, 1, 2, 3] rfl ?_
    refine zi_wide (kc + 6) (nc + 2567) (Nat.le_add_right _ _) (Nat.le_add_right _ _) ?_
    exact K_La_law_b1286 n E r18 a1 a2 x3 S q_8.2 r S' M' kc nc hr18 h
  · rw [if_neg c_9] at h
    refine zi_iconst 0 d_La_law_852 rfl ?_
    cases h
    exact zo_retB d_La_law_853 (zleR hkc) (zleR hnc) rfl
theorem K_La_law_c24 (n : Nat) (E : zE) (r18 : Nat × Nat × Int32 × zS × zH → Option (Bool × zS × zH)) (a1 : Nat) (a2 : Nat) (x3 : Int32) (S : zS) (M : zH) (r : Bool) (S' : zS) (M' : zH) (kc nc : Nat) (hkc : kc + 6 ≤ 3214) (hnc : nc + 2567 ≤ 1341798) (hr18 : ∀ (a1 : Nat) (a2 : Nat) (x3 : Int32) (S : zS) (M : zH), r18 (a1, a2, x3, S, M) = some (r, S', M') → zG E Y_La_law (some (.int (bI r)), S', M') 18 [(0, .ref (eb E)), (1, .ref a1), (2, .ref a2), (3, .int x3)] [] S M (kc + 6) (nc + 2567)) (h : F_La_law_c24 n E r18 a1 a2 x3 S M = some (r, S', M')) : zG E Y_La_law (some (.int (bI r)), S', M') 854 [(0, .ref (eb E)), (1, .ref a1), (2, .ref a2), (3, .int x3)] [] S M kc nc := by
  unfold F_La_law_c24 at h
  refine zi_aload_n 1 d_La_law_854 rfl ?_
  obtain ⟨u_1, eu_1, h⟩ := zbind h
  obtain ⟨q_2, eq_2, h⟩ := zbind h
  refine zo_virt (k' := kc) (n' := nc) 858 [] [] [.int q_2.1] zkd_10 (zck_s eu_1) (C_NC_forget n E S a1 M q_2.1 q_2.2 eq_2) d_La_law_855 tw_1025 tw_1022 tw_1023 tw_1024 tw_1 dd_NC_forget ⟨Nat.le_of_ble_eq_true rfl, Nat.le_of_ble_eq_true rfl, zle6 hkc (Nat.le_of_ble_eq_true rfl), zle6 hnc (Nat.le_of_ble_eq_true rfl)⟩ (Nat.le_of_ble_eq_true rfl) rfl rfl rfl rfl ?_
  refine zi_aload_n 2 d_La_law_858 rfl ?_
  obtain ⟨u_3, eu_3, h⟩ := zbind h
  obtain ⟨q_4, eq_4, h⟩ := zbind h
  refine zo_virt (k' := kc) (n' := nc) 862 [] [.int q_2.1] [.int q_4.1, .int q_2.1] zkd_11 (zck_s eu_3) (C_Mo_forget n E S a2 q_2.2 q_4.1 q_4.2 eq_4) d_La_law_859 tw_1772 tw_1769 tw_1770 tw_1771 tw_13 dd_Mo_forget ⟨Nat.le_of_ble_eq_true rfl, Nat.le_of_ble_eq_true rfl, zle6 hkc (Nat.le_of_ble_eq_true rfl), zle6 hnc (Nat.le_of_ble_eq_true rfl)⟩ (Nat.le_of_ble_eq_true rfl) rfl rfl rfl rfl ?_
  refine zi_icmp_eq (tgt := 1286) d_La_law_862 rfl (fun c_5 => ?_) (fun c_5 => ?_)
  · rw [if_pos c_5] at h
    refine zi_lo [(0, .ref (eb E)), (1, .ref a1), (2, .ref a2), (3, .int x3)] [0, 1, 2, 3] rfl ?_
    refine zi_wide (kc + 6) (nc + 2567) (Nat.le_add_right _ _) (Nat.le_add_right _ _) ?_
    exact K_La_law_b1286 n E r18 a1 a2 x3 S q_4.2 r S' M' kc nc hr18 h
  · rw [if_neg c_5] at h
    refine zi_iconst 0 d_La_law_865 rfl ?_
    cases h
    exact zo_retB d_La_law_866 (zleR hkc) (zleR hnc) rfl
theorem K_La_law_c25 (n : Nat) (E : zE) (r18 : Nat × Nat × Int32 × zS × zH → Option (Bool × zS × zH)) (a1 : Nat) (a2 : Nat) (x3 : Int32) (S : zS) (M : zH) (r : Bool) (S' : zS) (M' : zH) (kc nc : Nat) (hkc : kc + 6 ≤ 3214) (hnc : nc + 2567 ≤ 1341798) (hr18 : ∀ (a1 : Nat) (a2 : Nat) (x3 : Int32) (S : zS) (M : zH), r18 (a1, a2, x3, S, M) = some (r, S', M') → zG E Y_La_law (some (.int (bI r)), S', M') 18 [(0, .ref (eb E)), (1, .ref a1), (2, .ref a2), (3, .int x3)] [] S M (kc + 6) (nc + 2567)) (h : F_La_law_c25 n E r18 a1 a2 x3 S M = some (r, S', M')) : zG E Y_La_law (some (.int (bI r)), S', M') 867 [(0, .ref (eb E)), (1, .ref a1), (2, .ref a2), (3, .int x3)] [] S M kc nc := by
  unfold F_La_law_c25 at h
  refine zi_aload_n 1 d_La_law_867 rfl ?_
  refine zi_aload_n 0 d_La_law_868 rfl ?_
  refine zi_iload_n 3 d_La_law_869 rfl ?_
  refine zi_iconst 1 d_La_law_870 rfl ?_
  refine zi_iadd d_La_law_871 ?_
  obtain ⟨v_1, ev_1, h⟩ := zbind h
  refine zo_scr 873 d_La_law_872 ev_1 rfl ?_
  obtain ⟨u_2, eu_2, h⟩ := zbind h
  obtain ⟨q_3, eq_3, h⟩ := zbind h
  refine zo_virt (k' := kc) (n' := nc) 876 [.int v_1] [] [.int q_3.1] zkd_10 (zck_s eu_2) (C_NC_settings n E S a1 v_1 M q_3.1 q_3.2 eq_3) d_La_law_873 tw_1029 tw_1026 tw_1027 tw_1028 tw_1 dd_NC_settings ⟨Nat.le_of_ble_eq_true rfl, Nat.le_of_ble_eq_true rfl, zle6 hkc (Nat.le_of_ble_eq_true rfl), zle6 hnc (Nat.le_of_ble_eq_true rfl)⟩ (Nat.le_of_ble_eq_true rfl) rfl rfl rfl rfl ?_
  refine zi_aload_n 2 d_La_law_876 rfl ?_
  refine zi_aload_n 0 d_La_law_877 rfl ?_
  refine zi_iload_n 3 d_La_law_878 rfl ?_
  refine zi_iconst 1 d_La_law_879 rfl ?_
  refine zi_iadd d_La_law_880 ?_
  obtain ⟨v_4, ev_4, h⟩ := zbind h
  refine zo_scr 882 d_La_law_881 ev_4 rfl ?_
  obtain ⟨u_5, eu_5, h⟩ := zbind h
  obtain ⟨q_6, eq_6, h⟩ := zbind h
  refine zo_virt (k' := kc) (n' := nc) 885 [.int v_4] [.int q_3.1] [.int q_6.1, .int q_3.1] zkd_11 (zck_s eu_5) (C_Mo_settings n E S a2 v_4 q_3.2 q_6.1 q_6.2 eq_6) d_La_law_882 tw_1776 tw_1773 tw_1774 tw_1775 tw_13 dd_Mo_settings ⟨Nat.le_of_ble_eq_true rfl, Nat.le_of_ble_eq_true rfl, zle6 hkc (Nat.le_of_ble_eq_true rfl), zle6 hnc (Nat.le_of_ble_eq_true rfl)⟩ (Nat.le_of_ble_eq_true rfl) rfl rfl rfl rfl ?_
  refine zi_icmp_eq (tgt := 1286) d_La_law_885 rfl (fun c_7 => ?_) (fun c_7 => ?_)
  · rw [if_pos c_7] at h
    refine zi_lo [(0, .ref (eb E)), (1, .ref a1), (2, .ref a2), (3, .int x3)] [0, 1, 2, 3] rfl ?_
    refine zi_wide (kc + 6) (nc + 2567) (Nat.le_add_right _ _) (Nat.le_add_right _ _) ?_
    exact K_La_law_b1286 n E r18 a1 a2 x3 S q_6.2 r S' M' kc nc hr18 h
  · rw [if_neg c_7] at h
    refine zi_iconst 0 d_La_law_888 rfl ?_
    cases h
    exact zo_retB d_La_law_889 (zleR hkc) (zleR hnc) rfl
theorem K_La_law_c26 (n : Nat) (E : zE) (r18 : Nat × Nat × Int32 × zS × zH → Option (Bool × zS × zH)) (a1 : Nat) (a2 : Nat) (x3 : Int32) (S : zS) (M : zH) (r : Bool) (S' : zS) (M' : zH) (kc nc : Nat) (hkc : kc + 6 ≤ 3214) (hnc : nc + 2567 ≤ 1341798) (hr18 : ∀ (a1 : Nat) (a2 : Nat) (x3 : Int32) (S : zS) (M : zH), r18 (a1, a2, x3, S, M) = some (r, S', M') → zG E Y_La_law (some (.int (bI r)), S', M') 18 [(0, .ref (eb E)), (1, .ref a1), (2, .ref a2), (3, .int x3)] [] S M (kc + 6) (nc + 2567)) (h : F_La_law_c26 n E r18 a1 a2 x3 S M = some (r, S', M')) : zG E Y_La_law (some (.int (bI r)), S', M') 890 [(0, .ref (eb E)), (1, .ref a1), (2, .ref a2), (3, .int x3)] [] S M kc nc := by
  unfold F_La_law_c26 at h
  refine zi_aload_n 1 d_La_law_890 rfl ?_
  refine zi_aload_n 0 d_La_law_891 rfl ?_
  refine zi_iload_n 3 d_La_law_892 rfl ?_
  refine zi_iconst 1 d_La_law_893 rfl ?_
  refine zi_iadd d_La_law_894 ?_
  obtain ⟨v_1, ev_1, h⟩ := zbind h
  refine zo_scr 896 d_La_law_895 ev_1 rfl ?_
  obtain ⟨u_2, eu_2, h⟩ := zbind h
  obtain ⟨q_3, eq_3, h⟩ := zbind h
  refine zo_virt (k' := kc) (n' := nc) 899 [.int v_1] [] [.int q_3.1] zkd_10 (zck_s eu_2) (C_NC_look n E S a1 v_1 M q_3.1 q_3.2 eq_3) d_La_law_896 tw_1061 tw_1058 tw_1059 tw_1060 tw_1 dd_NC_look ⟨Nat.le_of_ble_eq_true rfl, Nat.le_of_ble_eq_true rfl, zle6 hkc (Nat.le_of_ble_eq_true rfl), zle6 hnc (Nat.le_of_ble_eq_true rfl)⟩ (Nat.le_of_ble_eq_true rfl) rfl rfl rfl rfl ?_
  refine zi_aload_n 2 d_La_law_899 rfl ?_
  refine zi_aload_n 0 d_La_law_900 rfl ?_
  refine zi_iload_n 3 d_La_law_901 rfl ?_
  refine zi_iconst 1 d_La_law_902 rfl ?_
  refine zi_iadd d_La_law_903 ?_
  obtain ⟨v_4, ev_4, h⟩ := zbind h
  refine zo_scr 905 d_La_law_904 ev_4 rfl ?_
  obtain ⟨u_5, eu_5, h⟩ := zbind h
  obtain ⟨q_6, eq_6, h⟩ := zbind h
  refine zo_virt (k' := kc) (n' := nc) 908 [.int v_4] [.int q_3.1] [.int q_6.1, .int q_3.1] zkd_11 (zck_s eu_5) (C_Mo_look n E S a2 v_4 q_3.2 q_6.1 q_6.2 eq_6) d_La_law_905 tw_1798 tw_1795 tw_1796 tw_1797 tw_13 dd_Mo_look ⟨Nat.le_of_ble_eq_true rfl, Nat.le_of_ble_eq_true rfl, zle6 hkc (Nat.le_of_ble_eq_true rfl), zle6 hnc (Nat.le_of_ble_eq_true rfl)⟩ (Nat.le_of_ble_eq_true rfl) rfl rfl rfl rfl ?_
  refine zi_icmp_eq (tgt := 1286) d_La_law_908 rfl (fun c_7 => ?_) (fun c_7 => ?_)
  · rw [if_pos c_7] at h
    refine zi_lo [(0, .ref (eb E)), (1, .ref a1), (2, .ref a2), (3, .int x3)] [0, 1, 2, 3] rfl ?_
    refine zi_wide (kc + 6) (nc + 2567) (Nat.le_add_right _ _) (Nat.le_add_right _ _) ?_
    exact K_La_law_b1286 n E r18 a1 a2 x3 S q_6.2 r S' M' kc nc hr18 h
  · rw [if_neg c_7] at h
    refine zi_iconst 0 d_La_law_911 rfl ?_
    cases h
    exact zo_retB d_La_law_912 (zleR hkc) (zleR hnc) rfl
theorem K_La_law_c27 (n : Nat) (E : zE) (r18 : Nat × Nat × Int32 × zS × zH → Option (Bool × zS × zH)) (a1 : Nat) (a2 : Nat) (x3 : Int32) (S : zS) (M : zH) (r : Bool) (S' : zS) (M' : zH) (kc nc : Nat) (hkc : kc + 6 ≤ 3214) (hnc : nc + 2567 ≤ 1341798) (hr18 : ∀ (a1 : Nat) (a2 : Nat) (x3 : Int32) (S : zS) (M : zH), r18 (a1, a2, x3, S, M) = some (r, S', M') → zG E Y_La_law (some (.int (bI r)), S', M') 18 [(0, .ref (eb E)), (1, .ref a1), (2, .ref a2), (3, .int x3)] [] S M (kc + 6) (nc + 2567)) (h : F_La_law_c27 n E r18 a1 a2 x3 S M = some (r, S', M')) : zG E Y_La_law (some (.int (bI r)), S', M') 913 [(0, .ref (eb E)), (1, .ref a1), (2, .ref a2), (3, .int x3)] [] S M kc nc := by
  unfold F_La_law_c27 at h
  refine zi_aload_n 1 d_La_law_913 rfl ?_
  refine zi_aload_n 0 d_La_law_914 rfl ?_
  refine zi_iload_n 3 d_La_law_915 rfl ?_
  refine zi_iconst 1 d_La_law_916 rfl ?_
  refine zi_iadd d_La_law_917 ?_
  obtain ⟨v_1, ev_1, h⟩ := zbind h
  refine zo_scr 919 d_La_law_918 ev_1 rfl ?_
  obtain ⟨u_2, eu_2, h⟩ := zbind h
  obtain ⟨q_3, eq_3, h⟩ := zbind h
  refine zo_virt (k' := kc) (n' := nc) 922 [.int v_1] [] [.int q_3.1] zkd_10 (zck_s eu_2) (C_NC_turned n E S a1 v_1 M q_3.1 q_3.2 eq_3) d_La_law_919 tw_1077 tw_1074 tw_1075 tw_1076 tw_1 dd_NC_turned ⟨Nat.le_of_ble_eq_true rfl, Nat.le_of_ble_eq_true rfl, zle6 hkc (Nat.le_of_ble_eq_true rfl), zle6 hnc (Nat.le_of_ble_eq_true rfl)⟩ (Nat.le_of_ble_eq_true rfl) rfl rfl rfl rfl ?_
  refine zi_aload_n 2 d_La_law_922 rfl ?_
  refine zi_aload_n 0 d_La_law_923 rfl ?_
  refine zi_iload_n 3 d_La_law_924 rfl ?_
  refine zi_iconst 1 d_La_law_925 rfl ?_
  refine zi_iadd d_La_law_926 ?_
  obtain ⟨v_4, ev_4, h⟩ := zbind h
  refine zo_scr 928 d_La_law_927 ev_4 rfl ?_
  obtain ⟨u_5, eu_5, h⟩ := zbind h
  obtain ⟨q_6, eq_6, h⟩ := zbind h
  refine zo_virt (k' := kc) (n' := nc) 931 [.int v_4] [.int q_3.1] [.int q_6.1, .int q_3.1] zkd_11 (zck_s eu_5) (C_Mo_turned n E S a2 v_4 q_3.2 q_6.1 q_6.2 eq_6) d_La_law_928 tw_1803 tw_1800 tw_1801 tw_1802 tw_13 dd_Mo_turned ⟨Nat.le_of_ble_eq_true rfl, Nat.le_of_ble_eq_true rfl, zle6 hkc (Nat.le_of_ble_eq_true rfl), zle6 hnc (Nat.le_of_ble_eq_true rfl)⟩ (Nat.le_of_ble_eq_true rfl) rfl rfl rfl rfl ?_
  refine zi_icmp_eq (tgt := 1286) d_La_law_931 rfl (fun c_7 => ?_) (fun c_7 => ?_)
  · rw [if_pos c_7] at h
    refine zi_lo [(0, .ref (eb E)), (1, .ref a1), (2, .ref a2), (3, .int x3)] [0, 1, 2, 3] rfl ?_
    refine zi_wide (kc + 6) (nc + 2567) (Nat.le_add_right _ _) (Nat.le_add_right _ _) ?_
    exact K_La_law_b1286 n E r18 a1 a2 x3 S q_6.2 r S' M' kc nc hr18 h
  · rw [if_neg c_7] at h
    refine zi_iconst 0 d_La_law_934 rfl ?_
    cases h
    exact zo_retB d_La_law_935 (zleR hkc) (zleR hnc) rfl
theorem K_La_law_c28 (n : Nat) (E : zE) (r18 : Nat × Nat × Int32 × zS × zH → Option (Bool × zS × zH)) (a1 : Nat) (a2 : Nat) (x3 : Int32) (S : zS) (M : zH) (r : Bool) (S' : zS) (M' : zH) (kc nc : Nat) (hkc : kc + 6 ≤ 3214) (hnc : nc + 2567 ≤ 1341798) (hr18 : ∀ (a1 : Nat) (a2 : Nat) (x3 : Int32) (S : zS) (M : zH), r18 (a1, a2, x3, S, M) = some (r, S', M') → zG E Y_La_law (some (.int (bI r)), S', M') 18 [(0, .ref (eb E)), (1, .ref a1), (2, .ref a2), (3, .int x3)] [] S M (kc + 6) (nc + 2567)) (h : F_La_law_c28 n E r18 a1 a2 x3 S M = some (r, S', M')) : zG E Y_La_law (some (.int (bI r)), S', M') 936 [(0, .ref (eb E)), (1, .ref a1), (2, .ref a2), (3, .int x3)] [] S M kc nc := by
  unfold F_La_law_c28 at h
  refine zi_aload_n 1 d_La_law_936 rfl ?_
  refine zi_aload_n 0 d_La_law_937 rfl ?_
  refine zi_iload_n 3 d_La_law_938 rfl ?_
  refine zi_iconst 1 d_La_law_939 rfl ?_
  refine zi_iadd d_La_law_940 ?_
  obtain ⟨v_1, ev_1, h⟩ := zbind h
  refine zo_scr 942 d_La_law_941 ev_1 rfl ?_
  refine zi_aload_n 0 d_La_law_942 rfl ?_
  refine zi_iload_n 3 d_La_law_943 rfl ?_
  refine zi_iconst 2 d_La_law_944 rfl ?_
  refine zi_iadd d_La_law_945 ?_
  obtain ⟨v_2, ev_2, h⟩ := zbind h
  refine zo_scr 947 d_La_law_946 ev_2 rfl ?_
  refine zi_aload_n 0 d_La_law_947 rfl ?_
  refine zi_iload_n 3 d_La_law_948 rfl ?_
  refine zi_iconst 3 d_La_law_949 rfl ?_
  refine zi_iadd d_La_law_950 ?_
  obtain ⟨v_3, ev_3, h⟩ := zbind h
  refine zo_scr 952 d_La_law_951 ev_3 rfl ?_
  obtain ⟨u_4, eu_4, h⟩ := zbind h
  obtain ⟨q_5, eq_5, h⟩ := zbind h
  refine zo_virt (k' := kc) (n' := nc) 955 [.int v_1, .int v_2, .int v_3] [] [.int q_5.1] zkd_10 (zck_s eu_4) (C_NC_cleared n E S a1 v_1 v_2 v_3 M q_5.1 q_5.2 eq_5) d_La_law_952 tw_1093 tw_1090 tw_1091 tw_1092 tw_1 dd_NC_cleared ⟨Nat.le_of_ble_eq_true rfl, Nat.le_of_ble_eq_true rfl, zle6 hkc (Nat.le_of_ble_eq_true rfl), zle6 hnc (Nat.le_of_ble_eq_true rfl)⟩ (Nat.le_of_ble_eq_true rfl) rfl rfl rfl rfl ?_
  refine zi_aload_n 2 d_La_law_955 rfl ?_
  refine zi_aload_n 0 d_La_law_956 rfl ?_
  refine zi_iload_n 3 d_La_law_957 rfl ?_
  refine zi_iconst 1 d_La_law_958 rfl ?_
  refine zi_iadd d_La_law_959 ?_
  obtain ⟨v_6, ev_6, h⟩ := zbind h
  refine zo_scr 961 d_La_law_960 ev_6 rfl ?_
  refine zi_aload_n 0 d_La_law_961 rfl ?_
  refine zi_iload_n 3 d_La_law_962 rfl ?_
  refine zi_iconst 2 d_La_law_963 rfl ?_
  refine zi_iadd d_La_law_964 ?_
  obtain ⟨v_7, ev_7, h⟩ := zbind h
  refine zo_scr 966 d_La_law_965 ev_7 rfl ?_
  refine zi_aload_n 0 d_La_law_966 rfl ?_
  refine zi_iload_n 3 d_La_law_967 rfl ?_
  refine zi_iconst 3 d_La_law_968 rfl ?_
  refine zi_iadd d_La_law_969 ?_
  obtain ⟨v_8, ev_8, h⟩ := zbind h
  refine zo_scr 971 d_La_law_970 ev_8 rfl ?_
  obtain ⟨u_9, eu_9, h⟩ := zbind h
  obtain ⟨q_10, eq_10, h⟩ := zbind h
  refine zo_virt (k' := kc) (n' := nc) 974 [.int v_6, .int v_7, .int v_8] [.int q_5.1] [.int q_10.1, .int q_5.1] zkd_11 (zck_s eu_9) (C_Mo_cleared n E S a2 v_6 v_7 v_8 q_5.2 q_10.1 q_10.2 eq_10) d_La_law_971 tw_1815 tw_1812 tw_1813 tw_1814 tw_13 dd_Mo_cleared ⟨Nat.le_of_ble_eq_true rfl, Nat.le_of_ble_eq_true rfl, zle6 hkc (Nat.le_of_ble_eq_true rfl), zle6 hnc (Nat.le_of_ble_eq_true rfl)⟩ (Nat.le_of_ble_eq_true rfl) rfl rfl rfl rfl ?_
  refine zi_icmp_eq (tgt := 1286) d_La_law_974 rfl (fun c_11 => ?_) (fun c_11 => ?_)
  · rw [if_pos c_11] at h
    refine zi_lo [(0, .ref (eb E)), (1, .ref a1), (2, .ref a2), (3, .int x3)] [0, 1, 2, 3] rfl ?_
    refine zi_wide (kc + 6) (nc + 2567) (Nat.le_add_right _ _) (Nat.le_add_right _ _) ?_
    exact K_La_law_b1286 n E r18 a1 a2 x3 S q_10.2 r S' M' kc nc hr18 h
  · rw [if_neg c_11] at h
    refine zi_iconst 0 d_La_law_977 rfl ?_
    cases h
    exact zo_retB d_La_law_978 (zleR hkc) (zleR hnc) rfl
theorem K_La_law_c29 (n : Nat) (E : zE) (r18 : Nat × Nat × Int32 × zS × zH → Option (Bool × zS × zH)) (a1 : Nat) (a2 : Nat) (x3 : Int32) (S : zS) (M : zH) (r : Bool) (S' : zS) (M' : zH) (kc nc : Nat) (hkc : kc + 6 ≤ 3214) (hnc : nc + 2567 ≤ 1341798) (hr18 : ∀ (a1 : Nat) (a2 : Nat) (x3 : Int32) (S : zS) (M : zH), r18 (a1, a2, x3, S, M) = some (r, S', M') → zG E Y_La_law (some (.int (bI r)), S', M') 18 [(0, .ref (eb E)), (1, .ref a1), (2, .ref a2), (3, .int x3)] [] S M (kc + 6) (nc + 2567)) (h : F_La_law_c29 n E r18 a1 a2 x3 S M = some (r, S', M')) : zG E Y_La_law (some (.int (bI r)), S', M') 979 [(0, .ref (eb E)), (1, .ref a1), (2, .ref a2), (3, .int x3)] [] S M kc nc := by
  unfold F_La_law_c29 at h
  refine zi_aload_n 1 d_La_law_979 rfl ?_
  refine zi_aload_n 0 d_La_law_980 rfl ?_
  refine zi_iload_n 3 d_La_law_981 rfl ?_
  refine zi_iconst 1 d_La_law_982 rfl ?_
  refine zi_iadd d_La_law_983 ?_
  obtain ⟨v_1, ev_1, h⟩ := zbind h
  refine zo_scr 985 d_La_law_984 ev_1 rfl ?_
  obtain ⟨u_2, eu_2, h⟩ := zbind h
  obtain ⟨q_3, eq_3, h⟩ := zbind h
  refine zo_virt (k' := kc) (n' := nc) 988 [.int v_1] [] [.int q_3.1] zkd_10 (zck_s eu_2) (C_NC_drought n E S a1 v_1 M q_3.1 q_3.2 eq_3) d_La_law_985 tw_1113 tw_1110 tw_1111 tw_1112 tw_1 dd_NC_drought ⟨Nat.le_of_ble_eq_true rfl, Nat.le_of_ble_eq_true rfl, zle6 hkc (Nat.le_of_ble_eq_true rfl), zle6 hnc (Nat.le_of_ble_eq_true rfl)⟩ (Nat.le_of_ble_eq_true rfl) rfl rfl rfl rfl ?_
  refine zi_aload_n 2 d_La_law_988 rfl ?_
  refine zi_aload_n 0 d_La_law_989 rfl ?_
  refine zi_iload_n 3 d_La_law_990 rfl ?_
  refine zi_iconst 1 d_La_law_991 rfl ?_
  refine zi_iadd d_La_law_992 ?_
  obtain ⟨v_4, ev_4, h⟩ := zbind h
  refine zo_scr 994 d_La_law_993 ev_4 rfl ?_
  obtain ⟨u_5, eu_5, h⟩ := zbind h
  obtain ⟨q_6, eq_6, h⟩ := zbind h
  refine zo_virt (k' := kc) (n' := nc) 997 [.int v_4] [.int q_3.1] [.int q_6.1, .int q_3.1] zkd_11 (zck_s eu_5) (C_Mo_drought n E S a2 v_4 q_3.2 q_6.1 q_6.2 eq_6) d_La_law_994 tw_1822 tw_1819 tw_1820 tw_1821 tw_13 dd_Mo_drought ⟨Nat.le_of_ble_eq_true rfl, Nat.le_of_ble_eq_true rfl, zle6 hkc (Nat.le_of_ble_eq_true rfl), zle6 hnc (Nat.le_of_ble_eq_true rfl)⟩ (Nat.le_of_ble_eq_true rfl) rfl rfl rfl rfl ?_
  refine zi_icmp_eq (tgt := 1286) d_La_law_997 rfl (fun c_7 => ?_) (fun c_7 => ?_)
  · rw [if_pos c_7] at h
    refine zi_lo [(0, .ref (eb E)), (1, .ref a1), (2, .ref a2), (3, .int x3)] [0, 1, 2, 3] rfl ?_
    refine zi_wide (kc + 6) (nc + 2567) (Nat.le_add_right _ _) (Nat.le_add_right _ _) ?_
    exact K_La_law_b1286 n E r18 a1 a2 x3 S q_6.2 r S' M' kc nc hr18 h
  · rw [if_neg c_7] at h
    refine zi_iconst 0 d_La_law_1000 rfl ?_
    cases h
    exact zo_retB d_La_law_1001 (zleR hkc) (zleR hnc) rfl
theorem K_La_law_c30 (n : Nat) (E : zE) (r18 : Nat × Nat × Int32 × zS × zH → Option (Bool × zS × zH)) (a1 : Nat) (a2 : Nat) (x3 : Int32) (S : zS) (M : zH) (r : Bool) (S' : zS) (M' : zH) (kc nc : Nat) (hkc : kc + 6 ≤ 3214) (hnc : nc + 2567 ≤ 1341798) (hr18 : ∀ (a1 : Nat) (a2 : Nat) (x3 : Int32) (S : zS) (M : zH), r18 (a1, a2, x3, S, M) = some (r, S', M') → zG E Y_La_law (some (.int (bI r)), S', M') 18 [(0, .ref (eb E)), (1, .ref a1), (2, .ref a2), (3, .int x3)] [] S M (kc + 6) (nc + 2567)) (h : F_La_law_c30 n E r18 a1 a2 x3 S M = some (r, S', M')) : zG E Y_La_law (some (.int (bI r)), S', M') 1002 [(0, .ref (eb E)), (1, .ref a1), (2, .ref a2), (3, .int x3)] [] S M kc nc := by
  unfold F_La_law_c30 at h
  refine zi_aload_n 1 d_La_law_1002 rfl ?_
  refine zi_aload_n 0 d_La_law_1003 rfl ?_
  refine zi_iload_n 3 d_La_law_1004 rfl ?_
  refine zi_iconst 1 d_La_law_1005 rfl ?_
  refine zi_iadd d_La_law_1006 ?_
  obtain ⟨v_1, ev_1, h⟩ := zbind h
  refine zo_scr 1008 d_La_law_1007 ev_1 rfl ?_
  obtain ⟨u_2, eu_2, h⟩ := zbind h
  obtain ⟨q_3, eq_3, h⟩ := zbind h
  refine zo_virt (k' := kc) (n' := nc) 1011 [.int v_1] [] [.int q_3.1] zkd_10 (zck_s eu_2) (C_NC_luck n E S a1 v_1 M q_3.1 q_3.2 eq_3) d_La_law_1008 tw_1121 tw_1118 tw_1119 tw_1120 tw_1 dd_NC_luck ⟨Nat.le_of_ble_eq_true rfl, Nat.le_of_ble_eq_true rfl, zle6 hkc (Nat.le_of_ble_eq_true rfl), zle6 hnc (Nat.le_of_ble_eq_true rfl)⟩ (Nat.le_of_ble_eq_true rfl) rfl rfl rfl rfl ?_
  refine zi_aload_n 2 d_La_law_1011 rfl ?_
  refine zi_aload_n 0 d_La_law_1012 rfl ?_
  refine zi_iload_n 3 d_La_law_1013 rfl ?_
  refine zi_iconst 1 d_La_law_1014 rfl ?_
  refine zi_iadd d_La_law_1015 ?_
  obtain ⟨v_4, ev_4, h⟩ := zbind h
  refine zo_scr 1017 d_La_law_1016 ev_4 rfl ?_
  obtain ⟨u_5, eu_5, h⟩ := zbind h
  obtain ⟨q_6, eq_6, h⟩ := zbind h
  refine zo_virt (k' := kc) (n' := nc) 1020 [.int v_4] [.int q_3.1] [.int q_6.1, .int q_3.1] zkd_11 (zck_s eu_5) (C_Mo_luck n E S a2 v_4 q_3.2 q_6.1 q_6.2 eq_6) d_La_law_1017 tw_1826 tw_1823 tw_1824 tw_1825 tw_13 dd_Mo_luck ⟨Nat.le_of_ble_eq_true rfl, Nat.le_of_ble_eq_true rfl, zle6 hkc (Nat.le_of_ble_eq_true rfl), zle6 hnc (Nat.le_of_ble_eq_true rfl)⟩ (Nat.le_of_ble_eq_true rfl) rfl rfl rfl rfl ?_
  refine zi_icmp_eq (tgt := 1286) d_La_law_1020 rfl (fun c_7 => ?_) (fun c_7 => ?_)
  · rw [if_pos c_7] at h
    refine zi_lo [(0, .ref (eb E)), (1, .ref a1), (2, .ref a2), (3, .int x3)] [0, 1, 2, 3] rfl ?_
    refine zi_wide (kc + 6) (nc + 2567) (Nat.le_add_right _ _) (Nat.le_add_right _ _) ?_
    exact K_La_law_b1286 n E r18 a1 a2 x3 S q_6.2 r S' M' kc nc hr18 h
  · rw [if_neg c_7] at h
    refine zi_iconst 0 d_La_law_1023 rfl ?_
    cases h
    exact zo_retB d_La_law_1024 (zleR hkc) (zleR hnc) rfl
theorem K_La_law_c31 (n : Nat) (E : zE) (r18 : Nat × Nat × Int32 × zS × zH → Option (Bool × zS × zH)) (a1 : Nat) (a2 : Nat) (x3 : Int32) (S : zS) (M : zH) (r : Bool) (S' : zS) (M' : zH) (kc nc : Nat) (hkc : kc + 6 ≤ 3214) (hnc : nc + 2567 ≤ 1341798) (hr18 : ∀ (a1 : Nat) (a2 : Nat) (x3 : Int32) (S : zS) (M : zH), r18 (a1, a2, x3, S, M) = some (r, S', M') → zG E Y_La_law (some (.int (bI r)), S', M') 18 [(0, .ref (eb E)), (1, .ref a1), (2, .ref a2), (3, .int x3)] [] S M (kc + 6) (nc + 2567)) (h : F_La_law_c31 n E r18 a1 a2 x3 S M = some (r, S', M')) : zG E Y_La_law (some (.int (bI r)), S', M') 1025 [(0, .ref (eb E)), (1, .ref a1), (2, .ref a2), (3, .int x3)] [] S M kc nc := by
  unfold F_La_law_c31 at h
  refine zi_aload_n 1 d_La_law_1025 rfl ?_
  refine zi_aload_n 0 d_La_law_1026 rfl ?_
  refine zi_iload_n 3 d_La_law_1027 rfl ?_
  refine zi_iconst 1 d_La_law_1028 rfl ?_
  refine zi_iadd d_La_law_1029 ?_
  obtain ⟨v_1, ev_1, h⟩ := zbind h
  refine zo_scr 1031 d_La_law_1030 ev_1 rfl ?_
  refine zi_aload_n 0 d_La_law_1031 rfl ?_
  refine zi_iload_n 3 d_La_law_1032 rfl ?_
  refine zi_iconst 2 d_La_law_1033 rfl ?_
  refine zi_iadd d_La_law_1034 ?_
  obtain ⟨v_2, ev_2, h⟩ := zbind h
  refine zo_scr 1036 d_La_law_1035 ev_2 rfl ?_
  obtain ⟨u_3, eu_3, h⟩ := zbind h
  obtain ⟨q_4, eq_4, h⟩ := zbind h
  refine zo_virt (k' := kc) (n' := nc) 1039 [.int v_1, .int v_2] [] [.int q_4.1] zkd_10 (zck_s eu_3) (C_NC_together n E S a1 v_1 v_2 M q_4.1 q_4.2 eq_4) d_La_law_1036 tw_1125 tw_1122 tw_1123 tw_1124 tw_1 dd_NC_together ⟨Nat.le_of_ble_eq_true rfl, Nat.le_of_ble_eq_true rfl, zle6 hkc (Nat.le_of_ble_eq_true rfl), zle6 hnc (Nat.le_of_ble_eq_true rfl)⟩ (Nat.le_of_ble_eq_true rfl) rfl rfl rfl rfl ?_
  refine zi_aload_n 2 d_La_law_1039 rfl ?_
  refine zi_aload_n 0 d_La_law_1040 rfl ?_
  refine zi_iload_n 3 d_La_law_1041 rfl ?_
  refine zi_iconst 1 d_La_law_1042 rfl ?_
  refine zi_iadd d_La_law_1043 ?_
  obtain ⟨v_5, ev_5, h⟩ := zbind h
  refine zo_scr 1045 d_La_law_1044 ev_5 rfl ?_
  refine zi_aload_n 0 d_La_law_1045 rfl ?_
  refine zi_iload_n 3 d_La_law_1046 rfl ?_
  refine zi_iconst 2 d_La_law_1047 rfl ?_
  refine zi_iadd d_La_law_1048 ?_
  obtain ⟨v_6, ev_6, h⟩ := zbind h
  refine zo_scr 1050 d_La_law_1049 ev_6 rfl ?_
  obtain ⟨u_7, eu_7, h⟩ := zbind h
  obtain ⟨q_8, eq_8, h⟩ := zbind h
  refine zo_virt (k' := kc) (n' := nc) 1053 [.int v_5, .int v_6] [.int q_4.1] [.int q_8.1, .int q_4.1] zkd_11 (zck_s eu_7) (C_Mo_together n E S a2 v_5 v_6 q_4.2 q_8.1 q_8.2 eq_8) d_La_law_1050 tw_1830 tw_1827 tw_1828 tw_1829 tw_13 dd_Mo_together ⟨Nat.le_of_ble_eq_true rfl, Nat.le_of_ble_eq_true rfl, zle6 hkc (Nat.le_of_ble_eq_true rfl), zle6 hnc (Nat.le_of_ble_eq_true rfl)⟩ (Nat.le_of_ble_eq_true rfl) rfl rfl rfl rfl ?_
  refine zi_icmp_eq (tgt := 1286) d_La_law_1053 rfl (fun c_9 => ?_) (fun c_9 => ?_)
  · rw [if_pos c_9] at h
    refine zi_lo [(0, .ref (eb E)), (1, .ref a1), (2, .ref a2), (3, .int x3)] [0, 1, 2, 3] rfl ?_
    refine zi_wide (kc + 6) (nc + 2567) (Nat.le_add_right _ _) (Nat.le_add_right _ _) ?_
    exact K_La_law_b1286 n E r18 a1 a2 x3 S q_8.2 r S' M' kc nc hr18 h
  · rw [if_neg c_9] at h
    refine zi_iconst 0 d_La_law_1056 rfl ?_
    cases h
    exact zo_retB d_La_law_1057 (zleR hkc) (zleR hnc) rfl
theorem K_La_law_c32 (n : Nat) (E : zE) (r18 : Nat × Nat × Int32 × zS × zH → Option (Bool × zS × zH)) (a1 : Nat) (a2 : Nat) (x3 : Int32) (S : zS) (M : zH) (r : Bool) (S' : zS) (M' : zH) (kc nc : Nat) (hkc : kc + 6 ≤ 3214) (hnc : nc + 2567 ≤ 1341798) (hr18 : ∀ (a1 : Nat) (a2 : Nat) (x3 : Int32) (S : zS) (M : zH), r18 (a1, a2, x3, S, M) = some (r, S', M') → zG E Y_La_law (some (.int (bI r)), S', M') 18 [(0, .ref (eb E)), (1, .ref a1), (2, .ref a2), (3, .int x3)] [] S M (kc + 6) (nc + 2567)) (h : F_La_law_c32 n E r18 a1 a2 x3 S M = some (r, S', M')) : zG E Y_La_law (some (.int (bI r)), S', M') 1058 [(0, .ref (eb E)), (1, .ref a1), (2, .ref a2), (3, .int x3)] [] S M kc nc := by
  unfold F_La_law_c32 at h
  refine zi_aload_n 1 d_La_law_1058 rfl ?_
  refine zi_aload_n 0 d_La_law_1059 rfl ?_
  refine zi_iload_n 3 d_La_law_1060 rfl ?_
  refine zi_iconst 1 d_La_law_1061 rfl ?_
  refine zi_iadd d_La_law_1062 ?_
  obtain ⟨v_1, ev_1, h⟩ := zbind h
  refine zo_scr 1064 d_La_law_1063 ev_1 rfl ?_
  obtain ⟨u_2, eu_2, h⟩ := zbind h
  obtain ⟨q_3, eq_3, h⟩ := zbind h
  refine zo_virt (k' := kc) (n' := nc) 1067 [.int v_1] [] [.int q_3.1] zkd_10 (zck_s eu_2) (C_NC_settled n E S a1 v_1 M q_3.1 q_3.2 eq_3) d_La_law_1064 tw_1130 tw_1127 tw_1128 tw_1129 tw_1 dd_NC_settled ⟨Nat.le_of_ble_eq_true rfl, Nat.le_of_ble_eq_true rfl, zle6 hkc (Nat.le_of_ble_eq_true rfl), zle6 hnc (Nat.le_of_ble_eq_true rfl)⟩ (Nat.le_of_ble_eq_true rfl) rfl rfl rfl rfl ?_
  refine zi_aload_n 2 d_La_law_1067 rfl ?_
  refine zi_aload_n 0 d_La_law_1068 rfl ?_
  refine zi_iload_n 3 d_La_law_1069 rfl ?_
  refine zi_iconst 1 d_La_law_1070 rfl ?_
  refine zi_iadd d_La_law_1071 ?_
  obtain ⟨v_4, ev_4, h⟩ := zbind h
  refine zo_scr 1073 d_La_law_1072 ev_4 rfl ?_
  obtain ⟨u_5, eu_5, h⟩ := zbind h
  obtain ⟨q_6, eq_6, h⟩ := zbind h
  refine zo_virt (k' := kc) (n' := nc) 1076 [.int v_4] [.int q_3.1] [.int q_6.1, .int q_3.1] zkd_11 (zck_s eu_5) (C_Mo_settled n E S a2 v_4 q_3.2 q_6.1 q_6.2 eq_6) d_La_law_1073 tw_1834 tw_1831 tw_1832 tw_1833 tw_13 dd_Mo_settled ⟨Nat.le_of_ble_eq_true rfl, Nat.le_of_ble_eq_true rfl, zle6 hkc (Nat.le_of_ble_eq_true rfl), zle6 hnc (Nat.le_of_ble_eq_true rfl)⟩ (Nat.le_of_ble_eq_true rfl) rfl rfl rfl rfl ?_
  refine zi_icmp_eq (tgt := 1286) d_La_law_1076 rfl (fun c_7 => ?_) (fun c_7 => ?_)
  · rw [if_pos c_7] at h
    refine zi_lo [(0, .ref (eb E)), (1, .ref a1), (2, .ref a2), (3, .int x3)] [0, 1, 2, 3] rfl ?_
    refine zi_wide (kc + 6) (nc + 2567) (Nat.le_add_right _ _) (Nat.le_add_right _ _) ?_
    exact K_La_law_b1286 n E r18 a1 a2 x3 S q_6.2 r S' M' kc nc hr18 h
  · rw [if_neg c_7] at h
    refine zi_iconst 0 d_La_law_1079 rfl ?_
    cases h
    exact zo_retB d_La_law_1080 (zleR hkc) (zleR hnc) rfl
theorem K_La_law_c33 (n : Nat) (E : zE) (r18 : Nat × Nat × Int32 × zS × zH → Option (Bool × zS × zH)) (a1 : Nat) (a2 : Nat) (x3 : Int32) (S : zS) (M : zH) (r : Bool) (S' : zS) (M' : zH) (kc nc : Nat) (hkc : kc + 6 ≤ 3214) (hnc : nc + 2567 ≤ 1341798) (hr18 : ∀ (a1 : Nat) (a2 : Nat) (x3 : Int32) (S : zS) (M : zH), r18 (a1, a2, x3, S, M) = some (r, S', M') → zG E Y_La_law (some (.int (bI r)), S', M') 18 [(0, .ref (eb E)), (1, .ref a1), (2, .ref a2), (3, .int x3)] [] S M (kc + 6) (nc + 2567)) (h : F_La_law_c33 n E r18 a1 a2 x3 S M = some (r, S', M')) : zG E Y_La_law (some (.int (bI r)), S', M') 1081 [(0, .ref (eb E)), (1, .ref a1), (2, .ref a2), (3, .int x3)] [] S M kc nc := by
  unfold F_La_law_c33 at h
  refine zi_aload_n 1 d_La_law_1081 rfl ?_
  refine zi_aload_n 0 d_La_law_1082 rfl ?_
  refine zi_iload_n 3 d_La_law_1083 rfl ?_
  refine zi_iconst 1 d_La_law_1084 rfl ?_
  refine zi_iadd d_La_law_1085 ?_
  obtain ⟨v_1, ev_1, h⟩ := zbind h
  refine zo_scr 1087 d_La_law_1086 ev_1 rfl ?_
  refine zi_aload_n 0 d_La_law_1087 rfl ?_
  refine zi_iload_n 3 d_La_law_1088 rfl ?_
  refine zi_iconst 2 d_La_law_1089 rfl ?_
  refine zi_iadd d_La_law_1090 ?_
  obtain ⟨v_2, ev_2, h⟩ := zbind h
  refine zo_scr 1092 d_La_law_1091 ev_2 rfl ?_
  obtain ⟨u_3, eu_3, h⟩ := zbind h
  obtain ⟨q_4, eq_4, h⟩ := zbind h
  refine zo_virt (k' := kc) (n' := nc) 1095 [.int v_1, .int v_2] [] [.long q_4.1] zkd_10 (zck_s eu_3) (C_NC_few n E S a1 v_1 v_2 M q_4.1 q_4.2 eq_4) d_La_law_1092 tw_1134 tw_1131 tw_1132 tw_1133 tw_1 dd_NC_few ⟨Nat.le_of_ble_eq_true rfl, Nat.le_of_ble_eq_true rfl, zle6 hkc (Nat.le_of_ble_eq_true rfl), zle6 hnc (Nat.le_of_ble_eq_true rfl)⟩ (Nat.le_of_ble_eq_true rfl) rfl rfl rfl rfl ?_
  refine zi_aload_n 2 d_La_law_1095 rfl ?_
  refine zi_aload_n 0 d_La_law_1096 rfl ?_
  refine zi_iload_n 3 d_La_law_1097 rfl ?_
  refine zi_iconst 1 d_La_law_1098 rfl ?_
  refine zi_iadd d_La_law_1099 ?_
  obtain ⟨v_5, ev_5, h⟩ := zbind h
  refine zo_scr 1101 d_La_law_1100 ev_5 rfl ?_
  refine zi_aload_n 0 d_La_law_1101 rfl ?_
  refine zi_iload_n 3 d_La_law_1102 rfl ?_
  refine zi_iconst 2 d_La_law_1103 rfl ?_
  refine zi_iadd d_La_law_1104 ?_
  obtain ⟨v_6, ev_6, h⟩ := zbind h
  refine zo_scr 1106 d_La_law_1105 ev_6 rfl ?_
  obtain ⟨u_7, eu_7, h⟩ := zbind h
  obtain ⟨q_8, eq_8, h⟩ := zbind h
  refine zo_virt (k' := kc) (n' := nc) 1109 [.int v_5, .int v_6] [.long q_4.1] [.long q_8.1, .long q_4.1] zkd_11 (zck_s eu_7) (C_Mo_few n E S a2 v_5 v_6 q_4.2 q_8.1 q_8.2 eq_8) d_La_law_1106 tw_1838 tw_1835 tw_1836 tw_1837 tw_13 dd_Mo_few ⟨Nat.le_of_ble_eq_true rfl, Nat.le_of_ble_eq_true rfl, zle6 hkc (Nat.le_of_ble_eq_true rfl), zle6 hnc (Nat.le_of_ble_eq_true rfl)⟩ (Nat.le_of_ble_eq_true rfl) rfl rfl rfl rfl ?_
  refine zo_lc_eq d_La_law_1109 d_La_law_1110 rfl 1113 rfl (fun c_9 => ?_) (fun c_9 => ?_)
  · rw [if_pos c_9] at h
    refine zi_lo [(0, .ref (eb E)), (1, .ref a1), (2, .ref a2), (3, .int x3)] [0, 1, 2, 3] rfl ?_
    refine zi_wide (kc + 6) (nc + 2567) (Nat.le_add_right _ _) (Nat.le_add_right _ _) ?_
    exact K_La_law_b1286 n E r18 a1 a2 x3 S q_8.2 r S' M' kc nc hr18 h
  · rw [if_neg c_9] at h
    refine zi_iconst 0 d_La_law_1113 rfl ?_
    cases h
    exact zo_retB d_La_law_1114 (zleR hkc) (zleR hnc) rfl
theorem K_La_law_c34 (n : Nat) (E : zE) (r18 : Nat × Nat × Int32 × zS × zH → Option (Bool × zS × zH)) (a1 : Nat) (a2 : Nat) (x3 : Int32) (S : zS) (M : zH) (r : Bool) (S' : zS) (M' : zH) (kc nc : Nat) (hkc : kc + 6 ≤ 3214) (hnc : nc + 2567 ≤ 1341798) (hr18 : ∀ (a1 : Nat) (a2 : Nat) (x3 : Int32) (S : zS) (M : zH), r18 (a1, a2, x3, S, M) = some (r, S', M') → zG E Y_La_law (some (.int (bI r)), S', M') 18 [(0, .ref (eb E)), (1, .ref a1), (2, .ref a2), (3, .int x3)] [] S M (kc + 6) (nc + 2567)) (h : F_La_law_c34 n E r18 a1 a2 x3 S M = some (r, S', M')) : zG E Y_La_law (some (.int (bI r)), S', M') 1115 [(0, .ref (eb E)), (1, .ref a1), (2, .ref a2), (3, .int x3)] [] S M kc nc := by
  unfold F_La_law_c34 at h
  refine zi_aload_n 1 d_La_law_1115 rfl ?_
  refine zi_aload_n 0 d_La_law_1116 rfl ?_
  refine zi_iload_n 3 d_La_law_1117 rfl ?_
  refine zi_iconst 1 d_La_law_1118 rfl ?_
  refine zi_iadd d_La_law_1119 ?_
  obtain ⟨v_1, ev_1, h⟩ := zbind h
  refine zo_scr 1121 d_La_law_1120 ev_1 rfl ?_
  obtain ⟨u_2, eu_2, h⟩ := zbind h
  obtain ⟨q_3, eq_3, h⟩ := zbind h
  refine zo_virt (k' := kc) (n' := nc) 1124 [.int v_1] [] [.int q_3.1] zkd_10 (zck_s eu_2) (C_NC_worth n E S a1 v_1 M q_3.1 q_3.2 eq_3) d_La_law_1121 tw_1148 tw_1145 tw_1146 tw_1147 tw_1 dd_NC_worth ⟨Nat.le_of_ble_eq_true rfl, Nat.le_of_ble_eq_true rfl, zle6 hkc (Nat.le_of_ble_eq_true rfl), zle6 hnc (Nat.le_of_ble_eq_true rfl)⟩ (Nat.le_of_ble_eq_true rfl) rfl rfl rfl rfl ?_
  refine zi_aload_n 2 d_La_law_1124 rfl ?_
  refine zi_aload_n 0 d_La_law_1125 rfl ?_
  refine zi_iload_n 3 d_La_law_1126 rfl ?_
  refine zi_iconst 1 d_La_law_1127 rfl ?_
  refine zi_iadd d_La_law_1128 ?_
  obtain ⟨v_4, ev_4, h⟩ := zbind h
  refine zo_scr 1130 d_La_law_1129 ev_4 rfl ?_
  obtain ⟨u_5, eu_5, h⟩ := zbind h
  obtain ⟨q_6, eq_6, h⟩ := zbind h
  refine zo_virt (k' := kc) (n' := nc) 1133 [.int v_4] [.int q_3.1] [.int q_6.1, .int q_3.1] zkd_11 (zck_s eu_5) (C_Mo_worth n E S a2 v_4 q_3.2 q_6.1 q_6.2 eq_6) d_La_law_1130 tw_1843 tw_1840 tw_1841 tw_1842 tw_13 dd_Mo_worth ⟨Nat.le_of_ble_eq_true rfl, Nat.le_of_ble_eq_true rfl, zle6 hkc (Nat.le_of_ble_eq_true rfl), zle6 hnc (Nat.le_of_ble_eq_true rfl)⟩ (Nat.le_of_ble_eq_true rfl) rfl rfl rfl rfl ?_
  refine zi_icmp_eq (tgt := 1286) d_La_law_1133 rfl (fun c_7 => ?_) (fun c_7 => ?_)
  · rw [if_pos c_7] at h
    refine zi_lo [(0, .ref (eb E)), (1, .ref a1), (2, .ref a2), (3, .int x3)] [0, 1, 2, 3] rfl ?_
    refine zi_wide (kc + 6) (nc + 2567) (Nat.le_add_right _ _) (Nat.le_add_right _ _) ?_
    exact K_La_law_b1286 n E r18 a1 a2 x3 S q_6.2 r S' M' kc nc hr18 h
  · rw [if_neg c_7] at h
    refine zi_iconst 0 d_La_law_1136 rfl ?_
    cases h
    exact zo_retB d_La_law_1137 (zleR hkc) (zleR hnc) rfl
