/-! the law: certificates (printed by gen/law.py) -/
theorem K_La_law_c11 (n : Nat) (E : zE) (r18 : Nat × Nat × Int32 × zS × zH → Option (Bool × zS × zH)) (a1 : Nat) (a2 : Nat) (x3 : Int32) (S : zS) (M : zH) (r : Bool) (S' : zS) (M' : zH) (kc nc : Nat) (hkc : kc + 6 ≤ 3214) (hnc : nc + 2567 ≤ 1341798) (hr18 : ∀ (a1 : Nat) (a2 : Nat) (x3 : Int32) (S : zS) (M : zH), r18 (a1, a2, x3, S, M) = some (r, S', M') → zG E Y_La_law (some (.int (bI r)), S', M') 18 [(0, .ref (eb E)), (1, .ref a1), (2, .ref a2), (3, .int x3)] [] S M (kc + 6) (nc + 2567)) (h : F_La_law_c11 n E r18 a1 a2 x3 S M = some (r, S', M')) : zG E Y_La_law (some (.int (bI r)), S', M') 555 [(0, .ref (eb E)), (1, .ref a1), (2, .ref a2), (3, .int x3)] [] S M kc nc := by
  unfold F_La_law_c11 at h
  refine zi_aload_n 1 d_La_law_555 rfl ?_
  obtain ⟨u_1, eu_1, h⟩ := zbind h
  obtain ⟨q_2, eq_2, h⟩ := zbind h
  refine zo_virt (k' := (kc + 6)) (n' := (nc + 2567)) 559 [] [] [.int q_2.1] zkd_10 (zck_s eu_1) (C_NC_law n E a1 S M q_2.1 q_2.2.1 q_2.2.2 eq_2) d_La_law_556 tw_559 tw_556 tw_557 tw_558 tw_1 dd_NC_law ⟨Nat.le_of_ble_eq_true rfl, Nat.le_of_ble_eq_true rfl, zle6 hkc (Nat.le_of_ble_eq_true rfl), zle6 hnc (Nat.le_of_ble_eq_true rfl)⟩ (Nat.le_of_ble_eq_true rfl) rfl rfl rfl rfl ?_
  refine zi_aload_n 2 d_La_law_559 rfl ?_
  obtain ⟨u_3, eu_3, h⟩ := zbind h
  obtain ⟨q_4, eq_4, h⟩ := zbind h
  refine zo_virt (k' := (kc + 6)) (n' := (nc + 2567)) 563 [] [.int q_2.1] [.int q_4.1, .int q_2.1] zkd_11 (zck_s eu_3) (C_Mo_law n E q_2.2.1 a2 q_2.2.2 q_4.1 q_4.2 eq_4) d_La_law_560 tw_1565 tw_1562 tw_1563 tw_1564 tw_13 dd_Mo_law ⟨Nat.le_of_ble_eq_true rfl, Nat.le_of_ble_eq_true rfl, zle0 hkc (Nat.le_of_ble_eq_true rfl), zle0 hnc (Nat.le_of_ble_eq_true rfl)⟩ (Nat.le_of_ble_eq_true rfl) rfl rfl rfl rfl ?_
  refine zi_icmp_eq (tgt := 1286) d_La_law_563 rfl (fun c_5 => ?_) (fun c_5 => ?_)
  · rw [if_pos c_5] at h
    refine zi_lo [(0, .ref (eb E)), (1, .ref a1), (2, .ref a2), (3, .int x3)] [0, 1, 2, 3] rfl ?_
    exact K_La_law_b1286 n E r18 a1 a2 x3 q_2.2.1 q_4.2 r S' M' kc nc hr18 h
  · rw [if_neg c_5] at h
    refine zi_iconst 0 d_La_law_566 rfl ?_
    cases h
    exact zo_retB d_La_law_567 hkc hnc rfl
theorem K_La_law_c12 (n : Nat) (E : zE) (r18 : Nat × Nat × Int32 × zS × zH → Option (Bool × zS × zH)) (a1 : Nat) (a2 : Nat) (x3 : Int32) (S : zS) (M : zH) (r : Bool) (S' : zS) (M' : zH) (kc nc : Nat) (hkc : kc + 6 ≤ 3214) (hnc : nc + 2567 ≤ 1341798) (hr18 : ∀ (a1 : Nat) (a2 : Nat) (x3 : Int32) (S : zS) (M : zH), r18 (a1, a2, x3, S, M) = some (r, S', M') → zG E Y_La_law (some (.int (bI r)), S', M') 18 [(0, .ref (eb E)), (1, .ref a1), (2, .ref a2), (3, .int x3)] [] S M (kc + 6) (nc + 2567)) (h : F_La_law_c12 n E r18 a1 a2 x3 S M = some (r, S', M')) : zG E Y_La_law (some (.int (bI r)), S', M') 568 [(0, .ref (eb E)), (1, .ref a1), (2, .ref a2), (3, .int x3)] [] S M kc nc := by
  unfold F_La_law_c12 at h
  refine zi_aload_n 1 d_La_law_568 rfl ?_
  obtain ⟨u_1, eu_1, h⟩ := zbind h
  obtain ⟨q_2, eq_2, h⟩ := zbind h
  refine zo_virt (k' := kc) (n' := nc) 572 [] [] [.int q_2.1] zkd_10 (zck_s eu_1) (C_NC_orders n E S a1 M q_2.1 q_2.2 eq_2) d_La_law_569 tw_861 tw_858 tw_859 tw_860 tw_1 dd_NC_orders ⟨Nat.le_of_ble_eq_true rfl, Nat.le_of_ble_eq_true rfl, zle6 hkc (Nat.le_of_ble_eq_true rfl), zle6 hnc (Nat.le_of_ble_eq_true rfl)⟩ (Nat.le_of_ble_eq_true rfl) rfl rfl rfl rfl ?_
  refine zi_aload_n 2 d_La_law_572 rfl ?_
  obtain ⟨u_3, eu_3, h⟩ := zbind h
  obtain ⟨q_4, eq_4, h⟩ := zbind h
  refine zo_virt (k' := kc) (n' := nc) 576 [] [.int q_2.1] [.int q_4.1, .int q_2.1] zkd_11 (zck_s eu_3) (C_Mo_orders n E S a2 q_2.2 q_4.1 q_4.2 eq_4) d_La_law_573 tw_1847 tw_1844 tw_1845 tw_1846 tw_13 dd_Mo_orders ⟨Nat.le_of_ble_eq_true rfl, Nat.le_of_ble_eq_true rfl, zle6 hkc (Nat.le_of_ble_eq_true rfl), zle6 hnc (Nat.le_of_ble_eq_true rfl)⟩ (Nat.le_of_ble_eq_true rfl) rfl rfl rfl rfl ?_
  refine zi_icmp_eq (tgt := 1286) d_La_law_576 rfl (fun c_5 => ?_) (fun c_5 => ?_)
  · rw [if_pos c_5] at h
    refine zi_lo [(0, .ref (eb E)), (1, .ref a1), (2, .ref a2), (3, .int x3)] [0, 1, 2, 3] rfl ?_
    refine zi_wide (kc + 6) (nc + 2567) (Nat.le_add_right _ _) (Nat.le_add_right _ _) ?_
    exact K_La_law_b1286 n E r18 a1 a2 x3 S q_4.2 r S' M' kc nc hr18 h
  · rw [if_neg c_5] at h
    refine zi_iconst 0 d_La_law_579 rfl ?_
    cases h
    exact zo_retB d_La_law_580 (zleR hkc) (zleR hnc) rfl
theorem K_La_law_c13 (n : Nat) (E : zE) (r18 : Nat × Nat × Int32 × zS × zH → Option (Bool × zS × zH)) (a1 : Nat) (a2 : Nat) (x3 : Int32) (S : zS) (M : zH) (r : Bool) (S' : zS) (M' : zH) (kc nc : Nat) (hkc : kc + 6 ≤ 3214) (hnc : nc + 2567 ≤ 1341798) (hr18 : ∀ (a1 : Nat) (a2 : Nat) (x3 : Int32) (S : zS) (M : zH), r18 (a1, a2, x3, S, M) = some (r, S', M') → zG E Y_La_law (some (.int (bI r)), S', M') 18 [(0, .ref (eb E)), (1, .ref a1), (2, .ref a2), (3, .int x3)] [] S M (kc + 6) (nc + 2567)) (h : F_La_law_c13 n E r18 a1 a2 x3 S M = some (r, S', M')) : zG E Y_La_law (some (.int (bI r)), S', M') 581 [(0, .ref (eb E)), (1, .ref a1), (2, .ref a2), (3, .int x3)] [] S M kc nc := by
  unfold F_La_law_c13 at h
  refine zi_aload_n 1 d_La_law_581 rfl ?_
  obtain ⟨u_1, eu_1, h⟩ := zbind h
  obtain ⟨q_2, eq_2, h⟩ := zbind h
  refine zo_virt (k' := kc) (n' := nc) 585 [] [] [.int q_2.1] zkd_10 (zck_s eu_1) (C_NC_fault n E S a1 M q_2.1 q_2.2 eq_2) d_La_law_582 tw_931 tw_928 tw_929 tw_930 tw_1 dd_NC_fault ⟨Nat.le_of_ble_eq_true rfl, Nat.le_of_ble_eq_true rfl, zle6 hkc (Nat.le_of_ble_eq_true rfl), zle6 hnc (Nat.le_of_ble_eq_true rfl)⟩ (Nat.le_of_ble_eq_true rfl) rfl rfl rfl rfl ?_
  refine zi_aload_n 2 d_La_law_585 rfl ?_
  obtain ⟨u_3, eu_3, h⟩ := zbind h
  obtain ⟨q_4, eq_4, h⟩ := zbind h
  refine zo_virt (k' := kc) (n' := nc) 589 [] [.int q_2.1] [.int q_4.1, .int q_2.1] zkd_11 (zck_s eu_3) (C_Mo_fault n E S a2 q_2.2 q_4.1 q_4.2 eq_4) d_La_law_586 tw_1561 tw_1558 tw_1559 tw_1560 tw_13 dd_Mo_fault ⟨Nat.le_of_ble_eq_true rfl, Nat.le_of_ble_eq_true rfl, zle6 hkc (Nat.le_of_ble_eq_true rfl), zle6 hnc (Nat.le_of_ble_eq_true rfl)⟩ (Nat.le_of_ble_eq_true rfl) rfl rfl rfl rfl ?_
  refine zi_icmp_eq (tgt := 1286) d_La_law_589 rfl (fun c_5 => ?_) (fun c_5 => ?_)
  · rw [if_pos c_5] at h
    refine zi_lo [(0, .ref (eb E)), (1, .ref a1), (2, .ref a2), (3, .int x3)] [0, 1, 2, 3] rfl ?_
    refine zi_wide (kc + 6) (nc + 2567) (Nat.le_add_right _ _) (Nat.le_add_right _ _) ?_
    exact K_La_law_b1286 n E r18 a1 a2 x3 S q_4.2 r S' M' kc nc hr18 h
  · rw [if_neg c_5] at h
    refine zi_iconst 0 d_La_law_592 rfl ?_
    cases h
    exact zo_retB d_La_law_593 (zleR hkc) (zleR hnc) rfl
theorem K_La_law_c14 (n : Nat) (E : zE) (r18 : Nat × Nat × Int32 × zS × zH → Option (Bool × zS × zH)) (a1 : Nat) (a2 : Nat) (x3 : Int32) (S : zS) (M : zH) (r : Bool) (S' : zS) (M' : zH) (kc nc : Nat) (hkc : kc + 6 ≤ 3214) (hnc : nc + 2567 ≤ 1341798) (hr18 : ∀ (a1 : Nat) (a2 : Nat) (x3 : Int32) (S : zS) (M : zH), r18 (a1, a2, x3, S, M) = some (r, S', M') → zG E Y_La_law (some (.int (bI r)), S', M') 18 [(0, .ref (eb E)), (1, .ref a1), (2, .ref a2), (3, .int x3)] [] S M (kc + 6) (nc + 2567)) (h : F_La_law_c14 n E r18 a1 a2 x3 S M = some (r, S', M')) : zG E Y_La_law (some (.int (bI r)), S', M') 594 [(0, .ref (eb E)), (1, .ref a1), (2, .ref a2), (3, .int x3)] [] S M kc nc := by
  unfold F_La_law_c14 at h
  refine zi_aload_n 1 d_La_law_594 rfl ?_
  obtain ⟨u_1, eu_1, h⟩ := zbind h
  obtain ⟨q_2, eq_2, h⟩ := zbind h
  refine zo_virt (k' := kc) (n' := nc) 598 [] [] [.int q_2.1] zkd_10 (zck_s eu_1) (C_NC_stopped n E S a1 M q_2.1 q_2.2 eq_2) d_La_law_595 tw_935 tw_932 tw_933 tw_934 tw_1 dd_NC_stopped ⟨Nat.le_of_ble_eq_true rfl, Nat.le_of_ble_eq_true rfl, zle6 hkc (Nat.le_of_ble_eq_true rfl), zle6 hnc (Nat.le_of_ble_eq_true rfl)⟩ (Nat.le_of_ble_eq_true rfl) rfl rfl rfl rfl ?_
  refine zi_aload_n 2 d_La_law_598 rfl ?_
  obtain ⟨u_3, eu_3, h⟩ := zbind h
  obtain ⟨q_4, eq_4, h⟩ := zbind h
  refine zo_virt (k' := kc) (n' := nc) 602 [] [.int q_2.1] [.int q_4.1, .int q_2.1] zkd_11 (zck_s eu_3) (C_Mo_stopped n E S a2 q_2.2 q_4.1 q_4.2 eq_4) d_La_law_599 tw_1882 tw_1879 tw_1880 tw_1881 tw_13 dd_Mo_stopped ⟨Nat.le_of_ble_eq_true rfl, Nat.le_of_ble_eq_true rfl, zle6 hkc (Nat.le_of_ble_eq_true rfl), zle6 hnc (Nat.le_of_ble_eq_true rfl)⟩ (Nat.le_of_ble_eq_true rfl) rfl rfl rfl rfl ?_
  refine zi_icmp_eq (tgt := 1286) d_La_law_602 rfl (fun c_5 => ?_) (fun c_5 => ?_)
  · rw [if_pos c_5] at h
    refine zi_lo [(0, .ref (eb E)), (1, .ref a1), (2, .ref a2), (3, .int x3)] [0, 1, 2, 3] rfl ?_
    refine zi_wide (kc + 6) (nc + 2567) (Nat.le_add_right _ _) (Nat.le_add_right _ _) ?_
    exact K_La_law_b1286 n E r18 a1 a2 x3 S q_4.2 r S' M' kc nc hr18 h
  · rw [if_neg c_5] at h
    refine zi_iconst 0 d_La_law_605 rfl ?_
    cases h
    exact zo_retB d_La_law_606 (zleR hkc) (zleR hnc) rfl
theorem K_La_law_c15 (n : Nat) (E : zE) (r18 : Nat × Nat × Int32 × zS × zH → Option (Bool × zS × zH)) (a1 : Nat) (a2 : Nat) (x3 : Int32) (S : zS) (M : zH) (r : Bool) (S' : zS) (M' : zH) (kc nc : Nat) (hkc : kc + 6 ≤ 3214) (hnc : nc + 2567 ≤ 1341798) (hr18 : ∀ (a1 : Nat) (a2 : Nat) (x3 : Int32) (S : zS) (M : zH), r18 (a1, a2, x3, S, M) = some (r, S', M') → zG E Y_La_law (some (.int (bI r)), S', M') 18 [(0, .ref (eb E)), (1, .ref a1), (2, .ref a2), (3, .int x3)] [] S M (kc + 6) (nc + 2567)) (h : F_La_law_c15 n E r18 a1 a2 x3 S M = some (r, S', M')) : zG E Y_La_law (some (.int (bI r)), S', M') 607 [(0, .ref (eb E)), (1, .ref a1), (2, .ref a2), (3, .int x3)] [] S M kc nc := by
  unfold F_La_law_c15 at h
  refine zi_aload_n 1 d_La_law_607 rfl ?_
  refine zi_aload_n 0 d_La_law_608 rfl ?_
  refine zi_iload_n 3 d_La_law_609 rfl ?_
  refine zi_iconst 1 d_La_law_610 rfl ?_
  refine zi_iadd d_La_law_611 ?_
  obtain ⟨v_1, ev_1, h⟩ := zbind h
  refine zo_scr 613 d_La_law_612 ev_1 rfl ?_
  obtain ⟨u_2, eu_2, h⟩ := zbind h
  obtain ⟨q_3, eq_3, h⟩ := zbind h
  refine zo_virt (k' := kc) (n' := nc) 616 [.int v_1] [] [.int q_3.1] zkd_10 (zck_s eu_2) (C_NC_force n E S a1 v_1 M q_3.1 q_3.2 eq_3) d_La_law_613 tw_939 tw_936 tw_937 tw_938 tw_1 dd_NC_force ⟨Nat.le_of_ble_eq_true rfl, Nat.le_of_ble_eq_true rfl, zle6 hkc (Nat.le_of_ble_eq_true rfl), zle6 hnc (Nat.le_of_ble_eq_true rfl)⟩ (Nat.le_of_ble_eq_true rfl) rfl rfl rfl rfl ?_
  refine zi_aload_n 2 d_La_law_616 rfl ?_
  refine zi_aload_n 0 d_La_law_617 rfl ?_
  refine zi_iload_n 3 d_La_law_618 rfl ?_
  refine zi_iconst 1 d_La_law_619 rfl ?_
  refine zi_iadd d_La_law_620 ?_
  obtain ⟨v_4, ev_4, h⟩ := zbind h
  refine zo_scr 622 d_La_law_621 ev_4 rfl ?_
  obtain ⟨u_5, eu_5, h⟩ := zbind h
  obtain ⟨q_6, eq_6, h⟩ := zbind h
  refine zo_virt (k' := kc) (n' := nc) 625 [.int v_4] [.int q_3.1] [.int q_6.1, .int q_3.1] zkd_11 (zck_s eu_5) (C_Mo_force n E S a2 v_4 q_3.2 q_6.1 q_6.2 eq_6) d_La_law_622 tw_1684 tw_1681 tw_1682 tw_1683 tw_13 dd_Mo_force ⟨Nat.le_of_ble_eq_true rfl, Nat.le_of_ble_eq_true rfl, zle6 hkc (Nat.le_of_ble_eq_true rfl), zle6 hnc (Nat.le_of_ble_eq_true rfl)⟩ (Nat.le_of_ble_eq_true rfl) rfl rfl rfl rfl ?_
  refine zi_icmp_eq (tgt := 1286) d_La_law_625 rfl (fun c_7 => ?_) (fun c_7 => ?_)
  · rw [if_pos c_7] at h
    refine zi_lo [(0, .ref (eb E)), (1, .ref a1), (2, .ref a2), (3, .int x3)] [0, 1, 2, 3] rfl ?_
    refine zi_wide (kc + 6) (nc + 2567) (Nat.le_add_right _ _) (Nat.le_add_right _ _) ?_
    exact K_La_law_b1286 n E r18 a1 a2 x3 S q_6.2 r S' M' kc nc hr18 h
  · rw [if_neg c_7] at h
    refine zi_iconst 0 d_La_law_628 rfl ?_
    cases h
    exact zo_retB d_La_law_629 (zleR hkc) (zleR hnc) rfl
theorem K_La_law_c16 (n : Nat) (E : zE) (r18 : Nat × Nat × Int32 × zS × zH → Option (Bool × zS × zH)) (a1 : Nat) (a2 : Nat) (x3 : Int32) (S : zS) (M : zH) (r : Bool) (S' : zS) (M' : zH) (kc nc : Nat) (hkc : kc + 6 ≤ 3214) (hnc : nc + 2567 ≤ 1341798) (hr18 : ∀ (a1 : Nat) (a2 : Nat) (x3 : Int32) (S : zS) (M : zH), r18 (a1, a2, x3, S, M) = some (r, S', M') → zG E Y_La_law (some (.int (bI r)), S', M') 18 [(0, .ref (eb E)), (1, .ref a1), (2, .ref a2), (3, .int x3)] [] S M (kc + 6) (nc + 2567)) (h : F_La_law_c16 n E r18 a1 a2 x3 S M = some (r, S', M')) : zG E Y_La_law (some (.int (bI r)), S', M') 630 [(0, .ref (eb E)), (1, .ref a1), (2, .ref a2), (3, .int x3)] [] S M kc nc := by
  unfold F_La_law_c16 at h
  refine zi_aload_n 1 d_La_law_630 rfl ?_
  refine zi_aload_n 0 d_La_law_631 rfl ?_
  refine zi_iload_n 3 d_La_law_632 rfl ?_
  refine zi_iconst 1 d_La_law_633 rfl ?_
  refine zi_iadd d_La_law_634 ?_
  obtain ⟨v_1, ev_1, h⟩ := zbind h
  refine zo_scr 636 d_La_law_635 ev_1 rfl ?_
  refine zi_aload_n 0 d_La_law_636 rfl ?_
  refine zi_iload_n 3 d_La_law_637 rfl ?_
  refine zi_iconst 2 d_La_law_638 rfl ?_
  refine zi_iadd d_La_law_639 ?_
  obtain ⟨v_2, ev_2, h⟩ := zbind h
  refine zo_scr 641 d_La_law_640 ev_2 rfl ?_
  obtain ⟨u_3, eu_3, h⟩ := zbind h
  obtain ⟨q_4, eq_4, h⟩ := zbind h
  refine zo_virt (k' := kc) (n' := nc) 644 [.int v_1, .int v_2] [] [.int q_4.1] zkd_10 (zck_s eu_3) (C_NC_block n E S a1 v_1 v_2 M q_4.1 q_4.2 eq_4) d_La_law_641 tw_947 tw_944 tw_945 tw_946 tw_1 dd_NC_block ⟨Nat.le_of_ble_eq_true rfl, Nat.le_of_ble_eq_true rfl, zle6 hkc (Nat.le_of_ble_eq_true rfl), zle6 hnc (Nat.le_of_ble_eq_true rfl)⟩ (Nat.le_of_ble_eq_true rfl) rfl rfl rfl rfl ?_
  refine zi_aload_n 2 d_La_law_644 rfl ?_
  refine zi_aload_n 0 d_La_law_645 rfl ?_
  refine zi_iload_n 3 d_La_law_646 rfl ?_
  refine zi_iconst 1 d_La_law_647 rfl ?_
  refine zi_iadd d_La_law_648 ?_
  obtain ⟨v_5, ev_5, h⟩ := zbind h
  refine zo_scr 650 d_La_law_649 ev_5 rfl ?_
  refine zi_aload_n 0 d_La_law_650 rfl ?_
  refine zi_iload_n 3 d_La_law_651 rfl ?_
  refine zi_iconst 2 d_La_law_652 rfl ?_
  refine zi_iadd d_La_law_653 ?_
  obtain ⟨v_6, ev_6, h⟩ := zbind h
  refine zo_scr 655 d_La_law_654 ev_6 rfl ?_
  obtain ⟨u_7, eu_7, h⟩ := zbind h
  obtain ⟨q_8, eq_8, h⟩ := zbind h
  refine zo_virt (k' := kc) (n' := nc) 658 [.int v_5, .int v_6] [.int q_4.1] [.int q_8.1, .int q_4.1] zkd_11 (zck_s eu_7) (C_Mo_block n E S a2 v_5 v_6 q_4.2 q_8.1 q_8.2 eq_8) d_La_law_655 tw_1692 tw_1689 tw_1690 tw_1691 tw_13 dd_Mo_block ⟨Nat.le_of_ble_eq_true rfl, Nat.le_of_ble_eq_true rfl, zle6 hkc (Nat.le_of_ble_eq_true rfl), zle6 hnc (Nat.le_of_ble_eq_true rfl)⟩ (Nat.le_of_ble_eq_true rfl) rfl rfl rfl rfl ?_
  refine zi_icmp_eq (tgt := 1286) d_La_law_658 rfl (fun c_9 => ?_) (fun c_9 => ?_)
  · rw [if_pos c_9] at h
    refine zi_lo [(0, .ref (eb E)), (1, .ref a1), (2, .ref a2), (3, .int x3)] [0, 1, 2, 3] rfl ?_
    refine zi_wide (kc + 6) (nc + 2567) (Nat.le_add_right _ _) (Nat.le_add_right _ _) ?_
    exact K_La_law_b1286 n E r18 a1 a2 x3 S q_8.2 r S' M' kc nc hr18 h
  · rw [if_neg c_9] at h
    refine zi_iconst 0 d_La_law_661 rfl ?_
    cases h
    exact zo_retB d_La_law_662 (zleR hkc) (zleR hnc) rfl
theorem K_La_law_c17 (n : Nat) (E : zE) (r18 : Nat × Nat × Int32 × zS × zH → Option (Bool × zS × zH)) (a1 : Nat) (a2 : Nat) (x3 : Int32) (S : zS) (M : zH) (r : Bool) (S' : zS) (M' : zH) (kc nc : Nat) (hkc : kc + 6 ≤ 3214) (hnc : nc + 2567 ≤ 1341798) (hr18 : ∀ (a1 : Nat) (a2 : Nat) (x3 : Int32) (S : zS) (M : zH), r18 (a1, a2, x3, S, M) = some (r, S', M') → zG E Y_La_law (some (.int (bI r)), S', M') 18 [(0, .ref (eb E)), (1, .ref a1), (2, .ref a2), (3, .int x3)] [] S M (kc + 6) (nc + 2567)) (h : F_La_law_c17 n E r18 a1 a2 x3 S M = some (r, S', M')) : zG E Y_La_law (some (.int (bI r)), S', M') 663 [(0, .ref (eb E)), (1, .ref a1), (2, .ref a2), (3, .int x3)] [] S M kc nc := by
  unfold F_La_law_c17 at h
  refine zi_aload_n 1 d_La_law_663 rfl ?_
  refine zi_aload_n 0 d_La_law_664 rfl ?_
  refine zi_iload_n 3 d_La_law_665 rfl ?_
  refine zi_iconst 1 d_La_law_666 rfl ?_
  refine zi_iadd d_La_law_667 ?_
  obtain ⟨v_1, ev_1, h⟩ := zbind h
  refine zo_scr 669 d_La_law_668 ev_1 rfl ?_
  refine zi_aload_n 0 d_La_law_669 rfl ?_
  refine zi_iload_n 3 d_La_law_670 rfl ?_
  refine zi_iconst 2 d_La_law_671 rfl ?_
  refine zi_iadd d_La_law_672 ?_
  obtain ⟨v_2, ev_2, h⟩ := zbind h
  refine zo_scr 674 d_La_law_673 ev_2 rfl ?_
  obtain ⟨u_3, eu_3, h⟩ := zbind h
  obtain ⟨q_4, eq_4, h⟩ := zbind h
  refine zo_virt (k' := kc) (n' := nc) 677 [.int v_1, .int v_2] [] [.int q_4.1] zkd_10 (zck_s eu_3) (C_NC_ream n E S a1 v_1 v_2 M q_4.1 q_4.2 eq_4) d_La_law_674 tw_956 tw_953 tw_954 tw_955 tw_1 dd_NC_ream ⟨Nat.le_of_ble_eq_true rfl, Nat.le_of_ble_eq_true rfl, zle6 hkc (Nat.le_of_ble_eq_true rfl), zle6 hnc (Nat.le_of_ble_eq_true rfl)⟩ (Nat.le_of_ble_eq_true rfl) rfl rfl rfl rfl ?_
  refine zi_aload_n 2 d_La_law_677 rfl ?_
  refine zi_aload_n 0 d_La_law_678 rfl ?_
  refine zi_iload_n 3 d_La_law_679 rfl ?_
  refine zi_iconst 1 d_La_law_680 rfl ?_
  refine zi_iadd d_La_law_681 ?_
  obtain ⟨v_5, ev_5, h⟩ := zbind h
  refine zo_scr 683 d_La_law_682 ev_5 rfl ?_
  refine zi_aload_n 0 d_La_law_683 rfl ?_
  refine zi_iload_n 3 d_La_law_684 rfl ?_
  refine zi_iconst 2 d_La_law_685 rfl ?_
  refine zi_iadd d_La_law_686 ?_
  obtain ⟨v_6, ev_6, h⟩ := zbind h
  refine zo_scr 688 d_La_law_687 ev_6 rfl ?_
  obtain ⟨u_7, eu_7, h⟩ := zbind h
  obtain ⟨q_8, eq_8, h⟩ := zbind h
  refine zo_virt (k' := kc) (n' := nc) 691 [.int v_5, .int v_6] [.int q_4.1] [.int q_8.1, .int q_4.1] zkd_11 (zck_s eu_7) (C_Mo_ream n E S a2 v_5 v_6 q_4.2 q_8.1 q_8.2 eq_8) d_La_law_688 tw_1708 tw_1705 tw_1706 tw_1707 tw_13 dd_Mo_ream ⟨Nat.le_of_ble_eq_true rfl, Nat.le_of_ble_eq_true rfl, zle6 hkc (Nat.le_of_ble_eq_true rfl), zle6 hnc (Nat.le_of_ble_eq_true rfl)⟩ (Nat.le_of_ble_eq_true rfl) rfl rfl rfl rfl ?_
  refine zi_icmp_eq (tgt := 1286) d_La_law_691 rfl (fun c_9 => ?_) (fun c_9 => ?_)
  · rw [if_pos c_9] at h
    refine zi_lo [(0, .ref (eb E)), (1, .ref a1), (2, .ref a2), (3, .int x3)] [0, 1, 2, 3] rfl ?_
    refine zi_wide (kc + 6) (nc + 2567) (Nat.le_add_right _ _) (Nat.le_add_right _ _) ?_
    exact K_La_law_b1286 n E r18 a1 a2 x3 S q_8.2 r S' M' kc nc hr18 h
  · rw [if_neg c_9] at h
    refine zi_iconst 0 d_La_law_694 rfl ?_
    cases h
    exact zo_retB d_La_law_695 (zleR hkc) (zleR hnc) rfl
theorem K_La_law_c18 (n : Nat) (E : zE) (r18 : Nat × Nat × Int32 × zS × zH → Option (Bool × zS × zH)) (a1 : Nat) (a2 : Nat) (x3 : Int32) (S : zS) (M : zH) (r : Bool) (S' : zS) (M' : zH) (kc nc : Nat) (hkc : kc + 6 ≤ 3214) (hnc : nc + 2567 ≤ 1341798) (hr18 : ∀ (a1 : Nat) (a2 : Nat) (x3 : Int32) (S : zS) (M : zH), r18 (a1, a2, x3, S, M) = some (r, S', M') → zG E Y_La_law (some (.int (bI r)), S', M') 18 [(0, .ref (eb E)), (1, .ref a1), (2, .ref a2), (3, .int x3)] [] S M (kc + 6) (nc + 2567)) (h : F_La_law_c18 n E r18 a1 a2 x3 S M = some (r, S', M')) : zG E Y_La_law (some (.int (bI r)), S', M') 696 [(0, .ref (eb E)), (1, .ref a1), (2, .ref a2), (3, .int x3)] [] S M kc nc := by
  unfold F_La_law_c18 at h
  refine zi_aload_n 1 d_La_law_696 rfl ?_
  refine zi_aload_n 0 d_La_law_697 rfl ?_
  refine zi_iload_n 3 d_La_law_698 rfl ?_
  refine zi_iconst 1 d_La_law_699 rfl ?_
  refine zi_iadd d_La_law_700 ?_
  obtain ⟨v_1, ev_1, h⟩ := zbind h
  refine zo_scr 702 d_La_law_701 ev_1 rfl ?_
  refine zi_aload_n 0 d_La_law_702 rfl ?_
  refine zi_iload_n 3 d_La_law_703 rfl ?_
  refine zi_iconst 2 d_La_law_704 rfl ?_
  refine zi_iadd d_La_law_705 ?_
  obtain ⟨v_2, ev_2, h⟩ := zbind h
  refine zo_scr 707 d_La_law_706 ev_2 rfl ?_
  obtain ⟨u_3, eu_3, h⟩ := zbind h
  obtain ⟨q_4, eq_4, h⟩ := zbind h
  refine zo_virt (k' := kc) (n' := nc) 710 [.int v_1, .int v_2] [] [.int q_4.1] zkd_10 (zck_s eu_3) (C_NC_set n E S a1 v_1 v_2 M q_4.1 q_4.2 eq_4) d_La_law_707 tw_960 tw_957 tw_958 tw_959 tw_1 dd_NC_set ⟨Nat.le_of_ble_eq_true rfl, Nat.le_of_ble_eq_true rfl, zle6 hkc (Nat.le_of_ble_eq_true rfl), zle6 hnc (Nat.le_of_ble_eq_true rfl)⟩ (Nat.le_of_ble_eq_true rfl) rfl rfl rfl rfl ?_
  refine zi_aload_n 2 d_La_law_710 rfl ?_
  refine zi_aload_n 0 d_La_law_711 rfl ?_
  refine zi_iload_n 3 d_La_law_712 rfl ?_
  refine zi_iconst 1 d_La_law_713 rfl ?_
  refine zi_iadd d_La_law_714 ?_
  obtain ⟨v_5, ev_5, h⟩ := zbind h
  refine zo_scr 716 d_La_law_715 ev_5 rfl ?_
  refine zi_aload_n 0 d_La_law_716 rfl ?_
  refine zi_iload_n 3 d_La_law_717 rfl ?_
  refine zi_iconst 2 d_La_law_718 rfl ?_
  refine zi_iadd d_La_law_719 ?_
  obtain ⟨v_6, ev_6, h⟩ := zbind h
  refine zo_scr 721 d_La_law_720 ev_6 rfl ?_
  obtain ⟨u_7, eu_7, h⟩ := zbind h
  obtain ⟨q_8, eq_8, h⟩ := zbind h
  refine zo_virt (k' := kc) (n' := nc) 724 [.int v_5, .int v_6] [.int q_4.1] [.int q_8.1, .int q_4.1] zkd_11 (zck_s eu_7) (C_Mo_set n E S a2 v_5 v_6 q_4.2 q_8.1 q_8.2 eq_8) d_La_law_721 tw_1716 tw_1713 tw_1714 tw_1715 tw_13 dd_Mo_set ⟨Nat.le_of_ble_eq_true rfl, Nat.le_of_ble_eq_true rfl, zle6 hkc (Nat.le_of_ble_eq_true rfl), zle6 hnc (Nat.le_of_ble_eq_true rfl)⟩ (Nat.le_of_ble_eq_true rfl) rfl rfl rfl rfl ?_
  refine zi_icmp_eq (tgt := 1286) d_La_law_724 rfl (fun c_9 => ?_) (fun c_9 => ?_)
  · rw [if_pos c_9] at h
    refine zi_lo [(0, .ref (eb E)), (1, .ref a1), (2, .ref a2), (3, .int x3)] [0, 1, 2, 3] rfl ?_
    refine zi_wide (kc + 6) (nc + 2567) (Nat.le_add_right _ _) (Nat.le_add_right _ _) ?_
    exact K_La_law_b1286 n E r18 a1 a2 x3 S q_8.2 r S' M' kc nc hr18 h
  · rw [if_neg c_9] at h
    refine zi_iconst 0 d_La_law_727 rfl ?_
    cases h
    exact zo_retB d_La_law_728 (zleR hkc) (zleR hnc) rfl
theorem K_La_law_c19 (n : Nat) (E : zE) (r18 : Nat × Nat × Int32 × zS × zH → Option (Bool × zS × zH)) (a1 : Nat) (a2 : Nat) (x3 : Int32) (S : zS) (M : zH) (r : Bool) (S' : zS) (M' : zH) (kc nc : Nat) (hkc : kc + 6 ≤ 3214) (hnc : nc + 2567 ≤ 1341798) (hr18 : ∀ (a1 : Nat) (a2 : Nat) (x3 : Int32) (S : zS) (M : zH), r18 (a1, a2, x3, S, M) = some (r, S', M') → zG E Y_La_law (some (.int (bI r)), S', M') 18 [(0, .ref (eb E)), (1, .ref a1), (2, .ref a2), (3, .int x3)] [] S M (kc + 6) (nc + 2567)) (h : F_La_law_c19 n E r18 a1 a2 x3 S M = some (r, S', M')) : zG E Y_La_law (some (.int (bI r)), S', M') 729 [(0, .ref (eb E)), (1, .ref a1), (2, .ref a2), (3, .int x3)] [] S M kc nc := by
  unfold F_La_law_c19 at h
  refine zi_aload_n 1 d_La_law_729 rfl ?_
  obtain ⟨u_1, eu_1, h⟩ := zbind h
  obtain ⟨q_2, eq_2, h⟩ := zbind h
  refine zo_virt (k' := kc) (n' := nc) 733 [] [] [.int q_2.1] zkd_10 (zck_s eu_1) (C_NC_pass n E S a1 M q_2.1 q_2.2 eq_2) d_La_law_730 tw_964 tw_961 tw_962 tw_963 tw_1 dd_NC_pass ⟨Nat.le_of_ble_eq_true rfl, Nat.le_of_ble_eq_true rfl, zle6 hkc (Nat.le_of_ble_eq_true rfl), zle6 hnc (Nat.le_of_ble_eq_true rfl)⟩ (Nat.le_of_ble_eq_true rfl) rfl rfl rfl rfl ?_
  refine zi_aload_n 2 d_La_law_733 rfl ?_
  obtain ⟨u_3, eu_3, h⟩ := zbind h
  obtain ⟨q_4, eq_4, h⟩ := zbind h
  refine zo_virt (k' := kc) (n' := nc) 737 [] [.int q_2.1] [.int q_4.1, .int q_2.1] zkd_11 (zck_s eu_3) (C_Mo_pass n E S a2 q_2.2 q_4.1 q_4.2 eq_4) d_La_law_734 tw_1724 tw_1721 tw_1722 tw_1723 tw_13 dd_Mo_pass ⟨Nat.le_of_ble_eq_true rfl, Nat.le_of_ble_eq_true rfl, zle6 hkc (Nat.le_of_ble_eq_true rfl), zle6 hnc (Nat.le_of_ble_eq_true rfl)⟩ (Nat.le_of_ble_eq_true rfl) rfl rfl rfl rfl ?_
  refine zi_icmp_eq (tgt := 1286) d_La_law_737 rfl (fun c_5 => ?_) (fun c_5 => ?_)
  · rw [if_pos c_5] at h
    refine zi_lo [(0, .ref (eb E)), (1, .ref a1), (2, .ref a2), (3, .int x3)] [0, 1, 2, 3] rfl ?_
    refine zi_wide (kc + 6) (nc + 2567) (Nat.le_add_right _ _) (Nat.le_add_right _ _) ?_
    exact K_La_law_b1286 n E r18 a1 a2 x3 S q_4.2 r S' M' kc nc hr18 h
  · rw [if_neg c_5] at h
    refine zi_iconst 0 d_La_law_740 rfl ?_
    cases h
    exact zo_retB d_La_law_741 (zleR hkc) (zleR hnc) rfl
theorem K_La_law_c20 (n : Nat) (E : zE) (r18 : Nat × Nat × Int32 × zS × zH → Option (Bool × zS × zH)) (a1 : Nat) (a2 : Nat) (x3 : Int32) (S : zS) (M : zH) (r : Bool) (S' : zS) (M' : zH) (kc nc : Nat) (hkc : kc + 6 ≤ 3214) (hnc : nc + 2567 ≤ 1341798) (hr18 : ∀ (a1 : Nat) (a2 : Nat) (x3 : Int32) (S : zS) (M : zH), r18 (a1, a2, x3, S, M) = some (r, S', M') → zG E Y_La_law (some (.int (bI r)), S', M') 18 [(0, .ref (eb E)), (1, .ref a1), (2, .ref a2), (3, .int x3)] [] S M (kc + 6) (nc + 2567)) (h : F_La_law_c20 n E r18 a1 a2 x3 S M = some (r, S', M')) : zG E Y_La_law (some (.int (bI r)), S', M') 742 [(0, .ref (eb E)), (1, .ref a1), (2, .ref a2), (3, .int x3)] [] S M kc nc := by
  unfold F_La_law_c20 at h
  refine zi_aload_n 1 d_La_law_742 rfl ?_
  obtain ⟨u_1, eu_1, h⟩ := zbind h
  obtain ⟨q_2, eq_2, h⟩ := zbind h
  refine zo_virt (k' := kc) (n' := nc) 746 [] [] [.int q_2.1] zkd_10 (zck_s eu_1) (C_NC_undo n E S a1 M q_2.1 q_2.2 eq_2) d_La_law_743 tw_968 tw_965 tw_966 tw_967 tw_1 dd_NC_undo ⟨Nat.le_of_ble_eq_true rfl, Nat.le_of_ble_eq_true rfl, zle6 hkc (Nat.le_of_ble_eq_true rfl), zle6 hnc (Nat.le_of_ble_eq_true rfl)⟩ (Nat.le_of_ble_eq_true rfl) rfl rfl rfl rfl ?_
  refine zi_aload_n 2 d_La_law_746 rfl ?_
  obtain ⟨u_3, eu_3, h⟩ := zbind h
  obtain ⟨q_4, eq_4, h⟩ := zbind h
  refine zo_virt (k' := kc) (n' := nc) 750 [] [.int q_2.1] [.int q_4.1, .int q_2.1] zkd_11 (zck_s eu_3) (C_Mo_undo n E S a2 q_2.2 q_4.1 q_4.2 eq_4) d_La_law_747 tw_1404 tw_1401 tw_1402 tw_1403 tw_13 dd_Mo_undo ⟨Nat.le_of_ble_eq_true rfl, Nat.le_of_ble_eq_true rfl, zle6 hkc (Nat.le_of_ble_eq_true rfl), zle6 hnc (Nat.le_of_ble_eq_true rfl)⟩ (Nat.le_of_ble_eq_true rfl) rfl rfl rfl rfl ?_
  refine zi_icmp_eq (tgt := 1286) d_La_law_750 rfl (fun c_5 => ?_) (fun c_5 => ?_)
  · rw [if_pos c_5] at h
    refine zi_lo [(0, .ref (eb E)), (1, .ref a1), (2, .ref a2), (3, .int x3)] [0, 1, 2, 3] rfl ?_
    refine zi_wide (kc + 6) (nc + 2567) (Nat.le_add_right _ _) (Nat.le_add_right _ _) ?_
    exact K_La_law_b1286 n E r18 a1 a2 x3 S q_4.2 r S' M' kc nc hr18 h
  · rw [if_neg c_5] at h
    refine zi_iconst 0 d_La_law_753 rfl ?_
    cases h
    exact zo_retB d_La_law_754 (zleR hkc) (zleR hnc) rfl
theorem K_La_law_c21 (n : Nat) (E : zE) (r18 : Nat × Nat × Int32 × zS × zH → Option (Bool × zS × zH)) (a1 : Nat) (a2 : Nat) (x3 : Int32) (S : zS) (M : zH) (r : Bool) (S' : zS) (M' : zH) (kc nc : Nat) (hkc : kc + 6 ≤ 3214) (hnc : nc + 2567 ≤ 1341798) (hr18 : ∀ (a1 : Nat) (a2 : Nat) (x3 : Int32) (S : zS) (M : zH), r18 (a1, a2, x3, S, M) = some (r, S', M') → zG E Y_La_law (some (.int (bI r)), S', M') 18 [(0, .ref (eb E)), (1, .ref a1), (2, .ref a2), (3, .int x3)] [] S M (kc + 6) (nc + 2567)) (h : F_La_law_c21 n E r18 a1 a2 x3 S M = some (r, S', M')) : zG E Y_La_law (some (.int (bI r)), S', M') 755 [(0, .ref (eb E)), (1, .ref a1), (2, .ref a2), (3, .int x3)] [] S M kc nc := by
  unfold F_La_law_c21 at h
  refine zi_aload_n 1 d_La_law_755 rfl ?_
  refine zi_aload_n 0 d_La_law_756 rfl ?_
  refine zi_iload_n 3 d_La_law_757 rfl ?_
  refine zi_iconst 1 d_La_law_758 rfl ?_
  refine zi_iadd d_La_law_759 ?_
  obtain ⟨v_1, ev_1, h⟩ := zbind h
  refine zo_scr 761 d_La_law_760 ev_1 rfl ?_
  refine zi_aload_n 0 d_La_law_761 rfl ?_
  refine zi_iload_n 3 d_La_law_762 rfl ?_
  refine zi_iconst 2 d_La_law_763 rfl ?_
  refine zi_iadd d_La_law_764 ?_
  obtain ⟨v_2, ev_2, h⟩ := zbind h
  refine zo_scr 766 d_La_law_765 ev_2 rfl ?_
  obtain ⟨u_3, eu_3, h⟩ := zbind h
  obtain ⟨q_4, eq_4, h⟩ := zbind h
  refine zo_virt (k' := kc) (n' := nc) 769 [.int v_1, .int v_2] [] [.int q_4.1] zkd_10 (zck_s eu_3) (C_NC_when n E S a1 v_1 v_2 M q_4.1 q_4.2 eq_4) d_La_law_766 tw_977 tw_974 tw_975 tw_976 tw_1 dd_NC_when ⟨Nat.le_of_ble_eq_true rfl, Nat.le_of_ble_eq_true rfl, zle6 hkc (Nat.le_of_ble_eq_true rfl), zle6 hnc (Nat.le_of_ble_eq_true rfl)⟩ (Nat.le_of_ble_eq_true rfl) rfl rfl rfl rfl ?_
  refine zi_aload_n 2 d_La_law_769 rfl ?_
  refine zi_aload_n 0 d_La_law_770 rfl ?_
  refine zi_iload_n 3 d_La_law_771 rfl ?_
  refine zi_iconst 1 d_La_law_772 rfl ?_
  refine zi_iadd d_La_law_773 ?_
  obtain ⟨v_5, ev_5, h⟩ := zbind h
  refine zo_scr 775 d_La_law_774 ev_5 rfl ?_
  refine zi_aload_n 0 d_La_law_775 rfl ?_
  refine zi_iload_n 3 d_La_law_776 rfl ?_
  refine zi_iconst 2 d_La_law_777 rfl ?_
  refine zi_iadd d_La_law_778 ?_
  obtain ⟨v_6, ev_6, h⟩ := zbind h
  refine zo_scr 780 d_La_law_779 ev_6 rfl ?_
  obtain ⟨u_7, eu_7, h⟩ := zbind h
  obtain ⟨q_8, eq_8, h⟩ := zbind h
  refine zo_virt (k' := kc) (n' := nc) 783 [.int v_5, .int v_6] [.int q_4.1] [.int q_8.1, .int q_4.1] zkd_11 (zck_s eu_7) (C_Mo_when n E S a2 v_5 v_6 q_4.2 q_8.1 q_8.2 eq_8) d_La_law_780 tw_1748 tw_1745 tw_1746 tw_1747 tw_13 dd_Mo_when ⟨Nat.le_of_ble_eq_true rfl, Nat.le_of_ble_eq_true rfl, zle6 hkc (Nat.le_of_ble_eq_true rfl), zle6 hnc (Nat.le_of_ble_eq_true rfl)⟩ (Nat.le_of_ble_eq_true rfl) rfl rfl rfl rfl ?_
  refine zi_icmp_eq (tgt := 1286) d_La_law_783 rfl (fun c_9 => ?_) (fun c_9 => ?_)
  · rw [if_pos c_9] at h
    refine zi_lo [(0, .ref (eb E)), (1, .ref a1), (2, .ref a2), (3, .int x3)] [0, 1, 2, 3] rfl ?_
    refine zi_wide (kc + 6) (nc + 2567) (Nat.le_add_right _ _) (Nat.le_add_right _ _) ?_
    exact K_La_law_b1286 n E r18 a1 a2 x3 S q_8.2 r S' M' kc nc hr18 h
  · rw [if_neg c_9] at h
    refine zi_iconst 0 d_La_law_786 rfl ?_
    cases h
    exact zo_retB d_La_law_787 (zleR hkc) (zleR hnc) rfl
theorem K_La_law_c22 (n : Nat) (E : zE) (r18 : Nat × Nat × Int32 × zS × zH → Option (Bool × zS × zH)) (a1 : Nat) (a2 : Nat) (x3 : Int32) (S : zS) (M : zH) (r : Bool) (S' : zS) (M' : zH) (kc nc : Nat) (hkc : kc + 6 ≤ 3214) (hnc : nc + 2567 ≤ 1341798) (hr18 : ∀ (a1 : Nat) (a2 : Nat) (x3 : Int32) (S : zS) (M : zH), r18 (a1, a2, x3, S, M) = some (r, S', M') → zG E Y_La_law (some (.int (bI r)), S', M') 18 [(0, .ref (eb E)), (1, .ref a1), (2, .ref a2), (3, .int x3)] [] S M (kc + 6) (nc + 2567)) (h : F_La_law_c22 n E r18 a1 a2 x3 S M = some (r, S', M')) : zG E Y_La_law (some (.int (bI r)), S', M') 788 [(0, .ref (eb E)), (1, .ref a1), (2, .ref a2), (3, .int x3)] [] S M kc nc := by
  unfold F_La_law_c22 at h
  refine zi_aload_n 1 d_La_law_788 rfl ?_
  refine zi_aload_n 0 d_La_law_789 rfl ?_
  refine zi_iload_n 3 d_La_law_790 rfl ?_
  refine zi_iconst 1 d_La_law_791 rfl ?_
  refine zi_iadd d_La_law_792 ?_
  obtain ⟨v_1, ev_1, h⟩ := zbind h
  refine zo_scr 794 d_La_law_793 ev_1 rfl ?_
  refine zi_aload_n 0 d_La_law_794 rfl ?_
  refine zi_iload_n 3 d_La_law_795 rfl ?_
  refine zi_iconst 2 d_La_law_796 rfl ?_
  refine zi_iadd d_La_law_797 ?_
  obtain ⟨v_2, ev_2, h⟩ := zbind h
  refine zo_scr 799 d_La_law_798 ev_2 rfl ?_
  obtain ⟨u_3, eu_3, h⟩ := zbind h
  obtain ⟨q_4, eq_4, h⟩ := zbind h
  refine zo_virt (k' := kc) (n' := nc) 802 [.int v_1, .int v_2] [] [.int q_4.1] zkd_10 (zck_s eu_3) (C_NC_placed n E S a1 v_1 v_2 M q_4.1 q_4.2 eq_4) d_La_law_799 tw_988 tw_985 tw_986 tw_987 tw_1 dd_NC_placed ⟨Nat.le_of_ble_eq_true rfl, Nat.le_of_ble_eq_true rfl, zle6 hkc (Nat.le_of_ble_eq_true rfl), zle6 hnc (Nat.le_of_ble_eq_true rfl)⟩ (Nat.le_of_ble_eq_true rfl) rfl rfl rfl rfl ?_
  refine zi_aload_n 2 d_La_law_802 rfl ?_
  refine zi_aload_n 0 d_La_law_803 rfl ?_
  refine zi_iload_n 3 d_La_law_804 rfl ?_
  refine zi_iconst 1 d_La_law_805 rfl ?_
  refine zi_iadd d_La_law_806 ?_
  obtain ⟨v_5, ev_5, h⟩ := zbind h
  refine zo_scr 808 d_La_law_807 ev_5 rfl ?_
  refine zi_aload_n 0 d_La_law_808 rfl ?_
  refine zi_iload_n 3 d_La_law_809 rfl ?_
  refine zi_iconst 2 d_La_law_810 rfl ?_
  refine zi_iadd d_La_law_811 ?_
  obtain ⟨v_6, ev_6, h⟩ := zbind h
  refine zo_scr 813 d_La_law_812 ev_6 rfl ?_
  obtain ⟨u_7, eu_7, h⟩ := zbind h
  obtain ⟨q_8, eq_8, h⟩ := zbind h
  refine zo_virt (k' := kc) (n' := nc) 816 [.int v_5, .int v_6] [.int q_4.1] [.int q_8.1, .int q_4.1] zkd_11 (zck_s eu_7) (C_Mo_placed n E S a2 v_5 v_6 q_4.2 q_8.1 q_8.2 eq_8) d_La_law_813 tw_1752 tw_1749 tw_1750 tw_1751 tw_13 dd_Mo_placed ⟨Nat.le_of_ble_eq_true rfl, Nat.le_of_ble_eq_true rfl, zle6 hkc (Nat.le_of_ble_eq_true rfl), zle6 hnc (Nat.le_of_ble_eq_true rfl)⟩ (Nat.le_of_ble_eq_true rfl) rfl rfl rfl rfl ?_
  refine zi_icmp_eq (tgt := 1286) d_La_law_816 rfl (fun c_9 => ?_) (fun c_9 => ?_)
  · rw [if_pos c_9] at h
    refine zi_lo [(0, .ref (eb E)), (1, .ref a1), (2, .ref a2), (3, .int x3)] [0, 1, 2, 3] rfl ?_
    refine zi_wide (kc + 6) (nc + 2567) (Nat.le_add_right _ _) (Nat.le_add_right _ _) ?_
    exact K_La_law_b1286 n E r18 a1 a2 x3 S q_8.2 r S' M' kc nc hr18 h
  · rw [if_neg c_9] at h
    refine zi_iconst 0 d_La_law_819 rfl ?_
    cases h
    exact zo_retB d_La_law_820 (zleR hkc) (zleR hnc) rfl
