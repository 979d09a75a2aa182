/-! THE LAW (printed by gen/law.py) -/
def Y_La_law : zY := (⟨"NightColanderLaw","law","([I)Z"⟩, code, 4, some .boolean, 107, 3214, 1341798)
theorem zle6 {k c C y : Nat} (h : k + c ≤ C) (hy : y ≤ c) : k + y ≤ C := by omega
theorem zle0 {k c C y : Nat} (h : k + c ≤ C) (hy : y ≤ 0) : k + c + y ≤ C := by omega
theorem zleR {k c C : Nat} (h : k + c ≤ C) : k ≤ C := by omega
def F_La_law_b1286 (n : Nat) (E : zE) (r18 : Nat × Nat × Int32 × zS × zH → Option (Bool × zS × zH)) (a1 : Nat) (a2 : Nat) (x3 : Int32) (S : zS) (M : zH) : Option (Bool × zS × zH) :=
  r18 (a1, a2, x3 + 6, S, M)
def F_La_law_c0 (n : Nat) (E : zE) (r18 : Nat × Nat × Int32 × zS × zH → Option (Bool × zS × zH)) (a1 : Nat) (a2 : Nat) (x3 : Int32) (S : zS) (M : zH) : Option (Bool × zS × zH) :=
  (zscr E (x3 + 1)).bind fun v_1 =>
  (zscr E (x3 + 2)).bind fun v_2 =>
  (zscr E (x3 + 3)).bind fun v_3 =>
  (zck S a1 10).bind fun u_4 =>
  (F_NC_hole n E S a1 v_1 v_2 v_3 M).bind fun q_5 =>
  (zscr E (x3 + 1)).bind fun v_6 =>
  (zscr E (x3 + 2)).bind fun v_7 =>
  (zscr E (x3 + 3)).bind fun v_8 =>
  (zck S a2 11).bind fun u_9 =>
  (F_Mo_hole n E S a2 v_6 v_7 v_8 q_5.2).bind fun q_10 =>
  if q_5.1 = q_10.1 then
    F_La_law_b1286 n E r18 a1 a2 x3 S q_10.2
  else
    some (false, S, q_10.2)
def F_La_law_c1 (n : Nat) (E : zE) (r18 : Nat × Nat × Int32 × zS × zH → Option (Bool × zS × zH)) (a1 : Nat) (a2 : Nat) (x3 : Int32) (S : zS) (M : zH) : Option (Bool × zS × zH) :=
  (zscr E (x3 + 1)).bind fun v_1 =>
  (zscr E (x3 + 2)).bind fun v_2 =>
  (zck S a1 10).bind fun u_3 =>
  (F_NC_turn n E S a1 v_1 v_2 M).bind fun q_4 =>
  (zscr E (x3 + 1)).bind fun v_5 =>
  (zscr E (x3 + 2)).bind fun v_6 =>
  (zck S a2 11).bind fun u_7 =>
  (F_Mo_turn n E S a2 v_5 v_6 q_4.2).bind fun q_8 =>
  if q_4.1 = q_8.1 then
    F_La_law_b1286 n E r18 a1 a2 x3 S q_8.2
  else
    some (false, S, q_8.2)
def F_La_law_c2 (n : Nat) (E : zE) (r18 : Nat × Nat × Int32 × zS × zH → Option (Bool × zS × zH)) (a1 : Nat) (a2 : Nat) (x3 : Int32) (S : zS) (M : zH) : Option (Bool × zS × zH) :=
  (zscr E (x3 + 1)).bind fun v_1 =>
  (zscr E (x3 + 2)).bind fun v_2 =>
  (zck S a1 10).bind fun u_3 =>
  (F_NC_bucket n E S a1 v_1 v_2 M).bind fun q_4 =>
  (zscr E (x3 + 1)).bind fun v_5 =>
  (zscr E (x3 + 2)).bind fun v_6 =>
  (zck S a2 11).bind fun u_7 =>
  (F_Mo_bucket n E S a2 v_5 v_6 q_4.2).bind fun q_8 =>
  if q_4.1 = q_8.1 then
    F_La_law_b1286 n E r18 a1 a2 x3 S q_8.2
  else
    some (false, S, q_8.2)
def F_La_law_c3 (n : Nat) (E : zE) (r18 : Nat × Nat × Int32 × zS × zH → Option (Bool × zS × zH)) (a1 : Nat) (a2 : Nat) (x3 : Int32) (S : zS) (M : zH) : Option (Bool × zS × zH) :=
  (zscr E (x3 + 1)).bind fun v_1 =>
  (zscr E (x3 + 2)).bind fun v_2 =>
  (zck S a1 10).bind fun u_3 =>
  (F_NC_of n E S a1 v_1 v_2 M).bind fun q_4 =>
  (zscr E (x3 + 1)).bind fun v_5 =>
  (zscr E (x3 + 2)).bind fun v_6 =>
  (zck S a2 11).bind fun u_7 =>
  (F_Mo_of n E S a2 v_5 v_6 q_4.2).bind fun q_8 =>
  if q_4.1 = q_8.1 then
    F_La_law_b1286 n E r18 a1 a2 x3 S q_8.2
  else
    some (false, S, q_8.2)
def F_La_law_c4 (n : Nat) (E : zE) (r18 : Nat × Nat × Int32 × zS × zH → Option (Bool × zS × zH)) (a1 : Nat) (a2 : Nat) (x3 : Int32) (S : zS) (M : zH) : Option (Bool × zS × zH) :=
  (zscr E (x3 + 1)).bind fun v_1 =>
  (zscr E (x3 + 2)).bind fun v_2 =>
  (zck S a1 10).bind fun u_3 =>
  (F_NC_wanted n E S a1 v_1 v_2 M).bind fun q_4 =>
  (zscr E (x3 + 1)).bind fun v_5 =>
  (zscr E (x3 + 2)).bind fun v_6 =>
  (zck S a2 11).bind fun u_7 =>
  (F_Mo_wanted n E S a2 v_5 v_6 q_4.2).bind fun q_8 =>
  if q_4.1 = q_8.1 then
    F_La_law_b1286 n E r18 a1 a2 x3 S q_8.2
  else
    some (false, S, q_8.2)
def F_La_law_c5 (n : Nat) (E : zE) (r18 : Nat × Nat × Int32 × zS × zH → Option (Bool × zS × zH)) (a1 : Nat) (a2 : Nat) (x3 : Int32) (S : zS) (M : zH) : Option (Bool × zS × zH) :=
  (zscr E (x3 + 1)).bind fun v_1 =>
  (zck S a1 10).bind fun u_2 =>
  (F_NC_flow n E S a1 v_1 M).bind fun q_3 =>
  (zscr E (x3 + 1)).bind fun v_4 =>
  (zck S a2 11).bind fun u_5 =>
  (F_Mo_flow n E S a2 v_4 q_3.2).bind fun q_6 =>
  if q_3.1 = q_6.1 then
    F_La_law_b1286 n E r18 a1 a2 x3 S q_6.2
  else
    some (false, S, q_6.2)
def F_La_law_c6 (n : Nat) (E : zE) (r18 : Nat × Nat × Int32 × zS × zH → Option (Bool × zS × zH)) (a1 : Nat) (a2 : Nat) (x3 : Int32) (S : zS) (M : zH) : Option (Bool × zS × zH) :=
  (zscr E (x3 + 1)).bind fun v_1 =>
  (zscr E (x3 + 2)).bind fun v_2 =>
  (zck S a1 10).bind fun u_3 =>
  (F_NC_terms n E S a1 v_1 v_2 M).bind fun q_4 =>
  (zscr E (x3 + 1)).bind fun v_5 =>
  (zscr E (x3 + 2)).bind fun v_6 =>
  (zck S a2 11).bind fun u_7 =>
  (F_Mo_terms n E S a2 v_5 v_6 q_4.2).bind fun q_8 =>
  if q_4.1 = q_8.1 then
    F_La_law_b1286 n E r18 a1 a2 x3 S q_8.2
  else
    some (false, S, q_8.2)
def F_La_law_c7 (n : Nat) (E : zE) (r18 : Nat × Nat × Int32 × zS × zH → Option (Bool × zS × zH)) (a1 : Nat) (a2 : Nat) (x3 : Int32) (S : zS) (M : zH) : Option (Bool × zS × zH) :=
  (zscr E (x3 + 1)).bind fun v_1 =>
  (zscr E (x3 + 2)).bind fun v_2 =>
  (zscr E (x3 + 3)).bind fun v_3 =>
  (zscr E (x3 + 4)).bind fun v_4 =>
  (zscr E (x3 + 5)).bind fun v_5 =>
  (zck S a1 10).bind fun u_6 =>
  (F_NC_feed n E S a1 v_1 v_2 v_3 v_4 v_5 M).bind fun q_7 =>
  (zscr E (x3 + 1)).bind fun v_8 =>
  (zscr E (x3 + 2)).bind fun v_9 =>
  (zscr E (x3 + 3)).bind fun v_10 =>
  (zscr E (x3 + 4)).bind fun v_11 =>
  (zscr E (x3 + 5)).bind fun v_12 =>
  (zck S a2 11).bind fun u_13 =>
  (F_Mo_feed n E S a2 v_8 v_9 v_10 v_11 v_12 q_7.2).bind fun q_14 =>
  if q_7.1 = q_14.1 then
    F_La_law_b1286 n E r18 a1 a2 x3 S q_14.2
  else
    some (false, S, q_14.2)
def F_La_law_c8 (n : Nat) (E : zE) (r18 : Nat × Nat × Int32 × zS × zH → Option (Bool × zS × zH)) (a1 : Nat) (a2 : Nat) (x3 : Int32) (S : zS) (M : zH) : Option (Bool × zS × zH) :=
  (zscr E (x3 + 1)).bind fun v_1 =>
  (zck S a1 10).bind fun u_2 =>
  (F_NC_end n E S a1 v_1 M).bind fun q_3 =>
  (zscr E (x3 + 1)).bind fun v_4 =>
  (zck S a2 11).bind fun u_5 =>
  (F_Mo_end n E S a2 v_4 q_3.2).bind fun q_6 =>
  if q_3.1 = q_6.1 then
    F_La_law_b1286 n E r18 a1 a2 x3 S q_6.2
  else
    some (false, S, q_6.2)
def F_La_law_c9 (n : Nat) (E : zE) (r18 : Nat × Nat × Int32 × zS × zH → Option (Bool × zS × zH)) (a1 : Nat) (a2 : Nat) (x3 : Int32) (S : zS) (M : zH) : Option (Bool × zS × zH) :=
  (zck S a1 10).bind fun u_1 =>
  (F_NC_row n E S a1 M).bind fun q_2 =>
  (zck S a2 11).bind fun u_3 =>
  (F_Mo_row n E S a2 q_2.2).bind fun q_4 =>
  if q_2.1 = q_4.1 then
    F_La_law_b1286 n E r18 a1 a2 x3 S q_4.2
  else
    some (false, S, q_4.2)
def F_La_law_c10 (n : Nat) (E : zE) (r18 : Nat × Nat × Int32 × zS × zH → Option (Bool × zS × zH)) (a1 : Nat) (a2 : Nat) (x3 : Int32) (S : zS) (M : zH) : Option (Bool × zS × zH) :=
  (zck S a1 10).bind fun u_1 =>
  (F_NC_peas n E S a1 M).bind fun q_2 =>
  (zck S a2 11).bind fun u_3 =>
  (F_Mo_peas n E S a2 q_2.2).bind fun q_4 =>
  if q_2.1 = q_4.1 then
    F_La_law_b1286 n E r18 a1 a2 x3 S q_4.2
  else
    some (false, S, q_4.2)
def F_La_law_c11 (n : Nat) (E : zE) (r18 : Nat × Nat × Int32 × zS × zH → Option (Bool × zS × zH)) (a1 : Nat) (a2 : Nat) (x3 : Int32) (S : zS) (M : zH) : Option (Bool × zS × zH) :=
  (zck S a1 10).bind fun u_1 =>
  (F_NC_law n E a1 S M).bind fun q_2 =>
  (zck q_2.2.1 a2 11).bind fun u_3 =>
  (F_Mo_law n E q_2.2.1 a2 q_2.2.2).bind fun q_4 =>
  if q_2.1 = q_4.1 then
    F_La_law_b1286 n E r18 a1 a2 x3 q_2.2.1 q_4.2
  else
    some (false, q_2.2.1, q_4.2)
def F_La_law_c12 (n : Nat) (E : zE) (r18 : Nat × Nat × Int32 × zS × zH → Option (Bool × zS × zH)) (a1 : Nat) (a2 : Nat) (x3 : Int32) (S : zS) (M : zH) : Option (Bool × zS × zH) :=
  (zck S a1 10).bind fun u_1 =>
  (F_NC_orders n E S a1 M).bind fun q_2 =>
  (zck S a2 11).bind fun u_3 =>
  (F_Mo_orders n E S a2 q_2.2).bind fun q_4 =>
  if q_2.1 = q_4.1 then
    F_La_law_b1286 n E r18 a1 a2 x3 S q_4.2
  else
    some (false, S, q_4.2)
def F_La_law_c13 (n : Nat) (E : zE) (r18 : Nat × Nat × Int32 × zS × zH → Option (Bool × zS × zH)) (a1 : Nat) (a2 : Nat) (x3 : Int32) (S : zS) (M : zH) : Option (Bool × zS × zH) :=
  (zck S a1 10).bind fun u_1 =>
  (F_NC_fault n E S a1 M).bind fun q_2 =>
  (zck S a2 11).bind fun u_3 =>
  (F_Mo_fault n E S a2 q_2.2).bind fun q_4 =>
  if q_2.1 = q_4.1 then
    F_La_law_b1286 n E r18 a1 a2 x3 S q_4.2
  else
    some (false, S, q_4.2)
def F_La_law_c14 (n : Nat) (E : zE) (r18 : Nat × Nat × Int32 × zS × zH → Option (Bool × zS × zH)) (a1 : Nat) (a2 : Nat) (x3 : Int32) (S : zS) (M : zH) : Option (Bool × zS × zH) :=
  (zck S a1 10).bind fun u_1 =>
  (F_NC_stopped n E S a1 M).bind fun q_2 =>
  (zck S a2 11).bind fun u_3 =>
  (F_Mo_stopped n E S a2 q_2.2).bind fun q_4 =>
  if q_2.1 = q_4.1 then
    F_La_law_b1286 n E r18 a1 a2 x3 S q_4.2
  else
    some (false, S, q_4.2)
def F_La_law_c15 (n : Nat) (E : zE) (r18 : Nat × Nat × Int32 × zS × zH → Option (Bool × zS × zH)) (a1 : Nat) (a2 : Nat) (x3 : Int32) (S : zS) (M : zH) : Option (Bool × zS × zH) :=
  (zscr E (x3 + 1)).bind fun v_1 =>
  (zck S a1 10).bind fun u_2 =>
  (F_NC_force n E S a1 v_1 M).bind fun q_3 =>
  (zscr E (x3 + 1)).bind fun v_4 =>
  (zck S a2 11).bind fun u_5 =>
  (F_Mo_force n E S a2 v_4 q_3.2).bind fun q_6 =>
  if q_3.1 = q_6.1 then
    F_La_law_b1286 n E r18 a1 a2 x3 S q_6.2
  else
    some (false, S, q_6.2)
def F_La_law_c16 (n : Nat) (E : zE) (r18 : Nat × Nat × Int32 × zS × zH → Option (Bool × zS × zH)) (a1 : Nat) (a2 : Nat) (x3 : Int32) (S : zS) (M : zH) : Option (Bool × zS × zH) :=
  (zscr E (x3 + 1)).bind fun v_1 =>
  (zscr E (x3 + 2)).bind fun v_2 =>
  (zck S a1 10).bind fun u_3 =>
  (F_NC_block n E S a1 v_1 v_2 M).bind fun q_4 =>
  (zscr E (x3 + 1)).bind fun v_5 =>
  (zscr E (x3 + 2)).bind fun v_6 =>
  (zck S a2 11).bind fun u_7 =>
  (F_Mo_block n E S a2 v_5 v_6 q_4.2).bind fun q_8 =>
  if q_4.1 = q_8.1 then
    F_La_law_b1286 n E r18 a1 a2 x3 S q_8.2
  else
    some (false, S, q_8.2)
def F_La_law_c17 (n : Nat) (E : zE) (r18 : Nat × Nat × Int32 × zS × zH → Option (Bool × zS × zH)) (a1 : Nat) (a2 : Nat) (x3 : Int32) (S : zS) (M : zH) : Option (Bool × zS × zH) :=
  (zscr E (x3 + 1)).bind fun v_1 =>
  (zscr E (x3 + 2)).bind fun v_2 =>
  (zck S a1 10).bind fun u_3 =>
  (F_NC_ream n E S a1 v_1 v_2 M).bind fun q_4 =>
  (zscr E (x3 + 1)).bind fun v_5 =>
  (zscr E (x3 + 2)).bind fun v_6 =>
  (zck S a2 11).bind fun u_7 =>
  (F_Mo_ream n E S a2 v_5 v_6 q_4.2).bind fun q_8 =>
  if q_4.1 = q_8.1 then
    F_La_law_b1286 n E r18 a1 a2 x3 S q_8.2
  else
    some (false, S, q_8.2)
def F_La_law_c18 (n : Nat) (E : zE) (r18 : Nat × Nat × Int32 × zS × zH → Option (Bool × zS × zH)) (a1 : Nat) (a2 : Nat) (x3 : Int32) (S : zS) (M : zH) : Option (Bool × zS × zH) :=
  (zscr E (x3 + 1)).bind fun v_1 =>
  (zscr E (x3 + 2)).bind fun v_2 =>
  (zck S a1 10).bind fun u_3 =>
  (F_NC_set n E S a1 v_1 v_2 M).bind fun q_4 =>
  (zscr E (x3 + 1)).bind fun v_5 =>
  (zscr E (x3 + 2)).bind fun v_6 =>
  (zck S a2 11).bind fun u_7 =>
  (F_Mo_set n E S a2 v_5 v_6 q_4.2).bind fun q_8 =>
  if q_4.1 = q_8.1 then
    F_La_law_b1286 n E r18 a1 a2 x3 S q_8.2
  else
    some (false, S, q_8.2)
def F_La_law_c19 (n : Nat) (E : zE) (r18 : Nat × Nat × Int32 × zS × zH → Option (Bool × zS × zH)) (a1 : Nat) (a2 : Nat) (x3 : Int32) (S : zS) (M : zH) : Option (Bool × zS × zH) :=
  (zck S a1 10).bind fun u_1 =>
  (F_NC_pass n E S a1 M).bind fun q_2 =>
  (zck S a2 11).bind fun u_3 =>
  (F_Mo_pass n E S a2 q_2.2).bind fun q_4 =>
  if q_2.1 = q_4.1 then
    F_La_law_b1286 n E r18 a1 a2 x3 S q_4.2
  else
    some (false, S, q_4.2)
def F_La_law_c20 (n : Nat) (E : zE) (r18 : Nat × Nat × Int32 × zS × zH → Option (Bool × zS × zH)) (a1 : Nat) (a2 : Nat) (x3 : Int32) (S : zS) (M : zH) : Option (Bool × zS × zH) :=
  (zck S a1 10).bind fun u_1 =>
  (F_NC_undo n E S a1 M).bind fun q_2 =>
  (zck S a2 11).bind fun u_3 =>
  (F_Mo_undo n E S a2 q_2.2).bind fun q_4 =>
  if q_2.1 = q_4.1 then
    F_La_law_b1286 n E r18 a1 a2 x3 S q_4.2
  else
    some (false, S, q_4.2)
def F_La_law_c21 (n : Nat) (E : zE) (r18 : Nat × Nat × Int32 × zS × zH → Option (Bool × zS × zH)) (a1 : Nat) (a2 : Nat) (x3 : Int32) (S : zS) (M : zH) : Option (Bool × zS × zH) :=
  (zscr E (x3 + 1)).bind fun v_1 =>
  (zscr E (x3 + 2)).bind fun v_2 =>
  (zck S a1 10).bind fun u_3 =>
  (F_NC_when n E S a1 v_1 v_2 M).bind fun q_4 =>
  (zscr E (x3 + 1)).bind fun v_5 =>
  (zscr E (x3 + 2)).bind fun v_6 =>
  (zck S a2 11).bind fun u_7 =>
  (F_Mo_when n E S a2 v_5 v_6 q_4.2).bind fun q_8 =>
  if q_4.1 = q_8.1 then
    F_La_law_b1286 n E r18 a1 a2 x3 S q_8.2
  else
    some (false, S, q_8.2)
def F_La_law_c22 (n : Nat) (E : zE) (r18 : Nat × Nat × Int32 × zS × zH → Option (Bool × zS × zH)) (a1 : Nat) (a2 : Nat) (x3 : Int32) (S : zS) (M : zH) : Option (Bool × zS × zH) :=
  (zscr E (x3 + 1)).bind fun v_1 =>
  (zscr E (x3 + 2)).bind fun v_2 =>
  (zck S a1 10).bind fun u_3 =>
  (F_NC_placed n E S a1 v_1 v_2 M).bind fun q_4 =>
  (zscr E (x3 + 1)).bind fun v_5 =>
  (zscr E (x3 + 2)).bind fun v_6 =>
  (zck S a2 11).bind fun u_7 =>
  (F_Mo_placed n E S a2 v_5 v_6 q_4.2).bind fun q_8 =>
  if q_4.1 = q_8.1 then
    F_La_law_b1286 n E r18 a1 a2 x3 S q_8.2
  else
    some (false, S, q_8.2)
def F_La_law_c23 (n : Nat) (E : zE) (r18 : Nat × Nat × Int32 × zS × zH → Option (Bool × zS × zH)) (a1 : Nat) (a2 : Nat) (x3 : Int32) (S : zS) (M : zH) : Option (Bool × zS × zH) :=
  (zscr E (x3 + 1)).bind fun v_1 =>
  (zscr E (x3 + 2)).bind fun v_2 =>
  (zck S a1 10).bind fun u_3 =>
  (F_NC_seen n E S a1 v_1 v_2 M).bind fun q_4 =>
  (zscr E (x3 + 1)).bind fun v_5 =>
  (zscr E (x3 + 2)).bind fun v_6 =>
  (zck S a2 11).bind fun u_7 =>
  (F_Mo_seen n E S a2 v_5 v_6 q_4.2).bind fun q_8 =>
  if q_4.1 = q_8.1 then
    F_La_law_b1286 n E r18 a1 a2 x3 S q_8.2
  else
    some (false, S, q_8.2)
def F_La_law_c24 (n : Nat) (E : zE) (r18 : Nat × Nat × Int32 × zS × zH → Option (Bool × zS × zH)) (a1 : Nat) (a2 : Nat) (x3 : Int32) (S : zS) (M : zH) : Option (Bool × zS × zH) :=
  (zck S a1 10).bind fun u_1 =>
  (F_NC_forget n E S a1 M).bind fun q_2 =>
  (zck S a2 11).bind fun u_3 =>
  (F_Mo_forget n E S a2 q_2.2).bind fun q_4 =>
  if q_2.1 = q_4.1 then
    F_La_law_b1286 n E r18 a1 a2 x3 S q_4.2
  else
    some (false, S, q_4.2)
def F_La_law_c25 (n : Nat) (E : zE) (r18 : Nat × Nat × Int32 × zS × zH → Option (Bool × zS × zH)) (a1 : Nat) (a2 : Nat) (x3 : Int32) (S : zS) (M : zH) : Option (Bool × zS × zH) :=
  (zscr E (x3 + 1)).bind fun v_1 =>
  (zck S a1 10).bind fun u_2 =>
  (F_NC_settings n E S a1 v_1 M).bind fun q_3 =>
  (zscr E (x3 + 1)).bind fun v_4 =>
  (zck S a2 11).bind fun u_5 =>
  (F_Mo_settings n E S a2 v_4 q_3.2).bind fun q_6 =>
  if q_3.1 = q_6.1 then
    F_La_law_b1286 n E r18 a1 a2 x3 S q_6.2
  else
    some (false, S, q_6.2)
def F_La_law_c26 (n : Nat) (E : zE) (r18 : Nat × Nat × Int32 × zS × zH → Option (Bool × zS × zH)) (a1 : Nat) (a2 : Nat) (x3 : Int32) (S : zS) (M : zH) : Option (Bool × zS × zH) :=
  (zscr E (x3 + 1)).bind fun v_1 =>
  (zck S a1 10).bind fun u_2 =>
  (F_NC_look n E S a1 v_1 M).bind fun q_3 =>
  (zscr E (x3 + 1)).bind fun v_4 =>
  (zck S a2 11).bind fun u_5 =>
  (F_Mo_look n E S a2 v_4 q_3.2).bind fun q_6 =>
  if q_3.1 = q_6.1 then
    F_La_law_b1286 n E r18 a1 a2 x3 S q_6.2
  else
    some (false, S, q_6.2)
def F_La_law_c27 (n : Nat) (E : zE) (r18 : Nat × Nat × Int32 × zS × zH → Option (Bool × zS × zH)) (a1 : Nat) (a2 : Nat) (x3 : Int32) (S : zS) (M : zH) : Option (Bool × zS × zH) :=
  (zscr E (x3 + 1)).bind fun v_1 =>
  (zck S a1 10).bind fun u_2 =>
  (F_NC_turned n E S a1 v_1 M).bind fun q_3 =>
  (zscr E (x3 + 1)).bind fun v_4 =>
  (zck S a2 11).bind fun u_5 =>
  (F_Mo_turned n E S a2 v_4 q_3.2).bind fun q_6 =>
  if q_3.1 = q_6.1 then
    F_La_law_b1286 n E r18 a1 a2 x3 S q_6.2
  else
    some (false, S, q_6.2)
def F_La_law_c28 (n : Nat) (E : zE) (r18 : Nat × Nat × Int32 × zS × zH → Option (Bool × zS × zH)) (a1 : Nat) (a2 : Nat) (x3 : Int32) (S : zS) (M : zH) : Option (Bool × zS × zH) :=
  (zscr E (x3 + 1)).bind fun v_1 =>
  (zscr E (x3 + 2)).bind fun v_2 =>
  (zscr E (x3 + 3)).bind fun v_3 =>
  (zck S a1 10).bind fun u_4 =>
  (F_NC_cleared n E S a1 v_1 v_2 v_3 M).bind fun q_5 =>
  (zscr E (x3 + 1)).bind fun v_6 =>
  (zscr E (x3 + 2)).bind fun v_7 =>
  (zscr E (x3 + 3)).bind fun v_8 =>
  (zck S a2 11).bind fun u_9 =>
  (F_Mo_cleared n E S a2 v_6 v_7 v_8 q_5.2).bind fun q_10 =>
  if q_5.1 = q_10.1 then
    F_La_law_b1286 n E r18 a1 a2 x3 S q_10.2
  else
    some (false, S, q_10.2)
def F_La_law_c29 (n : Nat) (E : zE) (r18 : Nat × Nat × Int32 × zS × zH → Option (Bool × zS × zH)) (a1 : Nat) (a2 : Nat) (x3 : Int32) (S : zS) (M : zH) : Option (Bool × zS × zH) :=
  (zscr E (x3 + 1)).bind fun v_1 =>
  (zck S a1 10).bind fun u_2 =>
  (F_NC_drought n E S a1 v_1 M).bind fun q_3 =>
  (zscr E (x3 + 1)).bind fun v_4 =>
  (zck S a2 11).bind fun u_5 =>
  (F_Mo_drought n E S a2 v_4 q_3.2).bind fun q_6 =>
  if q_3.1 = q_6.1 then
    F_La_law_b1286 n E r18 a1 a2 x3 S q_6.2
  else
    some (false, S, q_6.2)
def F_La_law_c30 (n : Nat) (E : zE) (r18 : Nat × Nat × Int32 × zS × zH → Option (Bool × zS × zH)) (a1 : Nat) (a2 : Nat) (x3 : Int32) (S : zS) (M : zH) : Option (Bool × zS × zH) :=
  (zscr E (x3 + 1)).bind fun v_1 =>
  (zck S a1 10).bind fun u_2 =>
  (F_NC_luck n E S a1 v_1 M).bind fun q_3 =>
  (zscr E (x3 + 1)).bind fun v_4 =>
  (zck S a2 11).bind fun u_5 =>
  (F_Mo_luck n E S a2 v_4 q_3.2).bind fun q_6 =>
  if q_3.1 = q_6.1 then
    F_La_law_b1286 n E r18 a1 a2 x3 S q_6.2
  else
    some (false, S, q_6.2)
def F_La_law_c31 (n : Nat) (E : zE) (r18 : Nat × Nat × Int32 × zS × zH → Option (Bool × zS × zH)) (a1 : Nat) (a2 : Nat) (x3 : Int32) (S : zS) (M : zH) : Option (Bool × zS × zH) :=
  (zscr E (x3 + 1)).bind fun v_1 =>
  (zscr E (x3 + 2)).bind fun v_2 =>
  (zck S a1 10).bind fun u_3 =>
  (F_NC_together n E S a1 v_1 v_2 M).bind fun q_4 =>
  (zscr E (x3 + 1)).bind fun v_5 =>
  (zscr E (x3 + 2)).bind fun v_6 =>
  (zck S a2 11).bind fun u_7 =>
  (F_Mo_together n E S a2 v_5 v_6 q_4.2).bind fun q_8 =>
  if q_4.1 = q_8.1 then
    F_La_law_b1286 n E r18 a1 a2 x3 S q_8.2
  else
    some (false, S, q_8.2)
def F_La_law_c32 (n : Nat) (E : zE) (r18 : Nat × Nat × Int32 × zS × zH → Option (Bool × zS × zH)) (a1 : Nat) (a2 : Nat) (x3 : Int32) (S : zS) (M : zH) : Option (Bool × zS × zH) :=
  (zscr E (x3 + 1)).bind fun v_1 =>
  (zck S a1 10).bind fun u_2 =>
  (F_NC_settled n E S a1 v_1 M).bind fun q_3 =>
  (zscr E (x3 + 1)).bind fun v_4 =>
  (zck S a2 11).bind fun u_5 =>
  (F_Mo_settled n E S a2 v_4 q_3.2).bind fun q_6 =>
  if q_3.1 = q_6.1 then
    F_La_law_b1286 n E r18 a1 a2 x3 S q_6.2
  else
    some (false, S, q_6.2)
def F_La_law_c33 (n : Nat) (E : zE) (r18 : Nat × Nat × Int32 × zS × zH → Option (Bool × zS × zH)) (a1 : Nat) (a2 : Nat) (x3 : Int32) (S : zS) (M : zH) : Option (Bool × zS × zH) :=
  (zscr E (x3 + 1)).bind fun v_1 =>
  (zscr E (x3 + 2)).bind fun v_2 =>
  (zck S a1 10).bind fun u_3 =>
  (F_NC_few n E S a1 v_1 v_2 M).bind fun q_4 =>
  (zscr E (x3 + 1)).bind fun v_5 =>
  (zscr E (x3 + 2)).bind fun v_6 =>
  (zck S a2 11).bind fun u_7 =>
  (F_Mo_few n E S a2 v_5 v_6 q_4.2).bind fun q_8 =>
  if q_4.1 = q_8.1 then
    F_La_law_b1286 n E r18 a1 a2 x3 S q_8.2
  else
    some (false, S, q_8.2)
def F_La_law_c34 (n : Nat) (E : zE) (r18 : Nat × Nat × Int32 × zS × zH → Option (Bool × zS × zH)) (a1 : Nat) (a2 : Nat) (x3 : Int32) (S : zS) (M : zH) : Option (Bool × zS × zH) :=
  (zscr E (x3 + 1)).bind fun v_1 =>
  (zck S a1 10).bind fun u_2 =>
  (F_NC_worth n E S a1 v_1 M).bind fun q_3 =>
  (zscr E (x3 + 1)).bind fun v_4 =>
  (zck S a2 11).bind fun u_5 =>
  (F_Mo_worth n E S a2 v_4 q_3.2).bind fun q_6 =>
  if q_3.1 = q_6.1 then
    F_La_law_b1286 n E r18 a1 a2 x3 S q_6.2
  else
    some (false, S, q_6.2)
def F_La_law_c35 (n : Nat) (E : zE) (r18 : Nat × Nat × Int32 × zS × zH → Option (Bool × zS × zH)) (a1 : Nat) (a2 : Nat) (x3 : Int32) (S : zS) (M : zH) : Option (Bool × zS × zH) :=
  (zscr E (x3 + 1)).bind fun v_1 =>
  (zscr E (x3 + 2)).bind fun v_2 =>
  (zck S a1 10).bind fun u_3 =>
  (F_NC_years n E S a1 v_1 v_2 M).bind fun q_4 =>
  (zscr E (x3 + 1)).bind fun v_5 =>
  (zscr E (x3 + 2)).bind fun v_6 =>
  (zck S a2 11).bind fun u_7 =>
  (F_Mo_years n E S a2 v_5 v_6 q_4.2).bind fun q_8 =>
  if q_4.1 = q_8.1 then
    F_La_law_b1286 n E r18 a1 a2 x3 S q_8.2
  else
    some (false, S, q_8.2)
def F_La_law_c36 (n : Nat) (E : zE) (r18 : Nat × Nat × Int32 × zS × zH → Option (Bool × zS × zH)) (a1 : Nat) (a2 : Nat) (x3 : Int32) (S : zS) (M : zH) : Option (Bool × zS × zH) :=
  (zscr E (x3 + 1)).bind fun v_1 =>
  (zscr E (x3 + 2)).bind fun v_2 =>
  (zck S a1 10).bind fun u_3 =>
  (F_NC_drawn n E S a1 v_1 v_2 M).bind fun q_4 =>
  (zscr E (x3 + 1)).bind fun v_5 =>
  (zscr E (x3 + 2)).bind fun v_6 =>
  (zck S a2 11).bind fun u_7 =>
  (F_Mo_drawn n E S a2 v_5 v_6 q_4.2).bind fun q_8 =>
  if q_4.1 = q_8.1 then
    F_La_law_b1286 n E r18 a1 a2 x3 S q_8.2
  else
    some (false, S, q_8.2)
def F_La_law_c37 (n : Nat) (E : zE) (r18 : Nat × Nat × Int32 × zS × zH → Option (Bool × zS × zH)) (a1 : Nat) (a2 : Nat) (x3 : Int32) (S : zS) (M : zH) : Option (Bool × zS × zH) :=
  (zscr E (x3 + 1)).bind fun v_1 =>
  (zck S a1 10).bind fun u_2 =>
  (F_NC_image n E S a1 v_1 M).bind fun q_3 =>
  (zscr E (x3 + 1)).bind fun v_4 =>
  (zck S a2 11).bind fun u_5 =>
  (F_Mo_image n E S a2 v_4 q_3.2).bind fun q_6 =>
  if q_3.1 = q_6.1 then
    F_La_law_b1286 n E r18 a1 a2 x3 S q_6.2
  else
    some (false, S, q_6.2)
def F_La_law_c38 (n : Nat) (E : zE) (r18 : Nat × Nat × Int32 × zS × zH → Option (Bool × zS × zH)) (a1 : Nat) (a2 : Nat) (x3 : Int32) (S : zS) (M : zH) : Option (Bool × zS × zH) :=
  (zscr E (x3 + 1)).bind fun v_1 =>
  (zck S a1 10).bind fun u_2 =>
  (F_NC_back n E S a1 v_1 M).bind fun q_3 =>
  (zscr E (x3 + 1)).bind fun v_4 =>
  (zck S a2 11).bind fun u_5 =>
  (F_Mo_back n E S a2 v_4 q_3.2).bind fun q_6 =>
  if q_3.1 = q_6.1 then
    F_La_law_b1286 n E r18 a1 a2 x3 S q_6.2
  else
    some (false, S, q_6.2)
def F_La_law_c39 (n : Nat) (E : zE) (r18 : Nat × Nat × Int32 × zS × zH → Option (Bool × zS × zH)) (a1 : Nat) (a2 : Nat) (x3 : Int32) (S : zS) (M : zH) : Option (Bool × zS × zH) :=
  (zscr E (x3 + 1)).bind fun v_1 =>
  (zck S a1 10).bind fun u_2 =>
  (F_NC_count n E S a1 v_1 M).bind fun q_3 =>
  (zscr E (x3 + 1)).bind fun v_4 =>
  (zck S a2 11).bind fun u_5 =>
  (F_Mo_count n E S a2 v_4 q_3.2).bind fun q_6 =>
  if q_3.1 = q_6.1 then
    F_La_law_b1286 n E r18 a1 a2 x3 S q_6.2
  else
    some (false, S, q_6.2)
def F_La_law_c40 (n : Nat) (E : zE) (r18 : Nat × Nat × Int32 × zS × zH → Option (Bool × zS × zH)) (a1 : Nat) (a2 : Nat) (x3 : Int32) (S : zS) (M : zH) : Option (Bool × zS × zH) :=
  (zck S a1 10).bind fun u_1 =>
  (F_NC_status n E S a1 M).bind fun q_2 =>
  (zck S a2 11).bind fun u_3 =>
  (F_Mo_status n E S a2 q_2.2).bind fun q_4 =>
  if q_2.1 = q_4.1 then
    F_La_law_b1286 n E r18 a1 a2 x3 S q_4.2
  else
    some (false, S, q_4.2)
def F_La_law_L18 (n : Nat) (E : zE) (r18 : Nat × Nat × Int32 × zS × zH → Option (Bool × zS × zH)) (a1 : Nat) (a2 : Nat) (x3 : Int32) (S : zS) (M : zH) : Option (Bool × zS × zH) :=
  if ((nI (eL E)) - 6) < x3 then
    some (true, S, M)
  else
    (zscr E x3).bind fun v_2 =>
    if (v_2 &&& (63 : Int32)) = 0 then
      F_La_law_c0 n E r18 a1 a2 x3 S M
    else
    if (v_2 &&& (63 : Int32)) = 1 then
      F_La_law_c1 n E r18 a1 a2 x3 S M
    else
    if (v_2 &&& (63 : Int32)) = 2 then
      F_La_law_c2 n E r18 a1 a2 x3 S M
    else
    if (v_2 &&& (63 : Int32)) = 3 then
      F_La_law_c3 n E r18 a1 a2 x3 S M
    else
    if (v_2 &&& (63 : Int32)) = 4 then
      F_La_law_c4 n E r18 a1 a2 x3 S M
    else
    if (v_2 &&& (63 : Int32)) = 5 then
      F_La_law_c5 n E r18 a1 a2 x3 S M
    else
    if (v_2 &&& (63 : Int32)) = 6 then
      F_La_law_c6 n E r18 a1 a2 x3 S M
    else
    if (v_2 &&& (63 : Int32)) = 7 then
      F_La_law_c7 n E r18 a1 a2 x3 S M
    else
    if (v_2 &&& (63 : Int32)) = 8 then
      F_La_law_c8 n E r18 a1 a2 x3 S M
    else
    if (v_2 &&& (63 : Int32)) = 9 then
      F_La_law_c9 n E r18 a1 a2 x3 S M
    else
    if (v_2 &&& (63 : Int32)) = 10 then
      F_La_law_c10 n E r18 a1 a2 x3 S M
    else
    if (v_2 &&& (63 : Int32)) = 11 then
      F_La_law_c11 n E r18 a1 a2 x3 S M
    else
    if (v_2 &&& (63 : Int32)) = 12 then
      F_La_law_c12 n E r18 a1 a2 x3 S M
    else
    if (v_2 &&& (63 : Int32)) = 13 then
      F_La_law_c13 n E r18 a1 a2 x3 S M
    else
    if (v_2 &&& (63 : Int32)) = 14 then
      F_La_law_c14 n E r18 a1 a2 x3 S M
    else
    if (v_2 &&& (63 : Int32)) = 15 then
      F_La_law_c15 n E r18 a1 a2 x3 S M
    else
    if (v_2 &&& (63 : Int32)) = 16 then
      F_La_law_c16 n E r18 a1 a2 x3 S M
    else
    if (v_2 &&& (63 : Int32)) = 17 then
      F_La_law_c17 n E r18 a1 a2 x3 S M
    else
    if (v_2 &&& (63 : Int32)) = 18 then
      F_La_law_c18 n E r18 a1 a2 x3 S M
    else
    if (v_2 &&& (63 : Int32)) = 19 then
      F_La_law_c19 n E r18 a1 a2 x3 S M
    else
    if (v_2 &&& (63 : Int32)) = 20 then
      F_La_law_c20 n E r18 a1 a2 x3 S M
    else
    if (v_2 &&& (63 : Int32)) = 21 then
      F_La_law_c21 n E r18 a1 a2 x3 S M
    else
    if (v_2 &&& (63 : Int32)) = 22 then
      F_La_law_c22 n E r18 a1 a2 x3 S M
    else
    if (v_2 &&& (63 : Int32)) = 23 then
      F_La_law_c23 n E r18 a1 a2 x3 S M
    else
    if (v_2 &&& (63 : Int32)) = 24 then
      F_La_law_c24 n E r18 a1 a2 x3 S M
    else
    if (v_2 &&& (63 : Int32)) = 25 then
      F_La_law_c25 n E r18 a1 a2 x3 S M
    else
    if (v_2 &&& (63 : Int32)) = 26 then
      F_La_law_c26 n E r18 a1 a2 x3 S M
    else
    if (v_2 &&& (63 : Int32)) = 27 then
      F_La_law_c27 n E r18 a1 a2 x3 S M
    else
    if (v_2 &&& (63 : Int32)) = 28 then
      F_La_law_c28 n E r18 a1 a2 x3 S M
    else
    if (v_2 &&& (63 : Int32)) = 29 then
      F_La_law_c29 n E r18 a1 a2 x3 S M
    else
    if (v_2 &&& (63 : Int32)) = 30 then
      F_La_law_c30 n E r18 a1 a2 x3 S M
    else
    if (v_2 &&& (63 : Int32)) = 31 then
      F_La_law_c31 n E r18 a1 a2 x3 S M
    else
    if (v_2 &&& (63 : Int32)) = 32 then
      F_La_law_c32 n E r18 a1 a2 x3 S M
    else
    if (v_2 &&& (63 : Int32)) = 33 then
      F_La_law_c33 n E r18 a1 a2 x3 S M
    else
    if (v_2 &&& (63 : Int32)) = 34 then
      F_La_law_c34 n E r18 a1 a2 x3 S M
    else
    if (v_2 &&& (63 : Int32)) = 35 then
      F_La_law_c35 n E r18 a1 a2 x3 S M
    else
    if (v_2 &&& (63 : Int32)) = 36 then
      F_La_law_c36 n E r18 a1 a2 x3 S M
    else
    if (v_2 &&& (63 : Int32)) = 37 then
      F_La_law_c37 n E r18 a1 a2 x3 S M
    else
    if (v_2 &&& (63 : Int32)) = 38 then
      F_La_law_c38 n E r18 a1 a2 x3 S M
    else
    if (v_2 &&& (63 : Int32)) = 39 then
      F_La_law_c39 n E r18 a1 a2 x3 S M
    else
    if (v_2 &&& (63 : Int32)) = 40 then
      F_La_law_c40 n E r18 a1 a2 x3 S M
    else
      F_La_law_b1286 n E r18 a1 a2 x3 S M
def F_La_law_b18 (n : Nat) (E : zE) : Nat × Nat × Int32 × zS × zH → Option (Bool × zS × zH) := zfix (fun r18 s => F_La_law_L18 n E r18 s.1 s.2.1 s.2.2.1 s.2.2.2.1 s.2.2.2.2) 513
def F_La_law (n : Nat) (E : zE) (S : zS) (M : zH) : Option (Bool × zS × zH) :=
  (zmkO S M 10).bind fun q_1 =>
  (F_NC_init n E q_1.1 q_1.2.1 q_1.2.2).bind fun q_2 =>
  (zmkO q_2.1 q_2.2 11).bind fun q_3 =>
  (F_Mo_init n E q_3.1 q_3.2.1 q_3.2.2).bind fun q_4 =>
  F_La_law_b18 n E (q_1.1, q_3.1, 0, q_4.1, q_4.2)
