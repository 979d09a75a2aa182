/-! THE DEEDS: as numbers, and of the class -/
/-- why a deed can't be; 0: it can -/
def rfs (N : Nt) (Ls : Nat → Lw) (k a b : Int) : Int :=
  if k = 0 then (if (0 ≤ a ∧ a ≤ 7) ∧ (0 ≤ b ∧ b ≤ 3) then 0 else -1)
  else if k = 1 then (if (0 ≤ a ∧ a ≤ 7) ∧ (0 ≤ b ∧ b ≤ 3) then (if N 0 (b * 8 + a).toNat < 9 then 0 else -3) else -1)
  else if k = 2 then (if 0 ≤ b ∧ b ≤ 7 then (if 0 ≤ a ∧ a ≤ N 11 0 - 1 then (if bAt N b = -1 ∧ ¬ barV N Ls a b = 1 then 0 else -3) else -2) else -1)
  else (if N 9 0 < 999 then 0 else -3)
def dAns (N : Nt) (Ls : Nat → Lw) (k a b : Int) : Int := if k = 0 then 1 - N 1 (b * 8 + a).toNat else if k = 1 then N 0 (b * 8 + a).toNat + 1 else if k = 2 then N 5 a.toNat else pasV N Ls
def dN (N : Nt) (Ls : Nat → Lw) (k a b : Int) : Nt := if k = 0 then nset N 1 (b * 8 + a).toNat (1 - N 1 (b * 8 + a).toNat) else if k = 1 then nset N 0 (b * 8 + a).toNat (N 0 (b * 8 + a).toNat + 1) else if k = 2 then nset N 5 a.toNat b else pasN N Ls
def dG (N : Nt) (k : Int) : Nat → Int := if k = 2 then N 5 else N 4
def pfA (N : Nt) (Ls : Nat → Lw) (k a b : Int) : Int := if rfs N Ls k a b = 0 then dAns N Ls k a b else rfs N Ls k a b
def pfN (N : Nt) (Ls : Nat → Lw) (k a b : Int) : Nt := if rfs N Ls k a b = 0 then dN N Ls k a b else N
def pfT (N : Nt) (Ls : Nat → Lw) (T : Pst) (k a b : Int) : Pst := if rfs N Ls k a b = 0 then psh T k a b (dG N k) N else T
theorem rfs_c {N : Nt} {Ls : Nat → Lw} {k a b : Int} : rfs N Ls k a b = 0 ∨ rfs N Ls k a b = -1 ∨ rfs N Ls k a b = -2 ∨ rfs N Ls k a b = -3 := by
  unfold rfs
  repeat' split
  all_goals omega
theorem rfs_h {N : Nt} {Ls : Nat → Lw} {k a b : Int} (h : rfs N Ls k a b = 0) (hk : k = 0 ∨ k = 1) : (0 ≤ a ∧ a ≤ 7) ∧ (0 ≤ b ∧ b ≤ 3) := by
  by_cases c : (0 ≤ a ∧ a ≤ 7) ∧ (0 ≤ b ∧ b ≤ 3)
  · exact c
  · exfalso
    unfold rfs at h
    rcases hk with rfl | rfl
    · rw [if_pos rfl, if_neg c] at h; omega
    · rw [if_neg (by decide), if_pos rfl, if_neg c] at h; omega
theorem rfs_1 {N : Nt} {Ls : Nat → Lw} {a b : Int} (h : rfs N Ls 1 a b = 0) : N 0 (b * 8 + a).toNat < 9 := by
  have c := rfs_h h (Or.inr rfl)
  unfold rfs at h
  rw [if_neg (by decide), if_pos rfl, if_pos c] at h
  by_cases d : N 0 (b * 8 + a).toNat < 9
  · exact d
  · rw [if_neg d] at h; omega
theorem rfs_2 {N : Nt} {Ls : Nat → Lw} {a b : Int} (h : rfs N Ls 2 a b = 0) : (0 ≤ b ∧ b ≤ 7) ∧ (0 ≤ a ∧ a ≤ N 11 0 - 1) ∧ bAt N b = -1 ∧ ¬ barV N Ls a b = 1 := by
  unfold rfs at h
  rw [if_neg (by decide), if_neg (by decide), if_pos rfl] at h
  by_cases c1 : 0 ≤ b ∧ b ≤ 7
  · rw [if_pos c1] at h
    by_cases c2 : 0 ≤ a ∧ a ≤ N 11 0 - 1
    · rw [if_pos c2] at h
      by_cases c3 : bAt N b = -1 ∧ ¬ barV N Ls a b = 1
      · exact ⟨c1, c2, c3⟩
      · rw [if_neg c3] at h; omega
    · rw [if_neg c2] at h; omega
  · rw [if_neg c1] at h; omega
theorem rfs_3 {N : Nt} {Ls : Nat → Lw} {a b : Int} (h : rfs N Ls 3 a b = 0) : N 9 0 < 999 := by
  unfold rfs at h
  rw [if_neg (by decide), if_neg (by decide), if_neg (by decide)] at h
  by_cases c : N 9 0 < 999
  · exact c
  · rw [if_neg c] at h; omega
theorem pasN_c {N : Nt} {Ls : Nat → Lw} {c k : Nat} (h4 : c ≠ 4) (h2 : c ≠ 2) (h9 : ¬ (c = 9 ∧ k = 0)) : pasN N Ls c k = N c k := by
  unfold pasN nturn
  rw [if_neg (fun q => h2 q.1), if_neg h9]
  exact pIt_c _ _ _ h4
theorem pasN_9 {N : Nt} {Ls : Nat → Lw} : pasN N Ls 9 0 = N 9 0 + 1 := by
  unfold pasN nturn
  rw [if_neg (by decide), if_pos ⟨rfl, rfl⟩, pIt_c _ _ _ (by decide)]
theorem dN_ok {N : Nt} {Ls : Nat → Lw} {k a b : Int} (hN : NdOK N) (hh : N 9 0 ≤ 999) (hk : 0 ≤ k ∧ k ≤ 3) (h : rfs N Ls k a b = 0) : NdOK (dN N Ls k a b) ∧ dN N Ls k a b 9 0 ≤ 999 ∧ rsEq N (dN N Ls k a b) := by
  have hb := hN.nb
  unfold dN
  by_cases c0 : k = 0
  · subst c0
    have c := rfs_h h (Or.inl rfl)
    have hk := hN.blk (k := (b * 8 + a).toNat) (by omega)
    rw [if_pos rfl]
    exact ⟨hN.s1 (by omega), hh, rsEq.rfl'⟩
  by_cases c1 : k = 1
  · subst c1
    have c := rfs_h h (Or.inr rfl)
    have d := rfs_1 h
    have hk := hN.bore (k := (b * 8 + a).toNat) (by omega)
    rw [if_neg (by decide), if_pos rfl]
    exact ⟨hN.s0 (by omega) (by omega), hh, rsEq.rfl'⟩
  by_cases c2 : k = 2
  · subst c2
    obtain ⟨d1, d2, d3⟩ := rfs_2 h
    rw [if_neg (by decide), if_neg (by decide), if_pos rfl]
    exact ⟨hN.s5 d1.1 (by omega), hh, rsEq.rfl'⟩
  · obtain rfl : k = 3 := by omega
    have d := rfs_3 h
    rw [if_neg (by decide), if_neg (by decide), if_neg (by decide)]
    refine ⟨pasN_ok hN (by omega), by rw [pasN_9]; omega, ⟨fun k _ => pasN_c (by decide) (by decide) (by omega), fun k _ => pasN_c (by decide) (by decide) (by omega), fun k _ => pasN_c (by decide) (by decide) (by omega), fun k _ => pasN_c (by decide) (by decide) (by omega), pasN_c (by decide) (by decide) (by decide), pasN_c (by decide) (by decide) (by decide), pasN_c (by decide) (by decide) (by decide), pasN_c (by decide) (by decide) (by decide)⟩⟩
theorem dN_bk {N : Nt} {Ls : Nat → Lw} {k a b : Int} (hN : NdOK N) (hk : 0 ≤ k ∧ k ≤ 3) : snEq (bkN k a b (dG N k) (dN N Ls k a b)) N := by
  unfold bkN dN dG
  by_cases c0 : k = 0
  · subst c0
    simp only [if_pos]
    refine ⟨fun _ _ => rfl, fun j hj => ?_, fun _ _ => rfl, fun _ _ => rfl, fun _ _ => rfl, fun _ _ => rfl, fun _ _ => rfl, rfl⟩
    rw [nset_s]
    by_cases q : j = (b * 8 + a).toNat
    · rw [q, nset_s]; omega
    · rw [nset_k q, nset_k q]
  by_cases c1 : k = 1
  · subst c1
    simp only [if_neg (show ¬ (1 : Int) = 0 by decide), if_pos]
    refine ⟨fun j hj => ?_, fun _ _ => rfl, fun _ _ => rfl, fun _ _ => rfl, fun _ _ => rfl, fun _ _ => rfl, fun _ _ => rfl, rfl⟩
    rw [nset_s]
    by_cases q : j = (b * 8 + a).toNat
    · rw [q, nset_s]; omega
    · rw [nset_k q, nset_k q]
  by_cases c2 : k = 2
  · subst c2
    simp only [if_neg (show ¬ (2 : Int) = 0 by decide), if_neg (show ¬ (2 : Int) = 1 by decide), if_pos]
    refine ⟨fun _ _ => rfl, fun _ _ => rfl, fun _ _ => rfl, fun _ _ => rfl, fun _ _ => rfl, fun j hj => ?_, fun _ _ => rfl, rfl⟩
    show (if 5 = 5 ∧ j < 3 then N 5 j else nset N 5 a.toNat b 5 j) = _
    rw [if_pos (show 5 = 5 ∧ j < 3 from ⟨rfl, hj⟩)]
  · obtain rfl : k = 3 := by omega
    simp only [if_neg (show ¬ (3 : Int) = 0 by decide), if_neg (show ¬ (3 : Int) = 1 by decide), if_neg (show ¬ (3 : Int) = 2 by decide)]
    have hc : ∀ c j, c ≠ 4 → c ≠ 2 → ¬ (c = 9 ∧ j = 0) → nturn (fun c k => if c = 4 ∧ k < 3 then N 4 k else pasN N Ls c k) (-1) c j = N c j := fun c j h4 h2 h9 => by
      unfold nturn
      rw [if_neg (fun q => h2 q.1), if_neg h9]
      show (if c = 4 ∧ j < 3 then N 4 j else pasN N Ls c j) = _
      rw [if_neg (fun q => h4 q.1)]
      exact pasN_c h4 h2 h9
    refine ⟨fun j _ => hc 0 j (by decide) (by decide) (by omega), fun j _ => hc 1 j (by decide) (by decide) (by omega), fun j hj => ?_, fun j _ => hc 3 j (by decide) (by decide) (by omega), fun j hj => ?_, fun j _ => hc 5 j (by decide) (by decide) (by omega), fun j hj => ?_, hc 11 0 (by decide) (by decide) (by decide)⟩
    · have ht := hN.turn hj
      unfold nturn
      rw [if_pos ⟨rfl, hj⟩]
      show ((if 2 = 4 ∧ j < 3 then N 4 j else pasN N Ls 2 j) + -1 * ((j : Int) + 1)) % 8 = _
      rw [if_neg (fun q => absurd q.1 (by decide))]
      unfold pasN nturn
      rw [if_pos ⟨rfl, hj⟩, pIt_c _ _ _ (by decide)]
      omega
    · unfold nturn
      rw [if_neg (by omega), if_neg (by omega)]
      show (if 4 = 4 ∧ j < 3 then N 4 j else _) = _
      rw [if_pos ⟨rfl, hj⟩]
    · by_cases q : j = 0
      · subst q
        unfold nturn
        rw [if_neg (by omega), if_pos ⟨rfl, rfl⟩]
        show (if 9 = 4 ∧ 0 < 3 then N 4 0 else pasN N Ls 9 0) + -1 = _
        rw [if_neg (by omega), pasN_9]; omega
      · exact hc 9 j (by decide) (by decide) (by omega)
theorem PJ.pf {N : Nt} {Ls : Nat → Lw} {T : Pst} {k a b : Int} (h : PJ N T) (hN : NdOK N) (hh : N 9 0 ≤ 999) (hk : 0 ≤ k ∧ k ≤ 3) : PJ (pfN N Ls k a b) (pfT N Ls T k a b) := by
  unfold pfN pfT
  by_cases c : rfs N Ls k a b = 0
  · rw [if_pos c, if_pos c]
    refine h.psh hN hh ⟨hk.1, hk.2, fun q => ?_⟩ (dN_bk hN hk)
    have := rfs_h c (by omega)
    omega
  · rw [if_neg c, if_neg c]; exact h
theorem pfN_ok {N : Nt} {Ls : Nat → Lw} {k a b : Int} (hN : NdOK N) (hh : N 9 0 ≤ 999) (hk : 0 ≤ k ∧ k ≤ 3) : NdOK (pfN N Ls k a b) ∧ pfN N Ls k a b 9 0 ≤ 999 ∧ rsEq N (pfN N Ls k a b) := by
  unfold pfN
  by_cases c : rfs N Ls k a b = 0
  · rw [if_pos c]; exact dN_ok hN hh hk c
  · rw [if_neg c]; exact ⟨hN, hh, rsEq.rfl'⟩
theorem dAns_b {N : Nt} {Ls : Nat → Lw} {k a b : Int} (hN : NdOK N) (hk : 0 ≤ k ∧ k ≤ 3) (h : rfs N Ls k a b = 0) : 0 ≤ dAns N Ls k a b ∧ dAns N Ls k a b ≤ 297 := by
  have hb := hN.nb
  unfold dAns
  by_cases c0 : k = 0
  · subst c0
    have c := rfs_h h (Or.inl rfl)
    have hk := hN.blk (k := (b * 8 + a).toNat) (by omega)
    rw [if_pos rfl]; omega
  by_cases c1 : k = 1
  · subst c1
    have c := rfs_h h (Or.inr rfl)
    have hk := hN.bore (k := (b * 8 + a).toNat) (by omega)
    rw [if_neg (by decide), if_pos rfl]; omega
  by_cases c2 : k = 2
  · subst c2
    obtain ⟨d1, d2, d3⟩ := rfs_2 h
    have hk := hN.fie (k := a.toNat) (by omega)
    rw [if_neg (by decide), if_neg (by decide), if_pos rfl]; omega
  · obtain rfl : k = 3 := by omega
    have := pasV_b (Ls := Ls) hN
    rw [if_neg (by decide), if_neg (by decide), if_neg (by decide)]; omega
theorem pfA_c {N : Nt} {Ls : Nat → Lw} {k a b : Int} (hN : NdOK N) (hk : 0 ≤ k ∧ k ≤ 3) : (rfs N Ls k a b = 0 ∧ 0 ≤ pfA N Ls k a b ∧ pfA N Ls k a b ≤ 297) ∨ (rfs N Ls k a b ≠ 0 ∧ (pfA N Ls k a b = -1 ∨ pfA N Ls k a b = -2 ∨ pfA N Ls k a b = -3)) := by
  unfold pfA
  by_cases c : rfs N Ls k a b = 0
  · rw [if_pos c]; exact Or.inl ⟨c, dAns_b hN hk c⟩
  · rw [if_neg c]; right
    have := rfs_c (N := N) (Ls := Ls) (k := k) (a := a) (b := b)
    exact ⟨c, by omega⟩
section
variable {n : Nat} {E : zE} {S : zS} {M : zH} {B : Nat} {N : Nt} {Ls : Nat → Lw}
theorem s_rfs (hS : ShOK S B) (hC : CN S M B (B + 1) N Ls) (hn : 600 ≤ n) {k a b : Int} (hk : 0 ≤ k ∧ k ≤ 3) (ha : zR a) (hb : zR b) : ∃ M', F_De_refusalOf n E S (B + 80) (B + 1) (iI k) (iI a) (iI b) M = some (iI (rfs N Ls k a b), M') ∧ zAg (cScr B) M M' := by
  have hI := nA1.ni hS
  have hN := hC.2.1
  have hnb := hN.nb
  unfold F_De_refusalOf rfs
  by_cases c0 : k = 0
  · subst c0
    rw [if_pos q00, if_pos rfl, s_isHole ha, obs]
    by_cases c1 : 0 ≤ a ∧ a ≤ 7
    · rw [if_pos (decide_eq_true c1), s_isRing hb, obs]
      by_cases c2 : 0 ≤ b ∧ b ≤ 3
      · rw [if_pos (decide_eq_true c2), if_pos ⟨c1, c2⟩]; exact ⟨M, rfl, zAg.rfl'⟩
      · rw [if_neg (fun q => c2 (of_decide_eq_true q)), if_neg (fun q => c2 q.2)]; exact ⟨M, rfl, zAg.rfl'⟩
    · rw [if_neg (fun q => c1 (of_decide_eq_true q)), if_neg (fun q => c1 q.1)]; exact ⟨M, rfl, zAg.rfl'⟩
  rw [if_neg (by rw [iL0, xeq (by omega) (by omega) (by omega) (by omega)]; exact c0), if_neg c0]
  by_cases c1 : k = 1
  · subst c1
    rw [if_pos q11, if_pos rfl, s_isHole ha, obs]
    by_cases c1 : 0 ≤ a ∧ a ≤ 7
    · rw [if_pos (decide_eq_true c1), s_isRing hb, obs]
      by_cases c2 : 0 ≤ b ∧ b ≤ 3
      · have hk := hN.bore (k := (b * 8 + a).toNat) (by omega)
        rw [if_pos (decide_eq_true c2), if_pos ⟨c1, c2⟩, hI.g0, obs, iL8, iI_mul, iI_add, hI.r0 hC.1 (by omega) (by omega), obs, iL9]
        by_cases c3 : N 0 (b * 8 + a).toNat < 9
        · rw [if_pos c3, if_neg (by rw [xle (by omega) (by omega) (by omega) (by omega)]; omega)]; exact ⟨M, rfl, zAg.rfl'⟩
        · rw [if_neg c3, if_pos (by rw [xle (by omega) (by omega) (by omega) (by omega)]; omega)]; exact ⟨M, rfl, zAg.rfl'⟩
      · rw [if_neg (fun q => c2 (of_decide_eq_true q)), if_neg (fun q => c2 q.2)]; exact ⟨M, rfl, zAg.rfl'⟩
    · rw [if_neg (fun q => c1 (of_decide_eq_true q)), if_neg (fun q => c1 q.1)]; exact ⟨M, rfl, zAg.rfl'⟩
  rw [if_neg (by rw [iL1, xeq (by omega) (by omega) (by omega) (by omega)]; exact c1), if_neg c1]
  by_cases c2 : k = 2
  · subst c2
    rw [if_pos q22, if_pos rfl, s_isField hb, obs]
    by_cases d1 : 0 ≤ b ∧ b ≤ 7
    · rw [if_pos (decide_eq_true d1), if_pos d1, hI.ck, obs, s_hasBucket hI hC.1 hN ha, obs]
      by_cases d2 : 0 ≤ a ∧ a ≤ N 11 0 - 1
      · rw [if_pos (decide_eq_true d2), if_pos d2, s_bucketAt hI hC.1 hN (by omega) hb, obs]
        have hbb := bAt_b (N := N) (f := b)
        by_cases d3 : bAt N b = -1
        · obtain ⟨M1, e1, hA1⟩ := s_isBarred (n := n) (E := E) hS nA1 hC (by omega) d2.1 (show a < 3 by omega) d1.1 (show b < 8 by omega)
          rw [d3, if_pos m1p, hS.g80_0, obs, hS.ck76, obs, e1, obs]
          by_cases d4 : barV N Ls a b = 1
          · rw [if_pos (decide_eq_true d4), if_neg (fun q => q.2 d4)]; exact ⟨M1, rfl, hA1⟩
          · rw [if_neg (fun q => d4 (of_decide_eq_true q)), if_pos ⟨rfl, d4⟩]; exact ⟨M1, rfl, hA1⟩
        · rw [if_neg (by rw [iLm1, xeq (by omega) (by omega) (by omega) (by omega)]; exact d3), if_neg (fun q => d3 q.1)]; exact ⟨M, rfl, zAg.rfl'⟩
      · rw [if_neg (fun q => d2 (of_decide_eq_true q)), if_neg d2]; exact ⟨M, rfl, zAg.rfl'⟩
    · rw [if_neg (fun q => d1 (of_decide_eq_true q)), if_neg d1]; exact ⟨M, rfl, zAg.rfl'⟩
  rw [if_neg (by rw [iL2, xeq (by omega) (by omega) (by omega) (by omega)]; exact c2), if_neg c2, hI.g9, obs, iL0, hI.r9 hC.1 (by omega) (by omega), obs, iL999, tn0]
  have hh := hN.hour
  by_cases c3 : N 9 0 < 999
  · rw [if_pos c3, if_neg (by rw [xle (by omega) (by omega) (by omega) (by omega)]; omega)]; exact ⟨M, rfl, zAg.rfl'⟩
  · rw [if_neg c3, if_pos (by rw [xle (by omega) (by omega) (by omega) (by omega)]; omega)]; exact ⟨M, rfl, zAg.rfl'⟩
theorem s_chBlock {a : Nat} (hS : ShOK S B) (ha : nightAt B a) (hC : CN S M B a N Ls) {x : Int} (h0 : 0 ≤ x) (h1 : x < 32) : F_De_changeBlock n E S a (iI x) M = some (iI (1 - N 1 x.toNat), setI M (a + 1 + 1) x.toNat (iI (1 - N 1 x.toNat))) := by
  have hI := ha.ni hS
  have hk := hC.2.1.blk (k := x.toNat) (by omega)
  unfold F_De_changeBlock F_De_changeBlock_b19
  rw [hI.g1, obs, hI.r1 hC.1 h0 h1, obs, hI.w1 h0 h1, obs, obs]
  have hR1 := hC.1.set 1 (by decide) x.toNat (1 - N 1 x.toNat)
  rcases hk with hk | hk
  · rw [hk] at hR1 ⊢
    rw [if_pos q00, show vp_nar .boolean (1 : Int32) = iI (1 - 0) from rfl, hI.r1 hR1 h0 h1, obs, nset_s, if_neg (by decide)]
    rfl
  · rw [hk] at hR1 ⊢
    rw [if_neg (by decide), hI.w1 h0 h1, obs, obs, show vp_nar .boolean (0 : Int32) = iI (1 - 1) from rfl, hI.r1 hR1 h0 h1, obs, nset_s, if_pos (by decide)]
    rfl
theorem s_widen {a : Nat} (hS : ShOK S B) (ha : nightAt B a) (hC : CN S M B a N Ls) {x : Int} (h0 : 0 ≤ x) (h1 : x < 32) : F_De_widen n E S a (iI x) M = some (iI (N 0 x.toNat + 1), setI M (a + 1 + 0) x.toNat (iI (N 0 x.toNat + 1))) := by
  have hI := ha.ni hS
  have hR1 := hC.1.set 0 (by decide) x.toNat (N 0 x.toNat + 1)
  unfold F_De_widen
  rw [hI.g0, obs, hI.r0 hC.1 h0 h1, obs, iL1, iI_add, hI.w0 h0 h1, obs, hI.r0 hR1 h0 h1, obs, nset_s]
/-- what deeds of the class change -/
def dfX (B : Nat) : Nat → Nat → Prop := fun b j => cScr B b j ∨ (B + 2 ≤ b ∧ b ≤ B + 11) ∨ (b = B + 63 ∧ j = 1) ∨ b = B + 64
theorem s_perform (hS : ShOK S B) (hC : CN S M B (B + 1) N Ls) {T : Pst} (hP : PC M B T) (hJ : PJ N T) (hh : N 9 0 ≤ 999) (hn : 600 ≤ n) {k a b : Int} (hk : 0 ≤ k ∧ k ≤ 3) (ha : zR a) (hb : zR b) :
    ∃ M', F_De_perform n E S (B + 80) (B + 1) (B + 63) (iI k) (iI a) (iI b) M = some (iI (pfA N Ls k a b), M') ∧ CN S M' B (B + 1) (pfN N Ls k a b) Ls ∧ PC M' B (pfT N Ls T k a b) ∧ zAg (dfX B) M M' := by
  have hI := nA1.ni hS
  have hN := hC.2.1
  have hnb := hN.nb
  obtain ⟨M1, e1, hA1⟩ := s_rfs (n := n) (E := E) hS hC hn hk ha hb
  have hC1 := hC.scr nA1 hA1
  have hP1 : PC M1 B T := hP.ag hA1 (fun q => by unfold cScr at q; omega) (fun j q => by unfold cScr at q; omega)
  have d1 : zAg (dfX B) M M1 := hA1.mono (fun b j q => Or.inl q)
  have main : ∀ q : Nat, sK S q = 12 → sN S q = 3 → q ≠ B + 64 → q ≠ B + 63 → (∀ i, i < 3 → mI M1 q i = iI (dG N k i)) → ∃ M', F_De_perform_b16 n E S (B + 80) (B + 1) (B + 63) (iI k) (iI a) (iI b) q M = some (iI (pfA N Ls k a b), M') ∧ CN S M' B (B + 1) (pfN N Ls k a b) Ls ∧ PC M' B (pfT N Ls T k a b) ∧ zAg (dfX B) M M' := fun q q1 q2 q3 q4 q5 => by
    unfold F_De_perform_b16
    rw [hS.ck80, obs, e1, obs]
    unfold pfA pfN pfT
    have hrc := rfs_c (N := N) (Ls := Ls) (k := k) (a := a) (b := b)
    by_cases c : rfs N Ls k a b = 0
    · rw [if_pos c, if_pos c, if_pos c, c, if_pos q0p, hS.ck63, obs]
      obtain ⟨M2, e2, hP2, hA2⟩ := s_ptAdd (n := n) (E := E) (N := N) (d := k) (a := a) (b := b) hS hP1 hJ.1 q1 q2 q3 q4 q5
      have hC2 : CN S M2 B (B + 1) N Ls := hC1.ag hA2 (fun b j q => by omega)
      have d2 : zAg (dfX B) M M2 := d1.trans (hA2.mono (fun b j q => by unfold dfX; omega))
      rw [e2, obs]
      unfold dAns dN
      obtain ⟨k1, k2, k3⟩ := dN_ok hN hh hk c
      by_cases c0 : k = 0
      · subst c0
        have hx := rfs_h c (Or.inl rfl)
        rw [if_pos q00, if_pos rfl, if_pos rfl, iL8, iI_mul, iI_add, s_chBlock hS nA1 hC2 (by omega) (by omega), obs]
        refine ⟨_, rfl, hC2.set nA1 (by decide) rfl k1, ?_, d2.setI (Or.inr (Or.inl ⟨by omega, by omega⟩))⟩
        exact hP2.ag (X := fun b j => b = B + 1 + 1 + 1) (zAg.rfl'.setI rfl) (fun q => by omega) (fun j q => by omega)
      rw [if_neg (by rw [iL0, xeq (by omega) (by omega) (by omega) (by omega)]; exact c0), if_neg c0, if_neg c0]
      by_cases c1 : k = 1
      · subst c1
        have hx := rfs_h c (Or.inr rfl)
        rw [if_pos q11, if_pos rfl, if_pos rfl, iL8, iI_mul, iI_add, s_widen hS nA1 hC2 (by omega) (by omega), obs]
        refine ⟨_, rfl, hC2.set nA1 (by decide) rfl k1, ?_, d2.setI (Or.inr (Or.inl ⟨by omega, by omega⟩))⟩
        exact hP2.ag (X := fun b j => b = B + 1 + 1 + 0) (zAg.rfl'.setI rfl) (fun q => by omega) (fun j q => by omega)
      rw [if_neg (by rw [iL1, xeq (by omega) (by omega) (by omega) (by omega)]; exact c1), if_neg c1, if_neg c1]
      by_cases c2 : k = 2
      · subst c2
        obtain ⟨x1, x2, x3⟩ := rfs_2 c
        rw [if_pos q22, if_pos rfl, if_pos rfl]
        unfold F_De_move
        rw [hI.g5, obs, hI.r5 hC2.1 (by omega) (by omega), obs, hI.w5 (by omega) (by omega), obs, obs]
        refine ⟨_, rfl, hC2.set nA1 (by decide) rfl k1, ?_, d2.setI (Or.inr (Or.inl ⟨by omega, by omega⟩))⟩
        exact hP2.ag (X := fun b j => b = B + 1 + 1 + 5) (zAg.rfl'.setI rfl) (fun q => by omega) (fun j q => by omega)
      rw [if_neg (by rw [iL2, xeq (by omega) (by omega) (by omega) (by omega)]; exact c2), if_neg c2, if_neg c2]
      obtain rfl : k = 3 := by omega
      obtain ⟨M3, e3, hC3, hA3⟩ := s_hour (n := n) (E := E) hS nA1 hC2 hn (by omega)
      rw [e3, obs]
      refine ⟨M3, rfl, hC3, hP2.ag hA3 (fun q => by unfold hoX cScr at q; omega) (fun j q => by unfold hoX cScr at q; omega), d2.trans (hA3.mono (fun b j q => ?_))⟩
      unfold hoX at q; unfold dfX
      rcases q with q | q | q | q
      · exact Or.inl q
      · right; left; omega
      · right; left; omega
      · right; left; omega
    · rw [if_neg c, if_neg c, if_neg c, if_neg (by rw [iL0, xeq (by omega) (by omega) (by omega) (by omega)]; exact c)]
      exact ⟨M1, rfl, hC1, hP1, d1⟩
  unfold F_De_perform
  have hs4 := hI.2 4 (by decide)
  have hs5 := hI.2 5 (by decide)
  by_cases c2 : k = 2
  · subst c2
    rw [if_pos q22, hI.g5, obs]
    exact main (B + 1 + 1 + 5) hs5.2.1 hs5.2.2 (by omega) (by omega) (fun i hi => hC1.1.1 5 (by decide) i hi)
  · rw [if_neg (by rw [iL2, xeq (by omega) (by omega) (by omega) (by omega)]; exact c2), hI.g4, obs]
    refine main (B + 1 + 1 + 4) hs4.2.1 hs4.2.2 (by omega) (by omega) (fun i hi => ?_)
    unfold dG
    rw [if_neg c2]
    exact hC1.1.1 4 (by decide) i hi
end
