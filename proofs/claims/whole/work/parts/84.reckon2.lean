/-! THE MODEL'S MACHINE (2) -/
section
variable {n : Nat} {E : zE} {S : zS} {M : zH} {B : Nat}
set_option maxHeartbeats 4000000 in
theorem rk_run (hS : ShOK S B) {ord : Bool} {mo ma w : Nat → Int} {last : Nat} :
    ∀ (f kk k : Nat) (s : List Int) (M : zH), f ≤ kk → last - k < f → McR M B ord mo ma w last → stj M (B + 125) s → s.length ≤ 400 → k ≤ 1000 → mI M (B + 105) 38 = 0 → ∀ r, rM ord mo ma w last f k s = some r →
    ∃ M', zfix (fun r10 s => F_Mo_reckonAll_L10 n E S r10 s.1 s.2.1 s.2.2.1 s.2.2.2.1 s.2.2.2.2) kk (B + 105, iI (last : Int), iI (s.length : Int), iI (k : Int), M) = some M' ∧ zAg (rkX B) M M' ∧ mI M' (B + 105) 38 = (if r = none then 1 else 0) ∧ ∀ v, r = some v → mJ M' (B + 105) 39 = jJ v := by
  intro f
  induction f with
  | zero => intro kk k s M _ h; omega
  | succ f ih =>
    intro kk k s M hkk hf hM hs hsl hk h38 r hr
    obtain ⟨kk, rfl⟩ : ∃ j, kk = j + 1 := ⟨kk - 1, by omega⟩
    rw [zfix_s]
    have hlast := hM.2.1
    have ihk := fun k s M => ih kk k s M (by omega)
    have hbrk : ∀ (k' l : Nat) (M1 : zH), 1 ≤ kk → k' ≤ 1000 → l ≤ 400 → mI M1 (B + 105) 38 = 1 → zAg (rkX B) M M1 → ∃ M', zfix (fun r10 s => F_Mo_reckonAll_L10 n E S r10 s.1 s.2.1 s.2.2.1 s.2.2.2.1 s.2.2.2.2) kk (B + 105, iI (last : Int), iI (l : Int), iI (k' : Int), M1) = some M' ∧ zAg (rkX B) M M' ∧ mI M' (B + 105) 38 = 1 := by
      intro k' l M1 h1 h2 h3 h4 hA
      obtain ⟨kk, rfl⟩ : ∃ j, kk = j + 1 := ⟨kk - 1, by omega⟩
      rw [zfix_s]
      show ∃ M', F_Mo_reckonAll_L10 n E S _ (B + 105) (iI (last : Int)) (iI (l : Int)) (iI (k' : Int)) M1 = some M' ∧ _
      obtain ⟨v, e, _⟩ := b369 (n := n) (E := E) (M := M1) hS h3
      unfold F_Mo_reckonAll_L10
      rw [hS.i105, Option.bind_some, h4, if_neg (show ¬ (1 : Int32) = 0 by decide), e, ite_self]
      exact ⟨_, rfl, hA.setJ (Or.inr ⟨rfl, Or.inr rfl⟩), by rw [mI_setJ]; exact h4⟩
    generalize zfix (fun r10 s => F_Mo_reckonAll_L10 n E S r10 s.1 s.2.1 s.2.2.1 s.2.2.2.1 s.2.2.2.2) kk = rec at ihk hbrk ⊢
    have hgo : ∀ (k' : Nat) (s' : List Int) (M1 : zH), last - k' < f → k' ≤ 1000 → s'.length ≤ 400 → zAg (rkX B) M M1 → stj M1 (B + 125) s' → mI M1 (B + 105) 38 = 0 → rM ord mo ma w last f k' s' = some r → ∃ M', rec (B + 105, iI (last : Int), iI (s'.length : Int), iI (k' : Int), M1) = some M' ∧ zAg (rkX B) M M' ∧ mI M' (B + 105) 38 = (if r = none then 1 else 0) ∧ ∀ v, r = some v → mJ M' (B + 105) 39 = jJ v := by
      intro k' s' M1 h1 h2 h3 hA h4 h5 h6
      obtain ⟨M', e, hA', h7⟩ := ihk k' s' M1 h1 (hM.ag hA) h4 h3 h2 h5 r h6
      exact ⟨M', e, hA.trans hA', h7⟩
    show ∃ M', F_Mo_reckonAll_L10 n E S rec (B + 105) (iI (last : Int)) (iI (s.length : Int)) (iI (k : Int)) M = some M' ∧ _
    unfold F_Mo_reckonAll_L10
    unfold rM at hr
    simp only [xle (x := (last : Int)) (y := (k : Int)) (by omega) (by omega) (by omega) (by omega)]
    by_cases hb : last ≤ k
    · rw [if_pos (by omega)]
      rw [if_pos hb] at hr
      rcases s with _ | ⟨v, _ | ⟨u, s⟩⟩
      · cases hr
      · cases hr
        obtain ⟨v', e, h1⟩ := b369 (n := n) (E := E) (M := M) (l := 1) hS (by decide)
        refine ⟨_, e, zAg.rfl'.setJ (Or.inr ⟨rfl, Or.inr rfl⟩), by rw [mI_setJ]; exact h38, fun u hu => ?_⟩
        cases hu
        rw [mJ_ite, if_pos ⟨rfl, rfl⟩, h1 rfl]
        exact hs.1
      · cases hr
    rw [if_neg hb] at hr
    obtain ⟨r1, r2, r3, r4⟩ := hM.2.2.2.2 k (by omega)
    have hcode : ∃ x4, x4 = iI (k : Int) ∧ (if ((last : Int) ≤ (k : Int)) then F_Mo_reckonAll_b369 n E S (B + 105) (iI (s.length : Int)) M else (zgI S M (B + 105) 11 38).bind fun v_54 => if v_54 = 0 then (zgI S M (B + 105) 11 20).bind fun v_56 => if v_56 = 0 then (zgR S (B + 105) 11 3).bind fun b_58 => (zgI S M (B + 105) 11 34).bind fun v_59 => (zldI S M b_58 ((v_59 + 98) + (2 * iI (k : Int)))).bind fun v_60 => F_Mo_reckonAll_b57 n E S rec (B + 105) (iI (last : Int)) (iI (s.length : Int)) (iI (k : Int)) v_60 M else (zgR S (B + 105) 11 24).bind fun b_61 => (zldI S M b_61 (iI (k : Int))).bind fun v_62 => F_Mo_reckonAll_b57 n E S rec (B + 105) (iI (last : Int)) (iI (s.length : Int)) (iI (k : Int)) v_62 M else F_Mo_reckonAll_b369 n E S (B + 105) (iI (s.length : Int)) M) = F_Mo_reckonAll_b95 n E S rec (B + 105) (iI (last : Int)) (iI (s.length : Int)) (iI (k : Int)) (iI (mo k)) (iI (ma k)) M := by
      refine ⟨_, rfl, ?_⟩
      rw [if_neg (show ¬ (last : Int) ≤ (k : Int) by omega), hS.i105, Option.bind_some, h38, if_pos (show (0 : Int32) = 0 from rfl), hS.i105, Option.bind_some]
      unfold F_Mo_reckonAll_b57
      cases ord with
      | false =>
        have h1 : mI M (B + 105) 20 = 0 := hM.1
        obtain ⟨lw, a1, a2, a3, a4⟩ := hM.2.2.1 rfl
        obtain ⟨e1, e2⟩ := a3 k (by omega)
        rw [h1, if_pos (show (0 : Int32) = 0 from rfl), hS.g105_3, Option.bind_some, hS.i105, Option.bind_some, a1]
        simp (disch := omega) only [iL98, iL2, iI_add, iI_mul, hS.r107, Option.bind_some, hS.i105, h1, if_true]
        rw [show ((lw : Int) + 98 + 2 * (k : Int)).toNat = lw + 98 + 2 * k by omega, e1]
        simp (disch := omega) only [iL1, iI_add, hS.r107, Option.bind_some]
        rw [show ((lw : Int) + 98 + 2 * (k : Int) + 1).toNat = lw + 98 + 2 * k + 1 by omega, e2]
      | true =>
        have h1 : mI M (B + 105) 20 = 1 := hM.1
        obtain ⟨e1, e2⟩ := (hM.2.2.2.1 rfl).1 k (by omega)
        rw [h1, if_neg (show ¬ (1 : Int32) = 0 by decide), hS.g105_24, Option.bind_some, hS.r116 (by omega) (by omega), Option.bind_some, Int.toNat_natCast, e1, hS.i105, Option.bind_some, h1, if_neg (show ¬ (1 : Int32) = 0 by decide), hS.g105_25, Option.bind_some, hS.r117 (by omega) (by omega), Option.bind_some, Int.toNat_natCast, e2]
    obtain ⟨_, _, hcode⟩ := hcode
    have hk1 : iI (k : Int) + 1 = iI ((k + 1 : Nat) : Int) := by rw [iL1, iI_add]; rfl
    suffices hh : ∃ M', F_Mo_reckonAll_b95 n E S rec (B + 105) (iI (last : Int)) (iI (s.length : Int)) (iI (k : Int)) (iI (mo k)) (iI (ma k)) M = some M' ∧ zAg (rkX B) M M' ∧ mI M' (B + 105) 38 = (if r = none then 1 else 0) ∧ ∀ v, r = some v → mJ M' (B + 105) 39 = jJ v by
      rw [← hcode] at hh
      exact hh
    clear hcode
    by_cases c20 : mo k < 20
    · rw [if_pos c20] at hr
      by_cases hv : lv ord (mo k) (ma k) ∧ s.length < 400
      · rw [if_pos hv] at hr
        rw [b95leaf hS hM (by omega) hv.1 c20 hv.2, hk1, show (((s.length + 1 : Nat)) : Int) = (((if mo k = 0 then ma k else w (li ord (mo k) (ma k))) :: s).length : Int) from rfl]
        exact hgo (k + 1) _ _ (by omega) (by omega) (by simp; omega) (zAg.rfl'.setJ (Or.inl rfl)) (hs.push (lv_w hM hv.1)) (by rw [mI_setJ]; exact h38) hr
      · rw [if_neg hv] at hr
        cases hr
    rw [if_neg c20] at hr
    unfold F_Mo_reckonAll_b95
    simp only [show (20 : Int32) = iI 20 by decide, show (28 : Int32) = iI 28 by decide, show (29 : Int32) = iI 29 by decide, xle (x := 20) (y := mo k) (by omega) (by omega) (by omega) (by omega), xle (x := 28) (y := mo k) (by omega) (by omega) (by omega) (by omega), xeq (x := mo k) (y := 28) (by omega) (by omega) (by omega) (by omega), xeq (x := mo k) (y := 29) (by omega) (by omega) (by omega) (by omega)]
    rw [if_pos (show 20 ≤ mo k by omega)]
    by_cases c28 : mo k < 28
    · rw [if_pos c28] at hr
      rw [if_neg (show ¬ 28 ≤ mo k by omega)]
      rcases s with _ | ⟨b, _ | ⟨a, s2⟩⟩
      · cases hr
      · cases hr
      obtain ⟨hb1, hb2, ha1, ha2, hs2⟩ := hs
      have hl1 : (((b :: a :: s2).length : Nat) : Int) = (s2.length : Int) + 2 := by simp; omega
      have hsl2 : s2.length + 2 ≤ 400 := by simpa using hsl
      have hb1 : mJ M (B + 125) (s2.length + 1) = jJ b := hb1
      obtain ⟨M1, v, e1, hA1, v1, v2, h38', hv⟩ := s_reckon (n := n) (E := E) hS (show 20 ≤ mo k by omega) c28 ha2 hb2 h38
      rw [hl1, hS.g105_37, Option.bind_some]
      simp (disch := omega) only [iL1, iI_neg, iI_add, iI_sub, hS.r125, Option.bind_some]
      rw [show ((s2.length : Int) + 2 + -1 - 1).toNat = s2.length by omega, show ((s2.length : Int) + 2 + -1).toNat = s2.length + 1 by omega, ha1, hb1, e1, Option.bind_some]
      simp (disch := omega) only [hS.w125, hS.r125, hS.i105, Option.bind_some]
      rw [show ((s2.length : Int) + 2 + -1 - 1).toNat = s2.length by omega, mI_setJ, h38', mJ_ite, if_pos (show B + 125 = B + 125 ∧ s2.length = s2.length from ⟨rfl, rfl⟩)]
      have hAr : zAg (rkX B) M M1 := hA1.mono (fun b j h => Or.inr ⟨h.1, Or.inl h.2⟩)
      have hAs : zAg (rkX B) M (setJ M1 (B + 125) s2.length (jJ v)) := hAr.setJ (Or.inl rfl)
      have hs2' : stj M1 (B + 125) s2 := hs2.ag (fun i hi => (hA1 _ _ (fun h => by omega)).2.1)
      have hlen : iI ((s2.length : Int) + 2 + -1) = iI ((s2.length + 1 : Nat) : Int) := by congr 1; omega
      have hk1' : iI ((k : Int) + 1) = iI ((k + 1 : Nat) : Int) := rfl
      unfold F_Mo_reckonAll_b293 F_Mo_reckonAll_b298 F_Mo_reckonAll_b366
      rw [hlen, hk1']
      simp only at hr
      by_cases hn : cOp (mo k - 15) a b = none
      · have hr' : r = none := by
          rw [hn] at hr
          simp only [cRg] at hr
          cases hr; rfl
        subst hr'
        rw [if_pos hn, if_neg (show ¬ (1 : Int32) = 0 by decide)]
        simp only [hS.z1051, Option.bind_some]
        obtain ⟨M', e, hA, h9⟩ := hbrk (k + 1) (s2.length + 1) (setI (setJ M1 (B + 125) s2.length (jJ v)) (B + 105) 38 1) (by omega) (by omega) (by omega) mI_s (hAs.setI (Or.inr ⟨rfl, Or.inl rfl⟩))
        exact ⟨M', e, hA, by rw [h9]; rfl, fun v h => by cases h⟩
      · rw [if_neg hn, if_pos (show (0 : Int32) = 0 by decide)]
        have hv' := hv hn
        rw [jLG, jJ_neg, s_in (by omega) (by omega) (by omega) (by omega) (by omega) (by omega), Option.bind_some]
        rw [hv'] at hr
        simp only [cRg] at hr
        by_cases hg : -1000000000 ≤ v ∧ v ≤ 1000000000
        · rw [if_pos hg] at hr
          simp only at hr
          rw [if_pos (decide_eq_true hg)]
          simp only [hS.z1050, Option.bind_some]
          exact hgo (k + 1) (v :: s2) _ (by omega) (by omega) (by simp; omega) (hAs.setI (Or.inr ⟨rfl, Or.inl rfl⟩)) (stj.ag (hs2'.push (zR_of (by omega) (by omega))) (fun i hi => by rw [mJ_setI])) mI_s hr
        · rw [if_neg hg] at hr
          simp only at hr
          cases hr
          rw [if_neg (fun q => hg (of_decide_eq_true q))]
          simp only [hS.z1051, Option.bind_some]
          obtain ⟨M', e, hA, h9⟩ := hbrk (k + 1) (s2.length + 1) (setI (setJ M1 (B + 125) s2.length (jJ v)) (B + 105) 38 1) (by omega) (by omega) (by omega) mI_s (hAs.setI (Or.inr ⟨rfl, Or.inl rfl⟩))
          exact ⟨M', e, hA, by rw [h9]; rfl, fun v h => by cases h⟩
    rw [if_neg c28] at hr
    rw [if_pos (show 28 ≤ mo k by omega)]
    unfold F_Mo_reckonAll_b352 F_Mo_reckonAll_b366
    rcases s with _ | ⟨b, s1⟩
    · split at hr <;> cases hr
    obtain ⟨hb1, hb2, hs1⟩ := hs
    have hl1 : (((b :: s1).length : Nat) : Int) = (s1.length : Int) + 1 := by simp
    have hsl1 : s1.length + 1 ≤ 400 := by simpa using hsl
    by_cases d28 : mo k = 28
    · rw [if_pos d28] at hr
      rw [if_pos d28]
      simp only at hr
      by_cases hb01 : b = 0 ∨ b = 1
      · rw [if_pos hb01] at hr
        rw [hl1, hS.g105_37, Option.bind_some]
        simp (disch := omega) only [iL1, iI_sub, hS.r125, hS.w125, Option.bind_some]
        rw [show ((s1.length : Int) + 1 - 1).toNat = s1.length by omega, hb1, jL1, jJ_sub, show iI (k : Int) + iI 1 = iI ((k + 1 : Nat) : Int) from hk1, show ((s1.length : Int) + 1) = (((1 - b) :: s1 : List Int).length : Int) by simp]
        exact hgo (k + 1) ((1 - b) :: s1) _ (by omega) (by omega) (by simp; omega) (zAg.rfl'.setJ (Or.inl rfl)) (hs1.push (zR_of (by omega) (by omega))) (by rw [mI_setJ]; exact h38) hr
      · rw [if_neg hb01] at hr
        cases hr
    rw [if_neg d28] at hr
    rw [if_neg d28]
    simp only at hr
    rw [hl1, hS.g105_37, Option.bind_some]
    simp (disch := omega) only [iL1, iI_sub, hS.r125, Option.bind_some]
    have hb2' := hb2.1
    have hb2'' := hb2.2
    rw [show ((s1.length : Int) + 1 - 1).toNat = s1.length by omega, hb1, show iI (k : Int) + iI 1 = iI ((k + 1 : Nat) : Int) from hk1]
    have hpop : rM ord mo ma w last f (k + 1) s1 = some r → ∃ M', rec (B + 105, iI (last : Int), iI ((s1.length : Int) + 1) + -1, iI ((k + 1 : Nat) : Int), M) = some M' ∧ zAg (rkX B) M M' ∧ mI M' (B + 105) 38 = (if r = none then 1 else 0) ∧ ∀ v, r = some v → mJ M' (B + 105) 39 = jJ v := by
      intro hr
      rw [show iI ((s1.length : Int) + 1) + -1 = iI (s1.length : Int) by rw [iLm1, iI_add]; congr 1; omega]
      exact hgo (k + 1) s1 M (by omega) (by omega) (by omega) zAg.rfl' hs1 h38 hr
    have hleap : (if (k : Int) < ma k ∧ ma k ≤ 400 then rM ord mo ma w last f (ma k).toNat (b :: s1) else none) = some r → ∃ M', rec (B + 105, iI (last : Int), iI ((s1.length : Int) + 1), iI (ma k), M) = some M' ∧ zAg (rkX B) M M' ∧ mI M' (B + 105) 38 = (if r = none then 1 else 0) ∧ ∀ v, r = some v → mJ M' (B + 105) 39 = jJ v := by
      intro hr
      by_cases hg : (k : Int) < ma k ∧ ma k ≤ 400
      · rw [if_pos hg] at hr
        rw [← hl1, show ma k = ((ma k).toNat : Int) by omega]
        exact hgo (ma k).toNat (b :: s1) M (by omega) (by omega) (by simpa using hsl) zAg.rfl' ⟨hb1, hb2, hs1⟩ h38 hr
      · rw [if_neg hg] at hr; cases hr
    by_cases d29 : mo k = 29
    · rw [if_pos d29]
      rw [if_pos d29] at hr
      simp only [jL0, yeq (x := b) (y := 0) (by omega) (by omega) (by omega) (by omega)]
      by_cases z : b = 0
      · rw [if_pos z] at hr ⊢; exact hleap hr
      · rw [if_neg z] at hr ⊢; exact hpop hr
    · rw [if_neg d29]
      rw [if_neg d29] at hr
      simp only [jL1, yeq (x := b) (y := 1) (by omega) (by omega) (by omega) (by omega)]
      by_cases z : b = 1
      · rw [if_pos z] at hr ⊢; exact hleap hr
      · rw [if_neg z] at hr ⊢; exact hpop hr
end
