/-! WHAT THE MODEL'S NIGHT RUNS -/
section
variable {n : Nat} {E : zE} {S : zS} {M : zH} {B : Nat} {N : Nt} {Ls : Nat → Lw}
theorem cvM_zB {mo ma hd : Nat → Int} {sg : Nat → Nat → Nat} {c : Nat} {w : Nat → Int} {v : Int} (hw : ∀ i, i < 19 → zB (w i)) (h : cvM mo ma hd sg c w = some (some v)) : zB v := by
  unfold cvM at h
  split at h
  · cases h
  · cases h
  · split at h
    · cases h
    · by_cases h3 : hd c = 3
      · rw [if_pos h3] at h
        cases h
        constructor <;> decide
      · rw [if_neg h3] at h
        exact rM_zB hw 500 _ [] (by simp) v h
theorem tlN_zB (hC : MN M B N Ls) {kind : Int} {w : Nat → Int} (hw : ∀ i, i < 19 → zB (w i)) {v : Int} (h : tlN N Ls kind w = some v) : zB v := by
  obtain ⟨h20, hR, hN, hL⟩ := hC
  have hfo := hN.fo
  have hnl := hN.nl
  unfold tlN at h
  split at h
  · cases h
  obtain ⟨nc, ncd, hd, sg, mo, ma, g1, g2, g3, g4, g5, g6, g7, g8⟩ := hL (N 14 0).toNat (by omega) (by omega)
  unfold lwT at h
  rw [g6] at h
  generalize Ls (N 14 0).toNat = L at *
  have key : ∀ c, c ≤ nc → ltell L.2.1 L.2.2 kind w c = some v → zB v := by
    intro c
    induction c with
    | zero => intro _ h; cases h
    | succ c ih =>
      intro hc h
      unfold ltell at h
      have g := g8 c (by omega) w (fun i hi => hw i (by omega))
      split at h
      · split at h
        · rename_i u hu
          cases h
          rw [hu] at g
          exact cvM_zB hw g
        · exact ih (by omega) h
      · exact ih (by omega) h
  exact key nc (Nat.le_refl _) h
theorem lor_tv {o : Option Int} {plain most : Int} (h0 : 0 ≤ plain) (h1 : plain ≤ most) : max 0 (min (lor o plain) most) = tvC plain most o := by
  unfold lor tvC clp
  cases o with
  | none => simp only; omega
  | some v => rfl
theorem lor_b (hC : MN M B N Ls) {kind plain : Int} {w : Nat → Int} (hw : ∀ i, i < 19 → zB (w i)) (hp : zB plain) : zB (lor (tlN N Ls kind w) plain) := by
  cases h : tlN N Ls kind w with
  | none => exact hp
  | some v => exact tlN_zB hC hw h
theorem s_mruns (hS : ShOK S B) (hC : MN M B N Ls) (hn : 600 ≤ n) {r h f : Int} (hr0 : 0 ≤ r) (hr : r < 4) (hh0 : 0 ≤ h) (hh : h < 8) (hf0 : 0 ≤ f) (hf : f < 8) :
    ∃ M', F_Mo_runsOf n E S (B + 105) (iI r) (iI h) (iI f) M = some (iI (runsF N Ls r h f), M') ∧ zAg (mScr B) M M' := by
  obtain ⟨h20, hR, hN, hL⟩ := id hC
  have hb := hN.bore (k := (r * 8 + h).toNat) (by omega)
  have hwe := hN.wet
  have hho := hN.hour
  have hmo := hN.mood
  have h1 : 0 ≤ N 0 (r * 8 + h).toNat * N 9 1 := Int.mul_nonneg hb.1 hwe.1
  have h2 : N 0 (r * 8 + h).toNat * N 9 1 ≤ 9 * 9 := Int.mul_le_mul hb.2 hwe.2 hwe.1 (by decide)
  have A0 : zAg (mScr B) M M := zAg.rfl'
  have A1 := A0.setJ (a := B + 123) (i := 1) (v := jJ r) (Or.inl rfl)
  have A2 := A1.setJ (a := B + 123) (i := 2) (v := jJ h) (Or.inl rfl)
  have A3 := A2.setJ (a := B + 123) (i := 3) (v := jJ (N 0 (r * 8 + h).toNat)) (Or.inl rfl)
  have A4 := A3.setJ (a := B + 123) (i := 5) (v := jJ (-1)) (Or.inl rfl)
  have A5 := A4.setJ (a := B + 123) (i := 6) (v := jJ (-1)) (Or.inl rfl)
  have hw : ∀ i, i < 19 → zB (wRn N r h f i) := by
    intro i _
    unfold wRn
    split <;> (constructor <;> omega)
  have hC5 := hC.ag A5 (fun j q => by unfold mScr at q; omega) (fun q => by unfold mScr at q; omega)
  obtain ⟨M', e, hA⟩ := s_tells (n := n) (E := E) (kind := 0) (plain := N 0 (r * 8 + h).toNat * N 9 1) (f := f) (w := wRn N r h f) hS hC5 (by decide) (by decide) hn hw (fun i hi h3 h6 => by
    rcases (show i = 0 ∨ i = 1 ∨ i = 2 ∨ i = 4 ∨ i = 5 by omega) with rfl | rfl | rfl | rfl | rfl <;> simp [mJ_ite, wRn]) rfl rfl rfl rfl
  have hlb := lor_b hC (kind := 0) (plain := N 0 (r * 8 + h).toNat * N 9 1) hw ⟨by omega, by omega⟩
  have hlb1 := hlb.1
  have hlb2 := hlb.2
  refine ⟨M', ?_, A5.trans hA⟩
  unfold F_Mo_runsOf
  simp (disch := omega) only [hS.g105_3, Option.bind_some, show (12 : Int32) = iI 12 by decide, iL8, iI_mul, iI_add, hS.r107, hR.bore, hS.g105_35, xJ, iL1, iL2, iL3, iL5, iL6, hS.w123, tn1, tn2, tn3, tn5, tn6, jL1, jJ_neg, mI_setJ, hR.wet, iL0, e, s_mwithin, iL99]
  rw [lor_tv h1 (by omega)]
  rfl
theorem wBkt_b (hN : NdOK N) {b f : Int} (hb0 : 0 ≤ b) (hb : b < 3) (hf0 : 0 ≤ f) (hf : f < 8) : ∀ i, i < 19 → zB (wBkt N b f i) := by
  intro i _
  have h1 := hN.lev (k := b.toNat) (by omega)
  have h2 := hN.size (k := b.toNat) (by omega)
  have hwe := hN.wet
  have hho := hN.hour
  have hmo := hN.mood
  unfold wBkt
  split <;> (constructor <;> omega)
/-- the words of a bucket are laid -/
theorem s_setBucket (hS : ShOK S B) (hC : MN M B N Ls) (hn : 600 ≤ n) {b : Int} (hb0 : 0 ≤ b) (hb : b < 3) :
    ∃ M', F_Mo_setBucket n E S (B + 105) (iI b) M = some M' ∧ zAg (mScr B) M M' ∧ ∀ f i, i < 9 → i ≠ 3 → i < 6 → mJ M' (B + 123) (i + 1) = jJ (wBkt N b f i) := by
  obtain ⟨h20, hR, hN, hL⟩ := id hC
  have h1 := hN.lev (k := b.toNat) (by omega)
  have h2 := hN.size (k := b.toNat) (by omega)
  have A0 : zAg (mScr B) M M := zAg.rfl'
  have A1 := A0.setJ (a := B + 123) (i := 1) (v := jJ (-1)) (Or.inl rfl)
  have A2 := A1.setJ (a := B + 123) (i := 2) (v := jJ (-1)) (Or.inl rfl)
  have A3 := A2.setJ (a := B + 123) (i := 3) (v := jJ (-1)) (Or.inl rfl)
  have A4 := A3.setJ (a := B + 123) (i := 5) (v := jJ b) (Or.inl rfl)
  have A5 := A4.setJ (a := B + 123) (i := 6) (v := jJ (N 4 b.toNat)) (Or.inl rfl)
  refine ⟨_, ?_, A5, fun f i hi h3 h6 => ?_⟩
  · unfold F_Mo_setBucket F_Mo_setBucket_b2
    obtain ⟨m, rfl⟩ : ∃ m, n = m + 4 := ⟨n - 4, by omega⟩
    simp (disch := omega) only [zfix_s, F_Mo_setBucket_L2, iL4, iL1, xle, if_neg, if_pos, hS.g105_35, Option.bind_some, hS.w123, jL1, jJ_neg, iI_add, xJ, iL5, iL6, tn1, tn5, tn6, hS.g105_3, show (48 : Int32) = iI 48 by decide, hS.r107, mI_setJ, hR.lev]
    rfl
  · rcases (show i = 0 ∨ i = 1 ∨ i = 2 ∨ i = 4 ∨ i = 5 by omega) with rfl | rfl | rfl | rfl | rfl <;> simp [mJ_ite, wBkt]
theorem s_mask (hS : ShOK S B) (hC : MN M B N Ls) (hn : 600 ≤ n) {b f kind plain : Int} (hb0 : 0 ≤ b) (hb : b < 3) (hf0 : 0 ≤ f) (hf : f < 8) (hk0 : 0 ≤ kind) (hk3 : kind ≤ 3) :
    ∃ M1 M', F_Mo_setBucket n E S (B + 105) (iI b) M = some M1 ∧ zAg (mScr B) M M1 ∧ F_Mo_tells n E S (B + 105) (iI kind) (iI f) (jJ plain) M1 = some (jJ (lor (tlN N Ls kind (wBkt N b f)) plain), M') ∧ zAg (mScr B) M M' := by
  obtain ⟨M1, e1, hA1, h1⟩ := s_setBucket (n := n) (E := E) hS hC hn hb0 hb
  have hC1 := hC.ag hA1 (fun j q => by unfold mScr at q; omega) (fun q => by unfold mScr at q; omega)
  obtain ⟨M', e, hA⟩ := s_tells (n := n) (E := E) (kind := kind) (plain := plain) (f := f) (w := wBkt N b f) hS hC1 hk0 hk3 hn (wBkt_b hC.2.2.1 hb0 hb hf0 hf) (h1 f) rfl rfl rfl rfl
  exact ⟨M1, M', e1, hA1, e, hA1.trans hA⟩
theorem s_mleaks (hS : ShOK S B) (hC : MN M B N Ls) (hn : 600 ≤ n) {b : Int} (hb0 : 0 ≤ b) (hb : b < 3) :
    ∃ M', F_Mo_leaksOf n E S (B + 105) (iI b) M = some (iI (leakV N Ls b), M') ∧ zAg (mScr B) M M' := by
  have hf := hC.2.2.1.fie (k := b.toNat) (by omega)
  obtain ⟨M1, M', e1, hA1, e2, hA2⟩ := s_mask (n := n) (E := E) (kind := 1) (plain := 0) hS hC hn hb0 hb hf.1 hf.2 (by decide) (by decide)
  have hlb := lor_b hC (kind := 1) (plain := 0) (wBkt_b hC.2.2.1 hb0 hb hf.1 hf.2) ⟨by decide, by decide⟩
  have hlb1 := hlb.1
  have hlb2 := hlb.2
  have q : mI M1 (B + 107) = mI M (B + 107) := by funext i; exact (hA1 _ _ (fun z => by unfold mScr at z; omega)).1
  refine ⟨M', ?_, hA2⟩
  unfold F_Mo_leaksOf
  simp (disch := omega) only [hS.ck105, Option.bind_some, e1, hS.g105_3, show (51 : Int32) = iI 51 by decide, iI_add, hS.r107, q, hC.2.1.fie, iL1, jL0, e2, iL0, iL9, s_mwithin]
  rw [lor_tv (by decide) (by decide)]
  rfl
theorem s_mpays (hS : ShOK S B) (hC : MN M B N Ls) (hn : 600 ≤ n) {b f : Int} (hb0 : 0 ≤ b) (hb : b < 3) (hf0 : 0 ≤ f) (hf : f < 8) :
    ∃ M', F_Mo_paysOf n E S (B + 105) (iI b) (iI f) M = some (iI (payV N Ls b f), M') ∧ zAg (mScr B) M M' := by
  obtain ⟨M1, M', e1, hA1, e2, hA2⟩ := s_mask (n := n) (E := E) (kind := 2) (plain := 1) hS hC hn hb0 hb hf0 hf (by decide) (by decide)
  have hlb := lor_b hC (kind := 2) (plain := 1) (wBkt_b hC.2.2.1 hb0 hb hf0 hf) ⟨by decide, by decide⟩
  have hlb1 := hlb.1
  have hlb2 := hlb.2
  refine ⟨M', ?_, hA2⟩
  unfold F_Mo_paysOf
  simp (disch := omega) only [hS.ck105, Option.bind_some, e1, iL2, jL1, e2, iL0, iL99, s_mwithin]
  rw [lor_tv (by decide) (by decide)]
  rfl
theorem s_mbar (hS : ShOK S B) (hC : MN M B N Ls) (hn : 600 ≤ n) {b f : Int} (hb0 : 0 ≤ b) (hb : b < 3) (hf0 : 0 ≤ f) (hf : f < 8) (h3 : ∀ v, tlN N Ls 3 (wBkt N b f) = some v → v = 1) :
    ∃ M', F_Mo_isBarred n E S (B + 105) (iI b) (iI f) M = some (decide (barV N Ls b f = 1), M') ∧ zAg (mScr B) M M' := by
  obtain ⟨M1, M', e1, hA1, e2, hA2⟩ := s_mask (n := n) (E := E) (kind := 3) (plain := 0) hS hC hn hb0 hb hf0 hf (by decide) (by decide)
  refine ⟨M', ?_, hA2⟩
  unfold F_Mo_isBarred barV
  cases ht : tlN N Ls 3 (wBkt N b f) with
  | none =>
    rw [ht] at e2
    simp (disch := omega) only [hS.ck105, Option.bind_some, e1, iL3, jL0, e2]
    rfl
  | some v =>
    have := h3 v ht
    subst this
    rw [ht] at e2
    simp (disch := omega) only [hS.ck105, Option.bind_some, e1, iL3, jL0, e2]
    rfl
end
