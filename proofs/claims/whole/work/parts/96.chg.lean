/-! CHANGES: what calls that change the night do -/
theorem be_ {α β : Type} {x : Option (α × β)} : (x.bind fun q => some (q.1, q.2)) = x := by
  cases x with
  | none => rfl
  | some v => rfl
/-- what the class's part and the model's part of a change touch -/
def cXw (B : Nat) : Nat → Nat → Prop := fun b j => (b = B + 0 ∧ j = 15) ∨ (B + 1 ≤ b ∧ b ≤ B + 12) ∨ (b = B + 63 ∧ j = 1)
def mXw (B : Nat) : Nat → Nat → Prop := fun b j => (b = B + 105 ∧ (j = 0 ∨ j = 1 ∨ j = 8)) ∨ b = B + 107
def rfX (B : Nat) : Nat → Nat → Prop := fun b j => (b = B + 0 ∧ j = 15) ∨ b = B + 104
section
variable {n : Nat} {E : zE} {S : zS} {M M' : zH} {B : Nat} {N N' : Nt} {Ls : Nat → Lw}
theorem Ag1.ch {f g : zH → Option (Int32 × zH)} (h : Inv S M B) (hC : CN S M B (B + 1) N Ls) (hM : MN M B N Ls) (hP : PastR M B N) {r : Int32} {M1 M2 : zH} (e1 : f M = some (r, M1)) (hA1 : zAg (cXw B) M M1) (hR1 : NiR M1 (B + 1) N') (hr : ∀ j, mR M1 (B + 12) j = mR M (B + 12) j)
    (e2 : g M1 = some (r, M2)) (hA2 : zAg (mXw B) M1 M2) (hR2 : RwN (mI M2 (B + 107)) N') (he : ∀ i, 80 ≤ i → mI M2 (B + 107) i = mI M1 (B + 107) i) (hs : mI M1 (B + 0) 15 = mI M2 (B + 105) 1) (hN : NdOK N') (hh : N' 9 0 ≤ 999) (e13 : N' 13 0 = N 13 0)
    (hp : (mI M1 (B + 63) 1 = iI 0 ∧ mI M2 (B + 105) 8 = iI 0) ∨ (mI M1 (B + 63) 1 = mI M (B + 63) 1 ∧ mI M2 (B + 105) 8 = mI M1 (B + 105) 8 ∧ snEq N N')) : Ag1 S B M f g := by
  have hA : zAg (fun b j => cXw B b j ∨ mXw B b j) M M2 := (hA1.mono (fun _ _ q => Or.inl q)).trans (hA2.mono (fun _ _ q => Or.inr q))
  have hAn : zAg (nX B) M M2 := hA.mono (fun b j q => by unfold cXw mXw at q; unfold nX; omega)
  obtain ⟨⟨a1, a2, a3, a4⟩, b1, b2, b3, b4, b5⟩ := h.2.2.2.2.2.2.1
  have k1 : ∀ b j, ¬ mXw B b j → mI M2 b j = mI M1 b j := fun b j q => (hA2 b j q).1
  have k0 : ∀ b j, ¬ cXw B b j → mI M1 b j = mI M b j := fun b j q => (hA1 b j q).1
  have k2 : ∀ b j, ¬ (cXw B b j ∨ mXw B b j) → mI M2 b j = mI M b j := fun b j q => (hA b j q).1
  have m63 : mI M2 (B + 63) 1 = mI M1 (B + 63) 1 := k1 _ _ (fun q => by unfold mXw at q; omega)
  refine ⟨r, M1, M2, e1, e2, h.upd hAn ⟨N', Ls, ?_, ?_, hh, ?_⟩ ?_⟩
  · refine hC.upd hA (fun b j q => by unfold cXw mXw at q; omega) (fun j => ?_) (hR1.ag hA2 (fun b j q1 q2 q => by unfold mXw at q; omega)) hN e13
    rw [show B + 1 + 11 = B + 12 by omega, (hA2 (B + 12) j (fun q => by unfold mXw at q; omega)).2.2]
    exact hr j
  · refine hM.upd ?_ hR2 hN e13 (fun i hi => ?_)
    · rw [k2 _ _ (fun q => by unfold cXw mXw at q; omega)]; exact hM.1
    · rw [he i hi]; exact k0 _ _ (fun q => by unfold cXw at q; omega)
  · rcases hp with ⟨p1, p2⟩ | ⟨p1, p2, p3⟩
    · exact PastR.nil (by rw [m63]; exact p1) p2
    · refine PastR.cg ?_ p3
      obtain ⟨u, d, a, b, g, P, h1, h2, h3, h4⟩ := hP
      refine ⟨u, d, a, b, g, P, h1, by rw [m63, p1]; exact h2, by rw [p2, k0 _ _ (fun q => by unfold cXw at q; omega)]; exact h3, fun i hi => ?_⟩
      obtain ⟨g1, ⟨g2, g3, g4, g5⟩, ⟨g6, g7⟩, g8⟩ := h4 i hi
      have q64 : ∀ j, mI M2 (B + 64) j = mI M (B + 64) j := fun j => k2 _ _ (fun q => by unfold cXw mXw at q; omega)
      have q110 : ∀ j, mI M2 (B + 110) j = mI M (B + 110) j := fun j => k2 _ _ (fun q => by unfold cXw mXw at q; omega)
      have q111 : ∀ j, mI M2 (B + 111) j = mI M (B + 111) j := fun j => k2 _ _ (fun q => by unfold cXw mXw at q; omega)
      exact ⟨g1, ⟨by rw [q64]; exact g2, by rw [q64]; exact g3, by rw [q64]; exact g4, fun k hk => by rw [q64]; exact g5 k hk⟩, ⟨by rw [q111]; exact g6, fun k hk => by rw [q110]; exact g7 k hk⟩, g8⟩
  · have q0 : ∀ j, j ≠ 15 → mI M2 (B + 0) j = mI M (B + 0) j := fun j hj => k2 _ _ (fun q => by unfold cXw mXw at q; omega)
    have q105 : ∀ j, j ≠ 0 → j ≠ 1 → j ≠ 8 → mI M2 (B + 105) j = mI M (B + 105) j := fun j h0 h1 h8 => k2 _ _ (fun q => by unfold cXw mXw at q; omega)
    have q104 : ∀ j, mI M2 (B + 104) j = mI M (B + 104) j := fun j => k2 _ _ (fun q => by unfold cXw mXw at q; omega)
    have q106 : ∀ j, mI M2 (B + 106) j = mI M (B + 106) j := fun j => k2 _ _ (fun q => by unfold cXw mXw at q; omega)
    refine ⟨⟨?_, ?_, ?_, ?_⟩, ?_, ?_, ?_, ?_, ?_⟩
    · rw [k1 (B + 0) 15 (fun q => by unfold mXw at q; omega)]; exact hs
    · rw [q0 _ (by decide), q105 _ (by decide) (by decide) (by decide)]; exact a2
    · rw [q0 _ (by decide), q105 _ (by decide) (by decide) (by decide)]; exact a3
    · rw [q0 _ (by decide), q105 _ (by decide) (by decide) (by decide)]; exact a4
    · rw [q104, q106]; exact b1
    · rw [q104, q106]; exact b2
    · rw [q104, q106]; exact b3
    · rw [q104, q106]; exact b4
    · rw [q104, q106]; exact b5
/-- both refuse -/
theorem Ag1.rf {f g : zH → Option (Int32 × zH)} (h : Inv S M B) {code : Int} (hc : isRf code) (e1 : f M = F_NC_refuse n E S (B + 0) (iI code) M) (e2 : ∀ M1, zAg (rfX B) M M1 → g M1 = F_Mo_tell n E S (B + 105) (iI code) (setI M1 (B + 105) 0 (iI 0))) : Ag1 S B M f g := by
  have hS := h.1
  refine ⟨iI code, _, _, e1.trans (s_refuse hS hc), ?_, h.refuse hc⟩
  rw [e2 _ ((zAg.rfl'.setI (Or.inl ⟨rfl, rfl⟩)).setI (Or.inr rfl)), s_tellN hS hc]
theorem MN.rf (hM : MN M B N Ls) (hA : zAg (rfX B) M M') : MN (setI M' (B + 105) 0 (iI 0)) B N Ls := by
  have h1 : MN M' B N Ls := hM.ag hA (fun j q => by unfold rfX at q; omega) (fun q => by unfold rfX at q; omega)
  exact h1.mq mQ_0
theorem s_clear (hS : ShOK S B) : F_Pt_clear n E S (B + 63) M = some (setI M (B + 63) 1 (iI 0)) := by
  unfold F_Pt_clear
  rw [hS.p63, obs]
  rfl
theorem s_change (hS : ShOK S B) {x : Int} {v : Int32} (h0 : 0 ≤ x) (h1 : x < 5480) : F_Mo_change n E S (B + 105) (iI x) v M = some (mI M (B + 107) x.toNat, setI (setI M (B + 107) x.toNat v) (B + 105) 1 (iI 0)) := by
  unfold F_Mo_change
  rw [hS.g105_3, obs, hS.r107 h0 h1, obs, hS.w107 h0 h1, obs, hS.p105, obs]
  rfl
/-! the night's numbers stay right -/
theorem NdOK.s0 (hN : NdOK N) {k : Nat} {v : Int} (h1 : 0 ≤ v) (h2 : v ≤ 9) : NdOK (nset N 0 k v) := by
  obtain ⟨a0, a1, a2, a3, a4, a5, a6, a7, a8, a9, a10, a11, a12, a13⟩ := hN
  refine ⟨fun j hj => ?_, a1, a2, a3, a4, a5, a6, a7, a8, a9, a10, a11, a12, a13⟩
  unfold nset; split
  · exact ⟨h1, h2⟩
  · exact a0 j hj
theorem NdOK.s1 (hN : NdOK N) {k : Nat} {v : Int} (h1 : v = 0 ∨ v = 1) : NdOK (nset N 1 k v) := by
  obtain ⟨a0, a1, a2, a3, a4, a5, a6, a7, a8, a9, a10, a11, a12, a13⟩ := hN
  refine ⟨a0, fun j hj => ?_, a2, a3, a4, a5, a6, a7, a8, a9, a10, a11, a12, a13⟩
  unfold nset; split
  · exact h1
  · exact a1 j hj
theorem NdOK.s2 (hN : NdOK N) {k : Nat} {v : Int} (h1 : 0 ≤ v) (h2 : v < 8) : NdOK (nset N 2 k v) := by
  obtain ⟨a0, a1, a2, a3, a4, a5, a6, a7, a8, a9, a10, a11, a12, a13⟩ := hN
  refine ⟨a0, a1, fun j hj => ?_, a3, a4, a5, a6, a7, a8, a9, a10, a11, a12, a13⟩
  unfold nset; split
  · exact ⟨h1, h2⟩
  · exact a2 j hj
theorem NdOK.s4 (hN : NdOK N) {k : Nat} {v : Int} (h1 : 0 ≤ v) (h2 : v ≤ N 3 k) : NdOK (nset N 4 k v) := by
  obtain ⟨a0, a1, a2, a3, a4, a5, a6, a7, a8, a9, a10, a11, a12, a13⟩ := hN
  refine ⟨a0, a1, a2, a3, fun j hj => ?_, a5, a6, a7, a8, a9, a10, a11, a12, a13⟩
  show 0 ≤ nset N 4 k v 4 j ∧ nset N 4 k v 4 j ≤ N 3 j
  unfold nset; split
  · rename_i q; rw [q.2]; exact ⟨h1, h2⟩
  · exact a4 j hj
theorem NdOK.s5 (hN : NdOK N) {k : Nat} {v : Int} (h1 : 0 ≤ v) (h2 : v < 8) : NdOK (nset N 5 k v) := by
  obtain ⟨a0, a1, a2, a3, a4, a5, a6, a7, a8, a9, a10, a11, a12, a13⟩ := hN
  refine ⟨a0, a1, a2, a3, a4, fun j hj => ?_, a6, a7, a8, a9, a10, a11, a12, a13⟩
  unfold nset; split
  · exact ⟨h1, h2⟩
  · exact a5 j hj
theorem NdOK.s6 (hN : NdOK N) {k : Nat} {v : Int} (h1 : -1 ≤ v) (h2 : v ≤ 400) : NdOK (nset N 6 k v) := by
  obtain ⟨a0, a1, a2, a3, a4, a5, a6, a7, a8, a9, a10, a11, a12, a13⟩ := hN
  refine ⟨a0, a1, a2, a3, a4, a5, fun j hj => ?_, a7, a8, a9, a10, a11, a12, a13⟩
  unfold nset; split
  · exact ⟨h1, h2⟩
  · exact a6 j hj
theorem NdOK.s7 (hN : NdOK N) {k : Nat} {v : Int} (h1 : 0 ≤ v) (h2 : v < 8) : NdOK (nset N 7 k v) := by
  obtain ⟨a0, a1, a2, a3, a4, a5, a6, a7, a8, a9, a10, a11, a12, a13⟩ := hN
  refine ⟨a0, a1, a2, a3, a4, a5, a6, fun j hj => ?_, a8, a9, a10, a11, a12, a13⟩
  unfold nset; split
  · exact ⟨h1, h2⟩
  · exact a7 j hj
theorem NdOK.s8 (hN : NdOK N) {k : Nat} {v : Int} (h1 : 0 ≤ v) (h2 : v ≤ 400) : NdOK (nset N 8 k v) := by
  obtain ⟨a0, a1, a2, a3, a4, a5, a6, a7, a8, a9, a10, a11, a12, a13⟩ := hN
  refine ⟨a0, a1, a2, a3, a4, a5, a6, a7, fun j hj => ?_, a9, a10, a11, a12, a13⟩
  unfold nset; split
  · exact ⟨h1, h2⟩
  · exact a8 j hj
theorem NdOK.s9 (hN : NdOK N) {k : Nat} {v : Int} (h1 : 0 ≤ v) (h2 : v ≤ (if k = 0 then 2000 else if k = 3 then 10 else 9)) : NdOK (nset N 9 k v) := by
  obtain ⟨a0, a1, a2, a3, a4, a5, a6, a7, a8, a9, a10, a11, a12, a13⟩ := hN
  refine ⟨a0, a1, a2, a3, a4, a5, a6, a7, a8, ?_, ?_, ?_, ?_, a13⟩
  · unfold nset; split
    · rename_i q; rw [← q.2] at h2; exact ⟨h1, h2⟩
    · exact a9
  · unfold nset; split
    · rename_i q; rw [← q.2] at h2; exact ⟨h1, h2⟩
    · exact a10
  · unfold nset; split
    · rename_i q; rw [← q.2] at h2; exact ⟨h1, h2⟩
    · exact a11
  · unfold nset; split
    · rename_i q; rw [← q.2] at h2; exact ⟨h1, h2⟩
    · exact a12
theorem NdOK.s12 (hN : NdOK N) {v : Int} (h1 : 0 ≤ v) (h2 : v ≤ 6) : NdOK (nset N 12 0 v) := by
  obtain ⟨a0, a1, a2, a3, a4, a5, a6, a7, a8, a9, a10, a11, a12, a13, a14, a15⟩ := hN
  exact ⟨a0, a1, a2, a3, a4, a5, a6, a7, a8, a9, a10, a11, a12, a13, ⟨h1, h2⟩, a15⟩
theorem NdOK.s14 (hN : NdOK N) {v : Int} (h1 : -1 ≤ v) (h2 : v < N 13 0) : NdOK (nset N 14 0 v) := by
  obtain ⟨a0, a1, a2, a3, a4, a5, a6, a7, a8, a9, a10, a11, a12, a13, a14, a15, a16⟩ := hN
  exact ⟨a0, a1, a2, a3, a4, a5, a6, a7, a8, a9, a10, a11, a12, a13, a14, a15, ⟨h1, h2⟩⟩
theorem NdOK.sB (hN : NdOK N) {k : Nat} {s f : Int} (hk : (k : Int) < 3) (h1 : 1 ≤ s) (h2 : s ≤ 99) (h3 : 0 ≤ f) (h4 : f < 8) : NdOK (nset (nset (nset (nset N 3 k s) 4 k 0) 5 k f) 11 0 ((k : Int) + 1)) := by
  obtain ⟨a0, a1, a2, a3, a4, a5, a6, a7, a8, a9, a10, a11, a12, a13, a14⟩ := hN
  refine ⟨a0, a1, a2, fun j hj => ?_, fun j hj => ?_, fun j hj => ?_, a6, a7, a8, a9, a10, a11, a12, ?_, a14⟩
  · show 0 ≤ nset N 3 k s 3 j ∧ nset N 3 k s 3 j ≤ 99
    unfold nset; split
    · omega
    · exact a3 j hj
  · show 0 ≤ nset (nset N 3 k s) 4 k 0 4 j ∧ nset (nset N 3 k s) 4 k 0 4 j ≤ nset N 3 k s 3 j
    unfold nset
    by_cases q : j = k
    · subst q; simp; omega
    · simp [q]; exact a4 j hj
  · show 0 ≤ nset (nset (nset N 3 k s) 4 k 0) 5 k f 5 j ∧ nset (nset (nset N 3 k s) 4 k 0) 5 k f 5 j < 8
    unfold nset
    by_cases q : j = k
    · subst q; simp; omega
    · simp [q]; exact a5 j hj
  · show 0 ≤ (k : Int) + 1 ∧ (k : Int) + 1 ≤ 3
    omega
theorem s_mbAt (hS : ShOK S B) (hR : RwN (mI M (B + 107)) N) (hN : NdOK N) (hn : 100 ≤ n) {f : Int} (hf : zR f) : ∃ v : Int, F_Mo_bucketAt n E S (B + 105) (iI f) M = some (iI v, M) ∧ -1 ≤ v ∧ v ≤ 2 ∧ (v = -1 ↔ bAt N f = -1) := by
  have hb := hN.nb
  unfold F_Mo_bucketAt F_Mo_bucketAt_b4
  obtain ⟨s', m, ⟨v, hs', h1, h2, h3⟩, e⟩ := zfix_inv (F := fun r4 s => F_Mo_bucketAt_L4 n E S r4 s.1 s.2.1 s.2.2.1 s.2.2.2.1 s.2.2.2.2) (fun i s => ∃ v : Int, s = (B + 105, iI f, iI v, iI (i : Int), M) ∧ -1 ≤ v ∧ v ≤ 2 ∧ (v = -1 ↔ ∀ b, b < i → N 5 b ≠ f)) (N 11 0).toNat (fun i hi s hI => by
    obtain ⟨v, rfl, h1, h2, h3⟩ := hI
    have hfi := hN.fie (k := i) (by omega)
    by_cases c : N 5 i = f
    · refine ⟨(B + 105, iI f, iI (i : Int), iI ((i + 1 : Nat) : Int), M), ⟨(i : Int), rfl, by omega, by omega, ⟨fun q => by omega, fun q => absurd c (q i (by omega))⟩⟩, fun rec => ?_⟩
      show F_Mo_bucketAt_L4 n E S rec (B + 105) (iI f) (iI v) (iI i) M = _
      unfold F_Mo_bucketAt_L4 F_Mo_bucketAt_b32
      rw [hS.g105_3, obs, iL0, hS.r107 (by omega) (by omega), obs, tn0, hR.nb, if_neg (by rw [xle (by omega) (by omega) (by omega) (by omega)]; omega), show (51 : Int32) = iI 51 by decide, iI_add, hS.r107 (by omega) (by omega), obs, hR.fie (by omega) (by omega), Int.toNat_natCast, if_pos (by rw [c]), iL1, iI_add]
      rfl
    · refine ⟨(B + 105, iI f, iI v, iI ((i + 1 : Nat) : Int), M), ⟨v, rfl, h1, h2, ⟨fun q b hb => ?_, fun q => h3.mpr (fun b hb => q b (by omega))⟩⟩, fun rec => ?_⟩
      · by_cases d : b = i
        · rw [d]; exact c
        · exact h3.mp q b (by omega)
      show F_Mo_bucketAt_L4 n E S rec (B + 105) (iI f) (iI v) (iI i) M = _
      unfold F_Mo_bucketAt_L4 F_Mo_bucketAt_b32
      rw [hS.g105_3, obs, iL0, hS.r107 (by omega) (by omega), obs, tn0, hR.nb, if_neg (by rw [xle (by omega) (by omega) (by omega) (by omega)]; omega), show (51 : Int32) = iI 51 by decide, iI_add, hS.r107 (by omega) (by omega), obs, hR.fie (by omega) (by omega), Int.toNat_natCast, if_neg (fun q => c ((iI_eq (zR_of (by omega) (by omega)) hf).mp q)), iL1, iI_add]
      rfl) n 0 (B + 105, iI f, -1, 0, M) (by omega) (by omega) ⟨-1, rfl, by decide, by decide, ⟨fun _ b hb => by omega, fun _ => rfl⟩⟩
  rw [e, hs']
  refine ⟨v, ?_, h1, h2, h3.trans ?_⟩
  · show F_Mo_bucketAt_L4 n E S _ (B + 105) (iI f) (iI v) (iI ((N 11 0).toNat : Int)) M = _
    unfold F_Mo_bucketAt_L4
    rw [hS.g105_3, obs, iL0, hS.r107 (by omega) (by omega), obs, tn0, hR.nb, if_pos (by rw [xle (by omega) (by omega) (by omega) (by omega)]; omega)]
  · unfold bAt
    constructor
    · intro q
      rw [if_neg (fun z => q 0 (by omega) z.2), if_neg (fun z => q 1 (by omega) z.2), if_neg (fun z => q 2 (by omega) z.2)]
    · intro q b hb z
      split at q
      · omega
      split at q
      · omega
      split at q
      · omega
      · rename_i c0 c1 c2
        rcases (show b = 0 ∨ b = 1 ∨ b = 2 by omega) with rfl | rfl | rfl
        · exact c0 ⟨by omega, z⟩
        · exact c1 ⟨by omega, z⟩
        · exact c2 ⟨by omega, z⟩
theorem bAt_b {f : Int} : -1 ≤ bAt N f ∧ bAt N f ≤ 2 := by
  unfold bAt
  split
  · omega
  split
  · omega
  split <;> omega
end
