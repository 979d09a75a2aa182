/-! RULES for simp (disch := omega) -/
section
variable {n : Nat} {E : zE} {S : zS} {M : zH} {a : Nat} {N : Nt}
theorem xle {x y : Int} (h1 : -2147483648 ≤ x) (h2 : x < 2147483648) (h3 : -2147483648 ≤ y) (h4 : y < 2147483648) : (iI x ≤ iI y) = (x ≤ y) := propext (iI_le ⟨h1, h2⟩ ⟨h3, h4⟩)
theorem xlt {x y : Int} (h1 : -2147483648 ≤ x) (h2 : x < 2147483648) (h3 : -2147483648 ≤ y) (h4 : y < 2147483648) : (iI x < iI y) = (x < y) := propext (iI_lt ⟨h1, h2⟩ ⟨h3, h4⟩)
theorem xeq {x y : Int} (h1 : -2147483648 ≤ x) (h2 : x < 2147483648) (h3 : -2147483648 ≤ y) (h4 : y < 2147483648) : (iI x = iI y) = (x = y) := propext (iI_eq ⟨h1, h2⟩ ⟨h3, h4⟩)
theorem xnot (b : Bool) : (¬ b = true) = (b = false) := by cases b <;> simp
theorem iL0 : (0 : Int32) = iI 0 := by decide
theorem iL1 : (1 : Int32) = iI 1 := by decide
theorem iL2 : (2 : Int32) = iI 2 := by decide
theorem iL3 : (3 : Int32) = iI 3 := by decide
theorem iL4 : (4 : Int32) = iI 4 := by decide
theorem iL5 : (5 : Int32) = iI 5 := by decide
theorem iL6 : (6 : Int32) = iI 6 := by decide
theorem iL7 : (7 : Int32) = iI 7 := by decide
theorem iL8 : (8 : Int32) = iI 8 := by decide
theorem iL9 : (9 : Int32) = iI 9 := by decide
theorem iL10 : (10 : Int32) = iI 10 := by decide
theorem iL11 : (11 : Int32) = iI 11 := by decide
theorem iL12 : (12 : Int32) = iI 12 := by decide
theorem iL13 : (13 : Int32) = iI 13 := by decide
theorem iL14 : (14 : Int32) = iI 14 := by decide
theorem iL15 : (15 : Int32) = iI 15 := by decide
theorem iL16 : (16 : Int32) = iI 16 := by decide
theorem iL17 : (17 : Int32) = iI 17 := by decide
theorem iL18 : (18 : Int32) = iI 18 := by decide
theorem iL19 : (19 : Int32) = iI 19 := by decide
theorem iL20 : (20 : Int32) = iI 20 := by decide
theorem iL24 : (24 : Int32) = iI 24 := by decide
theorem iL31 : (31 : Int32) = iI 31 := by decide
theorem iL32 : (32 : Int32) = iI 32 := by decide
theorem iL44 : (44 : Int32) = iI 44 := by decide
theorem iL50 : (50 : Int32) = iI 50 := by decide
theorem iL57 : (57 : Int32) = iI 57 := by decide
theorem iL60 : (60 : Int32) = iI 60 := by decide
theorem iL61 : (61 : Int32) = iI 61 := by decide
theorem iL63 : (63 : Int32) = iI 63 := by decide
theorem iL64 : (64 : Int32) = iI 64 := by decide
theorem iL65 : (65 : Int32) = iI 65 := by decide
theorem iL80 : (80 : Int32) = iI 80 := by decide
theorem iL98 : (98 : Int32) = iI 98 := by decide
theorem iL99 : (99 : Int32) = iI 99 := by decide
theorem iL100 : (100 : Int32) = iI 100 := by decide
theorem iL255 : (255 : Int32) = iI 255 := by decide
theorem iL400 : (400 : Int32) = iI 400 := by decide
theorem iL401 : (401 : Int32) = iI 401 := by decide
theorem iL512 : (512 : Int32) = iI 512 := by decide
theorem iL750 : (750 : Int32) = iI 750 := by decide
theorem iL800 : (800 : Int32) = iI 800 := by decide
theorem iL900 : (900 : Int32) = iI 900 := by decide
theorem iL999 : (999 : Int32) = iI 999 := by decide
theorem iL1000 : (1000 : Int32) = iI 1000 := by decide
theorem iL1059 : (1059 : Int32) = iI 1059 := by decide
theorem iL4096 : (4096 : Int32) = iI 4096 := by decide
theorem iL5480 : (5480 : Int32) = iI 5480 := by decide
theorem iL10000 : (10000 : Int32) = iI 10000 := by decide
theorem iLm1 : (-1 : Int32) = iI (-1) := by decide
theorem iLm2 : (-2 : Int32) = iI (-2) := by decide
theorem iLm3 : (-3 : Int32) = iI (-3) := by decide
theorem iLm5 : (-5 : Int32) = iI (-5) := by decide
theorem iLm6 : (-6 : Int32) = iI (-6) := by decide
theorem iLmin : (-2147483648 : Int32) = iI (-2147483648) := by decide
theorem NiS.r0 (hS : NiS S a) (hR : NiR M a N) {x : Int} (h0 : 0 ≤ x) (hx : x < 32) : zldI S M (a + 1 + 0) (iI x) = some (iI (N 0 x.toNat)) := hS.rd hR 0 (by decide) (by decide) h0 hx
theorem NiS.w0 (hS : NiS S a) {M : zH} {x : Int} {v : Int32} (h0 : 0 ≤ x) (hx : x < 32) : zstI S M (a + 1 + 0) (iI x) v = some (setI M (a + 1 + 0) x.toNat v) := hS.wr 0 (by decide) (by decide) h0 hx
theorem NiS.r2 (hS : NiS S a) (hR : NiR M a N) {x : Int} (h0 : 0 ≤ x) (hx : x < 4) : zldI S M (a + 1 + 2) (iI x) = some (iI (N 2 x.toNat)) := hS.rd hR 2 (by decide) (by decide) h0 hx
theorem NiS.w2 (hS : NiS S a) {M : zH} {x : Int} {v : Int32} (h0 : 0 ≤ x) (hx : x < 4) : zstI S M (a + 1 + 2) (iI x) v = some (setI M (a + 1 + 2) x.toNat v) := hS.wr 2 (by decide) (by decide) h0 hx
theorem NiS.r3 (hS : NiS S a) (hR : NiR M a N) {x : Int} (h0 : 0 ≤ x) (hx : x < 3) : zldI S M (a + 1 + 3) (iI x) = some (iI (N 3 x.toNat)) := hS.rd hR 3 (by decide) (by decide) h0 hx
theorem NiS.w3 (hS : NiS S a) {M : zH} {x : Int} {v : Int32} (h0 : 0 ≤ x) (hx : x < 3) : zstI S M (a + 1 + 3) (iI x) v = some (setI M (a + 1 + 3) x.toNat v) := hS.wr 3 (by decide) (by decide) h0 hx
theorem NiS.r4 (hS : NiS S a) (hR : NiR M a N) {x : Int} (h0 : 0 ≤ x) (hx : x < 3) : zldI S M (a + 1 + 4) (iI x) = some (iI (N 4 x.toNat)) := hS.rd hR 4 (by decide) (by decide) h0 hx
theorem NiS.w4 (hS : NiS S a) {M : zH} {x : Int} {v : Int32} (h0 : 0 ≤ x) (hx : x < 3) : zstI S M (a + 1 + 4) (iI x) v = some (setI M (a + 1 + 4) x.toNat v) := hS.wr 4 (by decide) (by decide) h0 hx
theorem NiS.r5 (hS : NiS S a) (hR : NiR M a N) {x : Int} (h0 : 0 ≤ x) (hx : x < 3) : zldI S M (a + 1 + 5) (iI x) = some (iI (N 5 x.toNat)) := hS.rd hR 5 (by decide) (by decide) h0 hx
theorem NiS.w5 (hS : NiS S a) {M : zH} {x : Int} {v : Int32} (h0 : 0 ≤ x) (hx : x < 3) : zstI S M (a + 1 + 5) (iI x) v = some (setI M (a + 1 + 5) x.toNat v) := hS.wr 5 (by decide) (by decide) h0 hx
theorem NiS.r6 (hS : NiS S a) (hR : NiR M a N) {x : Int} (h0 : 0 ≤ x) (hx : x < 8) : zldI S M (a + 1 + 6) (iI x) = some (iI (N 6 x.toNat)) := hS.rd hR 6 (by decide) (by decide) h0 hx
theorem NiS.w6 (hS : NiS S a) {M : zH} {x : Int} {v : Int32} (h0 : 0 ≤ x) (hx : x < 8) : zstI S M (a + 1 + 6) (iI x) v = some (setI M (a + 1 + 6) x.toNat v) := hS.wr 6 (by decide) (by decide) h0 hx
theorem NiS.r7 (hS : NiS S a) (hR : NiR M a N) {x : Int} (h0 : 0 ≤ x) (hx : x < 6) : zldI S M (a + 1 + 7) (iI x) = some (iI (N 7 x.toNat)) := hS.rd hR 7 (by decide) (by decide) h0 hx
theorem NiS.w7 (hS : NiS S a) {M : zH} {x : Int} {v : Int32} (h0 : 0 ≤ x) (hx : x < 6) : zstI S M (a + 1 + 7) (iI x) v = some (setI M (a + 1 + 7) x.toNat v) := hS.wr 7 (by decide) (by decide) h0 hx
theorem NiS.r8 (hS : NiS S a) (hR : NiR M a N) {x : Int} (h0 : 0 ≤ x) (hx : x < 6) : zldI S M (a + 1 + 8) (iI x) = some (iI (N 8 x.toNat)) := hS.rd hR 8 (by decide) (by decide) h0 hx
theorem NiS.w8 (hS : NiS S a) {M : zH} {x : Int} {v : Int32} (h0 : 0 ≤ x) (hx : x < 6) : zstI S M (a + 1 + 8) (iI x) v = some (setI M (a + 1 + 8) x.toNat v) := hS.wr 8 (by decide) (by decide) h0 hx
theorem NiS.r9 (hS : NiS S a) (hR : NiR M a N) {x : Int} (h0 : 0 ≤ x) (hx : x < 4) : zldI S M (a + 1 + 9) (iI x) = some (iI (N 9 x.toNat)) := hS.rd hR 9 (by decide) (by decide) h0 hx
theorem NiS.w9 (hS : NiS S a) {M : zH} {x : Int} {v : Int32} (h0 : 0 ≤ x) (hx : x < 4) : zstI S M (a + 1 + 9) (iI x) v = some (setI M (a + 1 + 9) x.toNat v) := hS.wr 9 (by decide) (by decide) h0 hx
theorem NiS.r1 (hS : NiS S a) (hR : NiR M a N) {x : Int} (h0 : 0 ≤ x) (hx : x < 32) : zldZ S M (a + 1 + 1) (iI x) = some (iI (N 1 x.toNat)) := hS.rdZ hR h0 hx
theorem NiS.w1 (hS : NiS S a) {M : zH} {x : Int} {v : Int32} (h0 : 0 ≤ x) (hx : x < 32) : zstZ S M (a + 1 + 1) (iI x) v = some (setI M (a + 1 + 1) x.toNat (vp_nar .boolean v)) := hS.wrZ h0 hx
theorem NiS.g0 (hS : NiS S a) : zgR S a 3 0 = some (a + 1 + 0) := hS.g 0 (by decide)
theorem NiS.g1 (hS : NiS S a) : zgR S a 3 1 = some (a + 1 + 1) := hS.g 1 (by decide)
theorem NiS.g2 (hS : NiS S a) : zgR S a 3 2 = some (a + 1 + 2) := hS.g 2 (by decide)
theorem NiS.g3 (hS : NiS S a) : zgR S a 3 3 = some (a + 1 + 3) := hS.g 3 (by decide)
theorem NiS.g4 (hS : NiS S a) : zgR S a 3 4 = some (a + 1 + 4) := hS.g 4 (by decide)
theorem NiS.g5 (hS : NiS S a) : zgR S a 3 5 = some (a + 1 + 5) := hS.g 5 (by decide)
theorem NiS.g6 (hS : NiS S a) : zgR S a 3 6 = some (a + 1 + 6) := hS.g 6 (by decide)
theorem NiS.g7 (hS : NiS S a) : zgR S a 3 7 = some (a + 1 + 7) := hS.g 7 (by decide)
theorem NiS.g8 (hS : NiS S a) : zgR S a 3 8 = some (a + 1 + 8) := hS.g 8 (by decide)
theorem NiS.g9 (hS : NiS S a) : zgR S a 3 9 = some (a + 1 + 9) := hS.g 9 (by decide)
theorem NiS.g10 (hS : NiS S a) : zgR S a 3 10 = some (a + 1 + 10) := hS.g 10 (by decide)
theorem NiS.i11 (hS : NiS S a) (hR : NiR M a N) : zgI S M a 3 11 = some (iI (N 11 0)) := hS.i hR 11 (by decide) (by decide)
theorem NiS.p11 (hS : NiS S a) {M : zH} {v : Int32} : zpI S M a 3 11 v = some (setI M a 11 v) := pz_pI hS.1
theorem NiS.i12 (hS : NiS S a) (hR : NiR M a N) : zgI S M a 3 12 = some (iI (N 12 0)) := hS.i hR 12 (by decide) (by decide)
theorem NiS.p12 (hS : NiS S a) {M : zH} {v : Int32} : zpI S M a 3 12 v = some (setI M a 12 v) := pz_pI hS.1
theorem NiS.i13 (hS : NiS S a) (hR : NiR M a N) : zgI S M a 3 13 = some (iI (N 13 0)) := hS.i hR 13 (by decide) (by decide)
theorem NiS.p13 (hS : NiS S a) {M : zH} {v : Int32} : zpI S M a 3 13 v = some (setI M a 13 v) := pz_pI hS.1
theorem NiS.i14 (hS : NiS S a) (hR : NiR M a N) : zgI S M a 3 14 = some (iI (N 14 0)) := hS.i hR 14 (by decide) (by decide)
theorem NiS.p14 (hS : NiS S a) {M : zH} {v : Int32} : zpI S M a 3 14 v = some (setI M a 14 v) := pz_pI hS.1
theorem NiS.ck (hS : NiS S a) : zck S a 3 = some () := pz_ck hS.1
theorem nset_s {c k : Nat} {v : Int} : nset N c k v c k = v := by simp [nset]
theorem nset_c {c k c' k' : Nat} {v : Int} (h : c' ≠ c) : nset N c k v c' k' = N c' k' := by simp [nset, h]
theorem nset_k {c k c' k' : Nat} {v : Int} (h : k' ≠ k) : nset N c k v c' k' = N c' k' := by simp [nset, h]
theorem s_boresOfRing (hS : NiS S a) (hR : NiR M a N) (hN : NdOK N) (hn : 20 ≤ n) {r : Int} (h0 : 0 ≤ r) (h4 : r < 4) : F_Ni_boresOfRing n E S a (iI r) M = some (iI (zsum (fun h => N 0 (r * 8 + h).toNat) 8), M) := by
  unfold F_Ni_boresOfRing F_Ni_boresOfRing_b4
  obtain ⟨m, e⟩ := zfix_for (F := fun r4 s => F_Ni_boresOfRing_L4 n E S r4 s.1 s.2.1 s.2.2.1 s.2.2.2.1 s.2.2.2.2) (fun i => (a, iI r, iI (zsum (fun h => N 0 (r * 8 + h).toNat) i), iI (i : Int), M)) 8 (fun i hi rec => by
    show F_Ni_boresOfRing_L4 n E S rec a (iI r) (iI (zsum _ i)) (iI i) M = _
    unfold F_Ni_boresOfRing_L4
    simp (disch := omega) only [iL8, iL1, iI_add, iI_mul, xle, if_neg, hS.g0, Option.bind_some, hS.r0 hR]
    rfl) (k := n) (by omega)
  refine e.trans ?_
  show F_Ni_boresOfRing_L4 n E S _ a (iI r) (iI (zsum _ 8)) (iI (8 : Nat)) M = _
  unfold F_Ni_boresOfRing_L4
  simp (disch := omega) only [iL8, xle, if_pos]
theorem s_addBucket (hS : NiS S a) (hR : NiR M a N) (hN : NdOK N) (hb : N 11 0 < 3) {s f : Int} : ∃ M', F_Ni_addBucket n E S a (iI s) (iI f) M = some (iI (N 11 0), M') ∧ NiR M' a (nset (nset (nset (nset N 3 (N 11 0).toNat s) 4 (N 11 0).toNat 0) 5 (N 11 0).toNat f) 11 0 (N 11 0 + 1)) ∧ zAg (fun b j => a ≤ b ∧ b < a + 12) M M' := by
  have h0 := hN.nb
  have R1 := hR.set 3 (by decide) (N 11 0).toNat s
  have R2 := R1.set 4 (by decide) (N 11 0).toNat 0
  have R3 := R2.set 5 (by decide) (N 11 0).toNat f
  have R4 := R3.setF 11 (by decide) (by decide) (N 11 0 + 1)
  have e1 : ∀ k v, nset N 3 k v 11 0 = N 11 0 := fun k v => nset_c (by decide)
  have e2 : ∀ N' : Nt, ∀ k v, nset N' 4 k v 11 0 = N' 11 0 := fun N' k v => nset_c (by decide)
  have e3 : ∀ N' : Nt, ∀ k v, nset N' 5 k v 11 0 = N' 11 0 := fun N' k v => nset_c (by decide)
  refine ⟨_, ?_, R4, ?_⟩
  · unfold F_Ni_addBucket
    simp (disch := omega) only [iL3, iL0, iL1, hS.i11 hR, Option.bind_some, xlt, if_pos, hS.g3, hS.w3, hS.i11 R1, hS.g4, hS.w4, hS.i11 R2, hS.g5, hS.w5, hS.i11 R3, hS.p11, hS.i11 R4, e1, e2, e3, iI_add, iI_sub, nset_s]
    congr 3
    omega
  · refine (((zAg.rfl'.setI ?_).setI ?_).setI ?_).setI ?_ <;> (constructor <;> omega)
end
