/-! THE START: the constructors walked (printed by gen/startgen.py) -/
def up2 {α : Type} (f : Nat → Nat → α) (a b : Nat) (v : α) : Nat → Nat → α := fun i j => if i = a ∧ j = b then v else f i j
def upr {α : Type} (f : Nat → Nat → α) (a lo hi : Nat) (v : α) : Nat → Nat → α := fun i j => if i = a ∧ lo ≤ j ∧ j < hi then v else f i j
/-- the shape and the heap so far, in offsets from B -/
def Wo (S : zS) (M : zH) (B k : Nat) (F : Nat → Nat → Nat) (I : Nat → Nat → Int32) (J : Nat → Nat → Int64) (R : Nat → Nat → Nat) : Prop := sZ S = B + k ∧ (∀ i, i < k → sK S (B + i) = tK i ∧ sN S (B + i) = tN i) ∧ (∀ i j, F i j ≠ 0 → i < k ∧ sF S (B + i) j = some (B + F i j)) ∧ (∀ i j, mI M (B + i) j = I i j ∧ (tK i = 15 → mJ M (B + i) j = J i j) ∧ (15 < tK i → mR M (B + i) j = (if R i j = 0 then none else some (B + R i j)))) ∧ ∀ i j, k ≤ i → mI M (B + i) j = 0 ∧ mJ M (B + i) j = 0 ∧ mR M (B + i) j = none
def okW (B k : Nat) (F : Nat → Nat → Nat) (I : Nat → Nat → Int32) (J : Nat → Nat → Int64) (R : Nat → Nat → Nat) (x : Option (zS × zH)) : Prop := ∃ S M, x = some (S, M) ∧ Wo S M B k F I J R
section
variable {n : Nat} {E : zE} {S : zS} {M : zH} {B k k' a x y c fl mx : Nat} {F F' : Nat → Nat → Nat} {I I' : Nat → Nat → Int32} {J J' : Nat → Nat → Int64} {R R' : Nat → Nat → Nat} {α : Type} {P : Option α → Prop}
theorem Wo.mk' {c ln : Nat} (h : Wo S M B k F I J R) (hc : c = tK k) (hl : ln = tN k) : Wo (zNew S c ln) (mNew M (sZ S)) B (k + 1) F I J R := by
  obtain ⟨h1, h2, h3, h4, h5⟩ := h
  refine ⟨?_, fun i hi => ?_, fun i j q => ?_, fun i j => ?_, fun i j hi => ?_⟩
  · show sZ S + 1 = _; omega
  · show (if B + i = sZ S then c else sK S (B + i)) = _ ∧ (if B + i = sZ S then ln else sN S (B + i)) = _
    by_cases q : i = k
    · rw [if_pos (by omega), if_pos (by omega), q]; exact ⟨hc, hl⟩
    · rw [if_neg (by omega), if_neg (by omega)]; exact h2 i (by omega)
  · have := h3 i j q
    refine ⟨by omega, ?_⟩
    show (if B + i = sZ S then none else sF S (B + i) j) = _
    rw [if_neg (by omega)]; exact this.2
  · show (if B + i = sZ S then 0 else mI M (B + i) j) = _ ∧ (_ → (if B + i = sZ S then 0 else mJ M (B + i) j) = _) ∧ (_ → (if B + i = sZ S then none else mR M (B + i) j) = _)
    have q4 := h4 i j
    by_cases q : B + i = sZ S
    · have q5 := h5 i j (by omega)
      rw [if_pos q, if_pos q, if_pos q, ← q4.1, q5.1]
      exact ⟨rfl, fun z => by rw [← q4.2.1 z, q5.2.1], fun z => by rw [← q4.2.2 z, q5.2.2]⟩
    · rw [if_neg q, if_neg q, if_neg q]; exact q4
  · show (if B + i = sZ S then 0 else mI M (B + i) j) = _ ∧ (if B + i = sZ S then 0 else mJ M (B + i) j) = _ ∧ (if B + i = sZ S then none else mR M (B + i) j) = _
    rw [if_neg (by omega), if_neg (by omega), if_neg (by omega)]
    exact h5 i j (by omega)
theorem o_mkO {f : Nat × zS × zH → Option α} (h : Wo S M B k F I J R) (hk : k' = k + 1) (hc : c = tK k ∧ 0 = tN k) (hf : ∀ S' M', Wo S' M' B k' F I J R → P (f (B + k, S', M'))) : P ((zmkO S M c).bind f) := by
  unfold zmkO
  rw [obs]
  have := hf (zNew S c 0) (mNew M (sZ S)) (by rw [hk]; exact h.mk' hc.1 hc.2)
  rw [← h.1] at this
  exact this
theorem o_mkA {f : Nat × zS × zH → Option α} {ln : Int32} (h : Wo S M B k F I J R) (hk : k' = k + 1) (hc : (c = tK k ∧ ln.toNatClampNeg = tN k) ∧ ¬ ln < 0 ∧ ln.toNatClampNeg ≤ mx) (hf : ∀ S' M', Wo S' M' B k' F I J R → P (f (B + k, S', M'))) : P ((zmkA S M c ln mx).bind f) := by
  unfold zmkA
  rw [if_pos hc.2, obs]
  have := hf (zNew S c ln.toNatClampNeg) (mNew M (sZ S)) (by rw [hk]; exact h.mk' hc.1.1 hc.1.2)
  rw [← h.1] at this
  exact this
theorem o_pR {f : zS → Option α} (h : Wo S M B k F I J R) (ha : a < k) (hc : tK a = c) (hf : ∀ S', Wo S' M B k (up2 F a fl x) I J R → P (f S')) : P ((zpR S (B + a) c fl (B + x)).bind f) := by
  obtain ⟨h1, h2, h3, h4, h5⟩ := h
  unfold zpR
  rw [if_pos ((h2 a ha).1.trans hc), obs]
  refine hf _ ⟨h1, h2, fun i j q => ?_, h4, h5⟩
  show i < k ∧ (if B + i = B + a ∧ j = fl then some (B + x) else sF S (B + i) j) = _
  unfold up2 at q ⊢
  by_cases c : i = a ∧ j = fl
  · rw [if_pos c, if_pos (by omega)]; exact ⟨by omega, rfl⟩
  · rw [if_neg c] at q ⊢; rw [if_neg (by omega)]; exact h3 i j q
theorem Wo.setI' {fl : Nat} {v : Int32} (h : Wo S M B k F I J R) (ha : a < k) : Wo S (setI M (B + a) fl v) B k F (up2 I a fl v) J R := by
  obtain ⟨h1, h2, h3, h4, h5⟩ := h
  refine ⟨h1, h2, h3, fun i j => ⟨?_, (h4 i j).2⟩, fun i j hi => ⟨?_, (h5 i j hi).2⟩⟩
  · rw [mI_ite]
    unfold up2
    by_cases c : i = a ∧ j = fl
    · rw [if_pos c, if_pos (by omega)]
    · rw [if_neg c, if_neg (by omega)]; exact (h4 i j).1
  · rw [mI_ite, if_neg (by omega)]; exact (h5 i j hi).1
theorem Wo.setJ' {fl : Nat} {v : Int64} (h : Wo S M B k F I J R) (ha : a < k) : Wo S (setJ M (B + a) fl v) B k F I (up2 J a fl v) R := by
  obtain ⟨h1, h2, h3, h4, h5⟩ := h
  refine ⟨h1, h2, h3, fun i j => ⟨(h4 i j).1, fun z => ?_, (h4 i j).2.2⟩, fun i j hi => ⟨(h5 i j hi).1, ?_, (h5 i j hi).2.2⟩⟩
  · show (if B + i = B + a ∧ j = fl then v else mJ M (B + i) j) = _
    unfold up2
    by_cases c : i = a ∧ j = fl
    · rw [if_pos c, if_pos (by omega)]
    · rw [if_neg c, if_neg (by omega)]; exact (h4 i j).2.1 z
  · show (if B + i = B + a ∧ j = fl then v else mJ M (B + i) j) = _
    rw [if_neg (by omega)]; exact (h5 i j hi).2.1
theorem o_pI {f : zH → Option α} {v : Int32} (h : Wo S M B k F I J R) (ha : a < k) (hc : tK a = c) (hf : ∀ M', Wo S M' B k F (up2 I a fl v) J R → P (f M')) : P ((zpI S M (B + a) c fl v).bind f) := by
  unfold zpI
  rw [if_pos ((h.2.1 a ha).1.trans hc), obs]
  exact hf _ (h.setI' ha)
theorem o_pZ {f : zH → Option α} {v : Int32} (h : Wo S M B k F I J R) (ha : a < k) (hc : tK a = c ∧ (v = 0 ∨ v = 1)) (hf : ∀ M', Wo S M' B k F (up2 I a fl v) J R → P (f M')) : P ((zpZ S M (B + a) c fl v).bind f) := by
  unfold zpZ
  rw [if_pos ⟨(h.2.1 a ha).1.trans hc.1, hc.2⟩, obs]
  exact hf _ (h.setI' ha)
theorem o_stI {f : zH → Option α} {i v : Int32} (h : Wo S M B k F I J R) (ha : a < k) (hc : tK a = 12 ∧ ¬ (i < 0 ∨ tN a ≤ i.toNatClampNeg)) (hf : ∀ M', Wo S M' B k F (up2 I a i.toNatClampNeg v) J R → P (f M')) : P ((zstI S M (B + a) i v).bind f) := by
  unfold zstI
  rw [if_pos ⟨(h.2.1 a ha).1.trans hc.1, by rw [(h.2.1 a ha).2]; exact hc.2⟩, obs]
  exact hf _ (h.setI' ha)
theorem o_stJ {f : zH → Option α} {i : Int32} {v : Int64} (h : Wo S M B k F I J R) (ha : a < k) (hc : tK a = 15 ∧ ¬ (i < 0 ∨ tN a ≤ i.toNatClampNeg)) (hf : ∀ M', Wo S M' B k F I (up2 J a i.toNatClampNeg v) R → P (f M')) : P ((zstJ S M (B + a) i v).bind f) := by
  unfold zstJ
  rw [if_pos ⟨(h.2.1 a ha).1.trans hc.1, by rw [(h.2.1 a ha).2]; exact hc.2⟩, obs]
  exact hf _ (h.setJ' ha)
theorem o_stR {f : zH → Option α} {cv : Nat} {i : Int32} (h : Wo S M B k F I J R) (ha : a < k ∧ x < k) (hc : tK a = c ∧ tK x = cv ∧ ¬ (i < 0 ∨ tN a ≤ i.toNatClampNeg)) (hx : x ≠ 0) (hf : ∀ M', Wo S M' B k F I J (up2 R a i.toNatClampNeg x) → P (f M')) : P ((zstR S M c cv (B + a) i (B + x)).bind f) := by
  obtain ⟨h1, h2, h3, h4, h5⟩ := h
  unfold zstR
  rw [if_pos ⟨(h2 a ha.1).1.trans hc.1, (h2 x ha.2).1.trans hc.2.1, by rw [(h2 a ha.1).2]; exact hc.2.2⟩, obs]
  refine hf _ ⟨h1, h2, h3, fun i' j => ⟨(h4 i' j).1, (h4 i' j).2.1, fun z => ?_⟩, fun i' j hi => ⟨(h5 i' j hi).1, (h5 i' j hi).2.1, ?_⟩⟩
  · show (if B + i' = B + a ∧ j = i.toNatClampNeg then some (B + x) else mR M (B + i') j) = _
    unfold up2
    by_cases c : i' = a ∧ j = i.toNatClampNeg
    · rw [if_pos c, if_pos (by omega), if_neg hx]
    · rw [if_neg c, if_neg (by omega)]; exact (h4 i' j).2.2 z
  · show (if B + i' = B + a ∧ j = i.toNatClampNeg then some (B + x) else mR M (B + i') j) = _
    rw [if_neg (by omega)]; exact (h5 i' j hi).2.2
theorem o_gR {f : Nat → Option α} (h : Wo S M B k F I J R) (ha : a < k) (hc : tK a = c ∧ y ≠ 0) (hy : F a fl = y) (hf : P (f (B + y))) : P ((zgR S (B + a) c fl).bind f) := by
  unfold zgR
  rw [if_pos ((h.2.1 a ha).1.trans hc.1), (h.2.2.1 a fl (by rw [hy]; exact hc.2)).2, hy, obs]
  exact hf
theorem Wo.ag {q lo hi : Nat} {v : Int32} {M' : zH} (h : Wo S M B k F I J R) (ha : q < k) (hq : tK q < 15) (hv : ∀ j, lo ≤ j → j < hi → mI M' (B + q) j = v) (hA : zAg (fun b j => b = B + q ∧ lo ≤ j ∧ j < hi) M M') : Wo S M' B k F (upr I q lo hi v) J R := by
  obtain ⟨h1, h2, h3, h4, h5⟩ := h
  have nR : ∀ b j, ¬ (b = B + q ∧ lo ≤ j ∧ j < hi) → mI M' b j = mI M b j := fun b j z => (hA b j z).1
  refine ⟨h1, h2, h3, fun i j => ⟨?_, fun z => ?_, fun z => ?_⟩, fun i j hi' => ?_⟩
  · unfold upr
    by_cases c : i = q ∧ lo ≤ j ∧ j < hi
    · rw [if_pos c, c.1]; exact hv j c.2.1 c.2.2
    · rw [if_neg c, nR _ _ (by omega)]; exact (h4 i j).1
  · have ne : i ≠ q := fun w => by rw [w] at z; omega
    rw [(hA (B + i) j (fun w => ne (by omega))).2.1]; exact (h4 i j).2.1 z
  · have ne : i ≠ q := fun w => by rw [w] at z; omega
    rw [(hA (B + i) j (fun w => ne (by omega))).2.2]; exact (h4 i j).2.2 z
  · have := hA (B + i) j (by omega)
    rw [this.1, this.2.1, this.2.2]; exact h5 i j hi'
theorem o_fill {f : zH → Option α} {v : Int32} (h : Wo S M B k F I J R) (ha : a < k) (hc : tK a = 12 ∧ tN a ≤ 32) (hn : 100000 ≤ n) (hf : ∀ M', Wo S M' B k F (upr I a 0 (tN a) v) J R → P (f M')) : P ((F_Ja_fillI n E S (B + a) v M).bind f) := by
  obtain ⟨M', e, h1, hA⟩ := s_fillI (n := n) (E := E) (M := M) (v := v) ((h.2.1 a ha).1.trans hc.1) (h.2.1 a ha).2 (by omega) (by omega)
  rw [e, obs]
  exact hf _ (h.ag ha (by omega) (fun j _ hj => h1 j hj) (hA.mono (fun b j q => by omega)))
theorem o_call {f : zS × zH → Option α} {x : Option (zS × zH)} (hx : okW B k' F' I' J' R' x) (hf : ∀ S' M', Wo S' M' B k' F' I' J' R' → P (f (S', M'))) : P (x.bind f) := by
  obtain ⟨S', M', e, h⟩ := hx
  rw [e, obs]
  exact hf S' M' h
theorem mo_end (h : Wo S M B k F I J R) (hk : 107 < k ∧ F 105 3 = 107) (hn : 100000 ≤ n) : okW B k F (upr (upr I 107 12 44 1) 107 57 65 (-1)) J R (F_Mo_init_b438 n E (B + 105, 0, S, M)) := by
  have g3 : zgR S (B + 105) 11 3 = some (B + 107) := by
    unfold zgR
    rw [if_pos (show sK S (B + 105) = 11 from (h.2.1 105 (by omega)).1), (h.2.2.1 105 3 (by rw [hk.2]; decide)).2, hk.2]
  have s107 : ∀ (M : zH) {x : Int} {v : Int32}, 0 ≤ x → x < 5480 → zstI S M (B + 107) (iI x) v = some (setI M (B + 107) x.toNat v) := fun M x v h0 hx => pi_stI ((h.2.1 107 (by omega)).1.trans rfl) ((h.2.1 107 (by omega)).2.trans rfl) h0 hx (by decide)
  unfold F_Mo_init_b438
  obtain ⟨s1, w1, ⟨M1, hs1, h1, hA1⟩, e1⟩ := zfix_inv (F := fun r438 s => F_Mo_init_L438 n E r438 s.1 s.2.1 s.2.2.1 s.2.2.2) (fun i s => ∃ M1, s = (B + 105, iI (i : Int), S, M1) ∧ (∀ j, 12 ≤ j → j < 12 + i → mI M1 (B + 107) j = 1) ∧ zAg (fun b j => b = B + 107 ∧ 12 ≤ j ∧ j < 44) M M1) 32 (fun i hi s hI' => by
    obtain ⟨M1, rfl, h1, hA1⟩ := hI'
    refine ⟨(B + 105, iI ((i + 1 : Nat) : Int), S, setI M1 (B + 107) (12 + i) 1), ⟨_, rfl, fun j h2 h3 => ?_, hA1.setI ⟨rfl, by omega, by omega⟩⟩, fun rec => ?_⟩
    · rw [mI_ite]
      by_cases c : j = 12 + i
      · rw [if_pos ⟨rfl, c⟩]
      · rw [if_neg (fun z => c z.2)]; exact h1 j h2 (by omega)
    · show F_Mo_init_L438 n E rec (B + 105) (iI (i : Int)) S M1 = _
      unfold F_Mo_init_L438
      rw [show (32 : Int32) = iI 32 by decide, if_neg (cleF (by omega) (by omega) (by omega)), g3, obs, show (12 : Int32) = iI 12 by decide, iI_add, s107 _ (by omega) (by omega), obs, show (12 + (i : Int)).toNat = 12 + i by omega, show (iI (i : Int) + 1) = iI ((i : Int) + 1) by rw [show (1 : Int32) = iI 1 by decide, iI_add]]
      rfl) n 0 (B + 105, 0, S, M) (by omega) (by omega) ⟨M, rfl, fun j h2 h3 => by omega, zAg.rfl'⟩
  have hw1 := h.ag (q := 107) (lo := 12) (hi := 44) (v := 1) (by omega) (by decide) (fun j h2 h3 => h1 j h2 (by omega)) hA1
  obtain ⟨s2, w2, ⟨M2, hs2, h2, hA2⟩, e2⟩ := zfix_inv (F := fun r462 s => F_Mo_init_L462 n E r462 s.1 s.2.1 s.2.2.1 s.2.2.2) (fun i s => ∃ M2, s = (B + 105, iI (i : Int), S, M2) ∧ (∀ j, 57 ≤ j → j < 57 + i → mI M2 (B + 107) j = -1) ∧ zAg (fun b j => b = B + 107 ∧ 57 ≤ j ∧ j < 65) M1 M2) 8 (fun i hi s hI' => by
    obtain ⟨M2, rfl, h1, hA1⟩ := hI'
    refine ⟨(B + 105, iI ((i + 1 : Nat) : Int), S, setI M2 (B + 107) (57 + i) (-1)), ⟨_, rfl, fun j h2 h3 => ?_, hA1.setI ⟨rfl, by omega, by omega⟩⟩, fun rec => ?_⟩
    · rw [mI_ite]
      by_cases c : j = 57 + i
      · rw [if_pos ⟨rfl, c⟩]
      · rw [if_neg (fun z => c z.2)]; exact h1 j h2 (by omega)
    · show F_Mo_init_L462 n E rec (B + 105) (iI (i : Int)) S M2 = _
      unfold F_Mo_init_L462
      rw [show (8 : Int32) = iI 8 by decide, if_neg (cleF (by omega) (by omega) (by omega)), g3, obs, show (57 : Int32) = iI 57 by decide, iI_add, s107 _ (by omega) (by omega), obs, show (57 + (i : Int)).toNat = 57 + i by omega, show (iI (i : Int) + 1) = iI ((i : Int) + 1) by rw [show (1 : Int32) = iI 1 by decide, iI_add]]
      rfl) n 0 (B + 105, 0, S, M1) (by omega) (by omega) ⟨M1, rfl, fun j h2 h3 => by omega, zAg.rfl'⟩
  refine ⟨S, M2, ?_, hw1.ag (q := 107) (lo := 57) (hi := 65) (v := -1) (by omega) (by decide) (fun j q1 q2 => h2 j q1 (by omega)) hA2⟩
  refine e1.trans ?_
  rw [hs1]
  show F_Mo_init_L438 n E _ (B + 105) (iI ((32 : Nat) : Int)) S M1 = _
  unfold F_Mo_init_L438 F_Mo_init_b462
  rw [show (32 : Int32) = iI 32 by decide, if_pos (cleT (by omega) (by omega) (by omega))]
  refine e2.trans ?_
  rw [hs2]
  show F_Mo_init_L462 n E _ (B + 105) (iI ((8 : Nat) : Int)) S M2 = _
  unfold F_Mo_init_L462
  rw [show (8 : Int32) = iI 8 by decide, if_pos (cleT (by omega) (by omega) (by omega))]
/-- the first night -/
def nt0 : Nt := fun c k => if c = 0 then 1 else if c = 6 then -1 else if c = 9 then (if k = 1 then 3 else if k = 3 then 1 else 0) else if c = 14 then -1 else 0
theorem tF0 {i j : Nat} (h : 57 ≤ j) : tF i j = 0 := by
  unfold tF
  split <;> first | rfl | omega
theorem nt0_ok : NdOK nt0 := by
  refine ⟨?_, ?_, ?_, ?_, ?_, ?_, ?_, ?_, ?_, ?_, ?_, ?_, ?_, ?_, ?_, ?_, ?_⟩ <;> first | decide | (intro k hk; revert k; decide)
theorem inv_of (h : Wo S M B 136 F I J R) (hF : ∀ i, i < 136 → ∀ j, j < 57 → tF i j ≠ 0 → F i j = tF i j) (hN1 : ∀ c, c < 10 → ∀ k, k < nln c → I (2 + c) k = iI (nt0 c k)) (hN2 : ∀ c, c < 15 → 11 ≤ c → I 1 c = iI (nt0 c 0)) (hR12 : ∀ j, j < 6 → R 12 j = 0) (h20 : I 105 20 = 0) (hRw : RwN (I 107) nt0) (hu : I 63 1 = iI 0 ∧ I 105 8 = iI 0) (hi0 : I 38 0 = 0 ∧ I 109 0 = 0 ∧ I 38 1 = 0 ∧ I 109 1 = 0) (ht : I 67 1 = iI 0 ∧ I 105 13 = iI 0) (hm : (I 0 15 = I 105 1 ∧ I 0 16 = I 105 11 ∧ I 0 17 = I 105 18 ∧ I 0 18 = I 105 52) ∧ (I 104 0 = I 106 1 ∧ I 104 1 = I 106 2 ∧ I 104 2 = I 106 3 ∧ I 104 3 = I 106 5 ∧ I 104 4 = I 106 6)) (hy : I 0 14 = 0 ∧ I 105 56 = iI (-1)) (hc : (R 13 0 = 14 ∧ R 13 1 = 26) ∧ (∀ i, i < 9 → J 120 i = jJ (cW i)) ∧ (∀ i, i < 7 → J 121 i = jJ (cO i)) ∧ (∀ i, i < 4 → J 122 i = jJ (cH i)) ∧ ∀ i, i < 4 → J 133 i = jJ (cA i)) : Inv S M B := by
  obtain ⟨h1, h2, h3, h4, h5⟩ := h
  have eI : ∀ i j, mI M (B + i) j = I i j := fun i j => (h4 i j).1
  have eI' : mI M (B + 107) = I 107 := funext (fun j => eI 107 j)
  refine ⟨fun i hi => ⟨(h2 i hi).1, (h2 i hi).2, fun j hj => ?_⟩, by omega, ⟨nt0, fun _ => (0, fun _ => 0, fun _ _ => none), ⟨⟨fun c hc k hk => ?_, fun c h11 h15 => ?_⟩, nt0_ok, fun j hj => ⟨fun t q => ?_, fun q => ?_⟩⟩, ⟨?_, ?_, nt0_ok, fun j hj q => ?_⟩, by decide, ⟨0, fun _ => 0, fun _ => 0, fun _ => 0, fun _ _ => 0, fun _ => nt0, by decide, ?_, ?_, fun i hi => by omega⟩⟩, Or.inl ⟨?_, ?_⟩, Or.inl ⟨?_, ?_⟩, ⟨0, fun _ => 0, by decide, ?_, ?_, fun i hi => by omega⟩, ?_, Or.inl ⟨?_, ?_⟩, ?_⟩
  · have hj7 : j < 57 := by
      by_cases q : j < 57
      · exact q
      · exact absurd (tF0 (by omega)) hj
    have e := hF i hi j hj7 hj
    have := (h3 i j (by rw [e]; exact hj)).2
    rw [e] at this; exact this
  · rw [show B + 1 + 1 + c = B + (2 + c) by omega, eI]; exact hN1 c hc k hk
  · rw [eI]; exact hN2 c h15 h11
  · rw [show B + 1 + 11 = B + 12 by omega, (h4 12 j).2.2 (by decide), if_pos (hR12 j hj)] at q; cases q
  · exact absurd q (by show ¬ ((j : Int) < 0); omega)
  · rw [eI]; exact h20
  · rw [eI']; exact hRw
  · exact absurd q (by show ¬ ((j : Int) < 0); omega)
  · rw [eI]; exact hu.1
  · rw [eI]; exact hu.2
  · rw [eI]; exact hi0.1
  · rw [eI]; exact hi0.2.1
  · rw [eI]; exact hi0.2.2.1
  · rw [eI]; exact hi0.2.2.2
  · rw [eI]; exact ht.1
  · rw [eI]; exact ht.2
  · unfold MiscR
    rw [eI, eI, eI, eI, eI, eI, eI, eI, eI, eI, eI, eI, eI, eI, eI, eI, eI, eI]; exact hm
  · rw [eI]; exact hy.1
  · rw [eI]; exact hy.2
  · refine ⟨⟨?_, ?_⟩, fun i hi => ?_, fun i hi => ?_, fun i hi => ?_, fun i hi => ?_⟩
    · rw [(h4 13 0).2.2 (by decide), hc.1.1]; rfl
    · rw [(h4 13 1).2.2 (by decide), hc.1.2]; rfl
    · rw [(h4 120 i).2.1 (by decide)]; exact hc.2.1 i hi
    · rw [(h4 121 i).2.1 (by decide)]; exact hc.2.2.1 i hi
    · rw [(h4 122 i).2.1 (by decide)]; exact hc.2.2.2.1 i hi
    · rw [(h4 133 i).2.1 (by decide)]; exact hc.2.2.2.2 i hi
theorem w_0 : Wo (zS0 B) zM0 B 0 (fun _ _ => 0) (fun _ _ => 0) (fun _ _ => 0) (fun _ _ => 0) := ⟨rfl, fun i hi => by omega, fun i j q => absurd rfl q, fun i j => ⟨rfl, fun _ => rfl, fun _ => rfl⟩, fun i j _ => ⟨rfl, rfl, rfl⟩⟩
end
