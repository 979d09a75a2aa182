/-! NIGHTS of the class: what its methods do, by an abstract night N (component c is the field's number, element k) -/
abbrev Nt : Type := Nat → Nat → Int
def NiR (M : zH) (a : Nat) (N : Nt) : Prop := (∀ c, c < 10 → ∀ k, k < nln c → mI M (a + 1 + c) k = iI (N c k)) ∧ ∀ c, 11 ≤ c → c < 15 → mI M a c = iI (N c 0)
/-- the numbers are as the document has them (hours on paper may go on) -/
def NdOK (N : Nt) : Prop :=
  (∀ k, k < 32 → 0 ≤ N 0 k ∧ N 0 k ≤ 9) ∧ (∀ k, k < 32 → N 1 k = 0 ∨ N 1 k = 1) ∧ (∀ k, k < 4 → 0 ≤ N 2 k ∧ N 2 k < 8) ∧ (∀ k, k < 3 → 0 ≤ N 3 k ∧ N 3 k ≤ 99) ∧ (∀ k, k < 3 → 0 ≤ N 4 k ∧ N 4 k ≤ N 3 k) ∧ (∀ k, k < 3 → 0 ≤ N 5 k ∧ N 5 k < 8) ∧
  (∀ k, k < 8 → -1 ≤ N 6 k ∧ N 6 k ≤ 400) ∧ (∀ k, k < 6 → 0 ≤ N 7 k ∧ N 7 k < 8) ∧ (∀ k, k < 6 → 0 ≤ N 8 k ∧ N 8 k ≤ 400) ∧ (0 ≤ N 9 0 ∧ N 9 0 ≤ 2000) ∧ (0 ≤ N 9 1 ∧ N 9 1 ≤ 9) ∧ (0 ≤ N 9 2 ∧ N 9 2 ≤ 9) ∧ (0 ≤ N 9 3 ∧ N 9 3 ≤ 10) ∧
  (0 ≤ N 11 0 ∧ N 11 0 ≤ 3) ∧ (0 ≤ N 12 0 ∧ N 12 0 ≤ 6) ∧ (0 ≤ N 13 0 ∧ N 13 0 ≤ 6) ∧ (-1 ≤ N 14 0 ∧ N 14 0 < N 13 0)
theorem NdOK.bore {N : Nt} (h : NdOK N) {k : Nat} (hk : k < 32) : 0 ≤ N 0 k ∧ N 0 k ≤ 9 := h.1 k hk
theorem NdOK.blk {N : Nt} (h : NdOK N) {k : Nat} (hk : k < 32) : N 1 k = 0 ∨ N 1 k = 1 := h.2.1 k hk
theorem NdOK.turn {N : Nt} (h : NdOK N) {k : Nat} (hk : k < 4) : 0 ≤ N 2 k ∧ N 2 k < 8 := h.2.2.1 k hk
theorem NdOK.size {N : Nt} (h : NdOK N) {k : Nat} (hk : k < 3) : 0 ≤ N 3 k ∧ N 3 k ≤ 99 := h.2.2.2.1 k hk
theorem NdOK.lev {N : Nt} (h : NdOK N) {k : Nat} (hk : k < 3) : 0 ≤ N 4 k ∧ N 4 k ≤ N 3 k := h.2.2.2.2.1 k hk
theorem NdOK.fie {N : Nt} (h : NdOK N) {k : Nat} (hk : k < 3) : 0 ≤ N 5 k ∧ N 5 k < 8 := h.2.2.2.2.2.1 k hk
theorem NdOK.want {N : Nt} (h : NdOK N) {k : Nat} (hk : k < 8) : -1 ≤ N 6 k ∧ N 6 k ≤ 400 := h.2.2.2.2.2.2.1 k hk
theorem NdOK.hour {N : Nt} (h : NdOK N) : 0 ≤ N 9 0 ∧ N 9 0 ≤ 2000 := h.2.2.2.2.2.2.2.2.2.1
theorem NdOK.wet {N : Nt} (h : NdOK N) : 0 ≤ N 9 1 ∧ N 9 1 ≤ 9 := h.2.2.2.2.2.2.2.2.2.2.1
theorem NdOK.mood {N : Nt} (h : NdOK N) : 0 ≤ N 9 2 ∧ N 9 2 ≤ 9 := h.2.2.2.2.2.2.2.2.2.2.2.1
theorem NdOK.rust {N : Nt} (h : NdOK N) : 0 ≤ N 9 3 ∧ N 9 3 ≤ 10 := h.2.2.2.2.2.2.2.2.2.2.2.2.1
theorem NdOK.nb {N : Nt} (h : NdOK N) : 0 ≤ N 11 0 ∧ N 11 0 ≤ 3 := h.2.2.2.2.2.2.2.2.2.2.2.2.2.1
theorem NdOK.ns {N : Nt} (h : NdOK N) : 0 ≤ N 12 0 ∧ N 12 0 ≤ 6 := h.2.2.2.2.2.2.2.2.2.2.2.2.2.2.1
theorem NdOK.nl {N : Nt} (h : NdOK N) : 0 ≤ N 13 0 ∧ N 13 0 ≤ 6 := h.2.2.2.2.2.2.2.2.2.2.2.2.2.2.2.1
theorem NdOK.fo {N : Nt} (h : NdOK N) : -1 ≤ N 14 0 ∧ N 14 0 < N 13 0 := h.2.2.2.2.2.2.2.2.2.2.2.2.2.2.2.2
section
variable {n : Nat} {E : zE} {S : zS} {M : zH} {a : Nat} {N : Nt}
theorem NiS.g (hS : NiS S a) (c : Nat) (hc : c < 11) : zgR S a 3 c = some (a + 1 + c) := pz_gR hS.1 (hS.2 c hc).1
theorem NiS.i (hS : NiS S a) (hR : NiR M a N) (c : Nat) (h1 : 11 ≤ c) (h2 : c < 15) : zgI S M a 3 c = some (iI (N c 0)) := by rw [pz_gI hS.1, hR.2 c h1 h2]
theorem NiS.rd (hS : NiS S a) (hR : NiR M a N) (c : Nat) (hc : c < 10) (h1 : c ≠ 1) {x : Int} (h0 : 0 ≤ x) (hx : x < nln c) : zldI S M (a + 1 + c) (iI x) = some (iI (N c x.toNat)) := by
  have hk := (hS.2 c (by omega)).2.1
  have e : nkd c = 12 := by simp [nkd, h1, show c ≠ 10 by omega]
  have hL : nln c ≤ 100000 := by unfold nln; split <;> omega
  rw [pi_ldI (hk.trans e) (hS.2 c (by omega)).2.2 h0 hx hL, hR.1 c hc x.toNat (by omega)]
theorem NiS.rdZ (hS : NiS S a) (hR : NiR M a N) {x : Int} (h0 : 0 ≤ x) (hx : x < 32) : zldZ S M (a + 2) (iI x) = some (iI (N 1 x.toNat)) := by
  have h := hS.2 1 (by omega)
  rw [pi_ldZ (a := a + 2) h.2.1 h.2.2 h0 hx (by decide)]
  exact congrArg some (hR.1 1 (by omega) x.toNat (by show x.toNat < 32; omega))
theorem NiS.wr (hS : NiS S a) (c : Nat) (hc : c < 10) (h1 : c ≠ 1) {x : Int} {v : Int32} (h0 : 0 ≤ x) (hx : x < nln c) : zstI S M (a + 1 + c) (iI x) v = some (setI M (a + 1 + c) x.toNat v) := by
  have hk := (hS.2 c (by omega)).2.1
  have e : nkd c = 12 := by simp [nkd, h1, show c ≠ 10 by omega]
  have hL : nln c ≤ 100000 := by unfold nln; split <;> omega
  rw [pi_stI (hk.trans e) (hS.2 c (by omega)).2.2 h0 hx hL]
theorem NiS.wrZ (hS : NiS S a) {x : Int} {v : Int32} (h0 : 0 ≤ x) (hx : x < 32) : zstZ S M (a + 2) (iI x) v = some (setI M (a + 2) x.toNat (vp_nar .boolean v)) := by
  have h := hS.2 1 (by omega)
  rw [pi_stZ (a := a + 2) h.2.1 h.2.2 h0 hx (by decide)]
/-- an element is another -/
def nset (N : Nt) (c k : Nat) (v : Int) : Nt := fun c' k' => if c' = c ∧ k' = k then v else N c' k'
theorem NiR.set (hR : NiR M a N) (c : Nat) (hc : c < 10) (k : Nat) (v : Int) : NiR (setI M (a + 1 + c) k (iI v)) a (nset N c k v) := by
  refine ⟨fun c' hc' k' hk' => ?_, fun c' h1 h2 => ?_⟩
  · rw [mI_ite]
    unfold nset
    by_cases h : c' = c ∧ k' = k
    · rw [if_pos ⟨by omega, h.2⟩, if_pos h]
    · rw [if_neg (fun q => h ⟨by omega, q.2⟩), if_neg h]
      exact hR.1 c' hc' k' hk'
  · rw [mI_ite, if_neg (fun q => by omega)]
    unfold nset
    rw [if_neg (fun q => by omega)]
    exact hR.2 c' h1 h2
theorem NiR.setF (hR : NiR M a N) (c : Nat) (h1 : 11 ≤ c) (h2 : c < 15) (v : Int) : NiR (setI M a c (iI v)) a (nset N c 0 v) := by
  refine ⟨fun c' hc' k' hk' => ?_, fun c' g1 g2 => ?_⟩
  · rw [mI_ite, if_neg (fun q => by omega)]
    unfold nset
    rw [if_neg (fun q => by omega)]
    exact hR.1 c' hc' k' hk'
  · rw [mI_ite]
    unfold nset
    by_cases h : c' = c
    · rw [if_pos ⟨rfl, h⟩, if_pos ⟨h, rfl⟩]
    · rw [if_neg (fun q => h q.2), if_neg (fun q => h q.1)]
      exact hR.2 c' g1 g2
/-- what is changed elsewhere doesn't matter -/
theorem NiR.ag {X : Nat → Nat → Prop} {M' : zH} (hR : NiR M a N) (h : zAg X M M') (hx : ∀ b j, a ≤ b → b < a + 12 → ¬ X b j) : NiR M' a N :=
  ⟨fun c hc k hk => by rw [(h _ _ (hx (a + 1 + c) k (by omega) (by omega))).1]; exact hR.1 c hc k hk, fun c h1 h2 => by rw [(h _ _ (hx a c (by omega) (by omega))).1]; exact hR.2 c h1 h2⟩
theorem zR_of {x : Int} (h1 : -1000000000 ≤ x) (h2 : x ≤ 1000000000) : zR x := ⟨by omega, by omega⟩
theorem s_fieldBelow (hS : NiS S a) (hR : NiR M a N) (hN : NdOK N) {r h : Int} (hr0 : 0 ≤ r) (hr : r < 4) (hh0 : 0 ≤ h) (hh : h < 8) : F_Ni_fieldBelow n E S a (iI r) (iI h) M = some (iI ((h + N 2 r.toNat) % 8), M) := by
  have ht := hN.turn (k := r.toNat) (by omega)
  unfold F_Ni_fieldBelow
  rw [hS.g 2 (by decide), Option.bind_some, hS.rd hR 2 (by decide) (by decide) hr0 (by show r < 4; exact hr), Option.bind_some, iI_add, iI_8, s_floorMod n E S M (zR_of (by omega) (by omega)) (by omega) (by omega), Option.bind_some]
theorem s_holeAbove (hS : NiS S a) (hR : NiR M a N) (hN : NdOK N) {r f : Int} (hr0 : 0 ≤ r) (hr : r < 4) (hh0 : 0 ≤ f) (hh : f < 8) : F_Ni_holeAbove n E S a (iI r) (iI f) M = some (iI ((f - N 2 r.toNat) % 8), M) := by
  have ht := hN.turn (k := r.toNat) (by omega)
  unfold F_Ni_holeAbove
  rw [hS.g 2 (by decide), Option.bind_some, hS.rd hR 2 (by decide) (by decide) hr0 (by show r < 4; exact hr), Option.bind_some, iI_sub, iI_8, s_floorMod n E S M (zR_of (by omega) (by omega)) (by omega) (by omega), Option.bind_some]
theorem s_withinI {x u v : Int} (hx : zR x) (hu : zR u) (hv : zR v) : F_NC_within n E S (iI x) (iI u) (iI v) M = some (decide (u ≤ x ∧ x ≤ v), M) := by
  rw [s_within]
  congr 2
  exact decide_eq_decide.mpr (by rw [iI_le hu hx, iI_le hx hv])
theorem s_isRing {x : Int} (hx : zR x) : F_NC_isRing n E S (iI x) M = some (decide (0 ≤ x ∧ x ≤ 3), M) := by
  unfold F_NC_isRing
  rw [show (0 : Int32) = iI 0 from rfl, show (3 : Int32) = iI 3 from rfl, s_withinI hx (zR_of (by omega) (by omega)) (zR_of (by omega) (by omega))]
  rfl
theorem s_isHole {x : Int} (hx : zR x) : F_NC_isHole n E S (iI x) M = some (decide (0 ≤ x ∧ x ≤ 7), M) := by
  unfold F_NC_isHole
  rw [show (0 : Int32) = iI 0 from rfl, show (7 : Int32) = iI 7 from rfl, s_withinI hx (zR_of (by omega) (by omega)) (zR_of (by omega) (by omega))]
  rfl
theorem s_isField {x : Int} (hx : zR x) : F_NC_isField n E S (iI x) M = some (decide (0 ≤ x ∧ x ≤ 7), M) := by
  unfold F_NC_isField
  rw [show (0 : Int32) = iI 0 from rfl, show (7 : Int32) = iI 7 from rfl, s_withinI hx (zR_of (by omega) (by omega)) (zR_of (by omega) (by omega))]
  rfl
theorem s_hasBucket (hS : NiS S a) (hR : NiR M a N) (hN : NdOK N) {x : Int} (hx : zR x) : F_Ni_hasBucket n E S a (iI x) M = some (decide (0 ≤ x ∧ x ≤ N 11 0 - 1), M) := by
  have hb := hN.nb
  unfold F_Ni_hasBucket
  rw [hS.i hR 11 (by decide) (by decide), Option.bind_some, show (1 : Int32) = iI 1 from rfl, iI_sub, show (0 : Int32) = iI 0 from rfl, s_withinI hx (zR_of (by omega) (by omega)) (zR_of (by omega) (by omega))]
  rfl
theorem s_hasLaw (hS : NiS S a) (hR : NiR M a N) (hN : NdOK N) {x : Int} (hx : zR x) : F_Ni_hasLaw n E S a (iI x) M = some (decide (0 ≤ x ∧ x ≤ N 13 0 - 1), M) := by
  have hb := hN.nl
  unfold F_Ni_hasLaw
  rw [hS.i hR 13 (by decide) (by decide), Option.bind_some, show (1 : Int32) = iI 1 from rfl, iI_sub, show (0 : Int32) = iI 0 from rfl, s_withinI hx (zR_of (by omega) (by omega)) (zR_of (by omega) (by omega))]
  rfl
theorem s_lawInForce (hS : NiS S a) (hR : NiR M a N) (hN : NdOK N) : F_Ni_lawInForce n E S a M = some (if N 14 0 < 0 then none else mR M (a + 11) (N 14 0).toNat, M) := by
  have hf := hN.fo
  have hl := hN.nl
  unfold F_Ni_lawInForce
  rw [hS.i hR 14 (by decide) (by decide), Option.bind_some, iI_0]
  by_cases h : N 14 0 < 0
  · rw [if_pos ((iI_lt (zR_of (by omega) (by omega)) (zR_of (by omega) (by omega))).mpr h), if_pos h]
    rfl
  · rw [if_neg (fun q => h ((iI_lt (zR_of (by omega) (by omega)) (zR_of (by omega) (by omega))).mp q)), if_neg h, Option.bind_some, show (6 : Int32) = iI 6 from rfl, if_neg (fun q => by
      have := (iI_le (x := 6) (y := N 14 0) (zR_of (by omega) (by omega)) (zR_of (by omega) (by omega))).mp q
      omega), hS.g 10 (by decide), Option.bind_some, Option.bind_some]
    have h3 := hS.2 10 (by decide)
    rw [pi_ldR (a := a + 11) (c := 16) (L := 6) h3.2.1 h3.2.2 (by omega) (by omega) (by decide)]
    rfl
/-- the first bucket at a field; -1: none -/
def bAt (N : Nt) (f : Int) : Int := if 0 < N 11 0 ∧ N 5 0 = f then 0 else if 1 < N 11 0 ∧ N 5 1 = f then 1 else if 2 < N 11 0 ∧ N 5 2 = f then 2 else -1
theorem s_bucketAt (hS : NiS S a) (hR : NiR M a N) (hN : NdOK N) (hn : 10 ≤ n) {f : Int} (hf : zR f) : F_Ni_bucketAt n E S a (iI f) M = some (iI (bAt N f), M) := by
  have hb := hN.nb
  have h0 := hN.fie (k := 0) (by decide)
  have h1 := hN.fie (k := 1) (by decide)
  have h2 := hN.fie (k := 2) (by decide)
  have step : ∀ (rec : Nat × Int32 × Int32 × zH → Option (Int32 × zH)) (b : Nat), b ≤ 3 → F_Ni_bucketAt_L2 n E S rec a (iI f) (iI b) M = if N 11 0 ≤ b then some (iI (-1), M) else if N 5 b = f then some (iI b, M) else rec (a, iI f, iI ((b : Int) + 1), M) := by
    intro rec b hb3
    unfold F_Ni_bucketAt_L2
    rw [hS.i hR 11 (by decide) (by decide), Option.bind_some]
    by_cases hc : N 11 0 ≤ b
    · rw [if_pos ((iI_le (zR_of (by omega) (by omega)) (zR_of (by omega) (by omega))).mpr hc), if_pos hc]
      rfl
    · rw [if_neg (fun q => hc ((iI_le (zR_of (by omega) (by omega)) (zR_of (by omega) (by omega))).mp q)), if_neg hc, hS.g 5 (by decide), Option.bind_some, hS.rd hR 5 (by decide) (by decide) (by omega) (by show (b : Int) < 3; omega), Option.bind_some]
      have hfb := hN.fie (k := b) (by omega)
      rw [show ((b : Int)).toNat = b from rfl]
      by_cases hd : N 5 b = f
      · rw [if_pos (by rw [hd]), if_pos hd]
      · rw [if_neg (fun q => hd ((iI_eq (zR_of (by omega) (by omega)) hf).mp q)), if_neg hd, iI_1, iI_add]
  unfold F_Ni_bucketAt F_Ni_bucketAt_b2
  obtain ⟨m, rfl⟩ : ∃ m, n = m + 4 := ⟨n - 4, by omega⟩
  show F_Ni_bucketAt_L2 (m + 4) E S (zfix (fun r2 s => F_Ni_bucketAt_L2 (m + 4) E S r2 s.1 s.2.1 s.2.2.1 s.2.2.2) (m + 3)) a (iI f) (iI (0 : Nat)) M = _
  rw [step _ 0 (by omega)]
  unfold bAt
  by_cases c0 : N 11 0 ≤ 0
  · rw [if_pos (by exact_mod_cast c0), if_neg (by omega), if_neg (by omega), if_neg (by omega)]
  rw [if_neg (by exact_mod_cast c0)]
  by_cases d0 : N 5 0 = f
  · rw [if_pos d0, if_pos ⟨by omega, d0⟩]; rfl
  rw [if_neg d0, if_neg (fun q => d0 q.2)]
  show F_Ni_bucketAt_L2 (m + 4) E S (zfix (fun r2 s => F_Ni_bucketAt_L2 (m + 4) E S r2 s.1 s.2.1 s.2.2.1 s.2.2.2) (m + 2)) a (iI f) (iI (1 : Nat)) M = _
  rw [step _ 1 (by omega)]
  by_cases c1 : N 11 0 ≤ 1
  · rw [if_pos (by exact_mod_cast c1), if_neg (by omega), if_neg (by omega)]
  rw [if_neg (by exact_mod_cast c1)]
  by_cases d1 : N 5 1 = f
  · rw [if_pos d1, if_pos ⟨by omega, d1⟩]; rfl
  rw [if_neg d1, if_neg (fun q => d1 q.2)]
  show F_Ni_bucketAt_L2 (m + 4) E S (zfix (fun r2 s => F_Ni_bucketAt_L2 (m + 4) E S r2 s.1 s.2.1 s.2.2.1 s.2.2.2) (m + 1)) a (iI f) (iI (2 : Nat)) M = _
  rw [step _ 2 (by omega)]
  by_cases c2 : N 11 0 ≤ 2
  · rw [if_pos (by exact_mod_cast c2), if_neg (by omega)]
  rw [if_neg (by exact_mod_cast c2)]
  by_cases d2 : N 5 2 = f
  · rw [if_pos d2, if_pos ⟨by omega, d2⟩]; rfl
  rw [if_neg d2, if_neg (fun q => d2 q.2)]
  show F_Ni_bucketAt_L2 (m + 4) E S (zfix (fun r2 s => F_Ni_bucketAt_L2 (m + 4) E S r2 s.1 s.2.1 s.2.2.1 s.2.2.2) (m + 0)) a (iI f) (iI (3 : Nat)) M = _
  rw [step _ 3 (by omega), if_pos (by exact_mod_cast hb.2)]

theorem iI_leT {x y : Int} (h : x ≤ y) (hx : zR x) (hy : zR y) : iI x ≤ iI y := (iI_le hx hy).mpr h
theorem iI_leF {x y : Int} (h : y < x) (hx : zR x) (hy : zR y) : ¬ iI x ≤ iI y := fun q => by have := (iI_le hx hy).mp q; omega
theorem iI_ltT {x y : Int} (h : x < y) (hx : zR x) (hy : zR y) : iI x < iI y := (iI_lt hx hy).mpr h
theorem iI_ltF {x y : Int} (h : y ≤ x) (hx : zR x) (hy : zR y) : ¬ iI x < iI y := fun q => by have := (iI_lt hx hy).mp q; omega
theorem iI_neT {x y : Int} (h : x ≠ y) (hx : zR x) (hy : zR y) : ¬ iI x = iI y := fun q => h ((iI_eq hx hy).mp q)
theorem s_allLevels (hS : NiS S a) (hR : NiR M a N) (hN : NdOK N) (hn : 10 ≤ n) : F_Ni_allLevels n E S a M = some (iI (zsum (N 4) (N 11 0).toNat), M) := by
  have hb := hN.nb
  unfold F_Ni_allLevels F_Ni_allLevels_b4
  obtain ⟨m, e⟩ := zfix_for (F := fun r4 s => F_Ni_allLevels_L4 n E S r4 s.1 s.2.1 s.2.2.1 s.2.2.2) (fun i => (a, iI (zsum (N 4) i), iI (i : Int), M)) (N 11 0).toNat (fun i hi rec => by
    show F_Ni_allLevels_L4 n E S rec a (iI (zsum (N 4) i)) (iI i) M = _
    unfold F_Ni_allLevels_L4
    rw [hS.i hR 11 (by decide) (by decide), Option.bind_some, if_neg (iI_leF (by omega) (zR_of (by omega) (by omega)) (zR_of (by omega) (by omega))), hS.g 4 (by decide), Option.bind_some, hS.rd hR 4 (by decide) (by decide) (by omega) (by show (i : Int) < 3; omega), Option.bind_some, iI_1, iI_add, iI_add]
    rfl) (k := n) (by omega)
  refine e.trans ?_
  show F_Ni_allLevels_L4 n E S _ a (iI (zsum (N 4) (N 11 0).toNat)) (iI ((N 11 0).toNat : Int)) M = _
  unfold F_Ni_allLevels_L4
  rw [hS.i hR 11 (by decide) (by decide), Option.bind_some, if_pos (iI_leT (by omega) (zR_of (by omega) (by omega)) (zR_of (by omega) (by omega)))]
/-- all rings on by hours, the hour too -/
def nturn (N : Nt) (d : Int) : Nt := fun c k => if c = 2 ∧ k < 4 then (N 2 k + d * (k + 1)) % 8 else if c = 9 ∧ k = 0 then N 9 0 + d else N c k
theorem s_turnAll (hS : NiS S a) (hR : NiR M a N) (hN : NdOK N) (hn : 10 ≤ n) {d : Int} (hd : d = 1 ∨ d = -1) : ∃ M', F_Ni_turnAll n E S a (iI d) M = some M' ∧ NiR M' a (nturn N d) ∧ zAg (fun b j => (b = a + 3 ∧ j < 4) ∨ (b = a + 10 ∧ j = 0)) M M' := by
  have hh := hN.hour
  let X : Nat → Nat → Prop := fun b j => (b = a + 3 ∧ j < 4) ∨ (b = a + 10 ∧ j = 0)
  unfold F_Ni_turnAll F_Ni_turnAll_b2
  obtain ⟨s', m, ⟨M1, hs', hR1, hA1⟩, e⟩ := zfix_inv (F := fun r2 s => F_Ni_turnAll_L2 n E S r2 s.1 s.2.1 s.2.2.1 s.2.2.2) (fun i s => ∃ M1, s = (a, iI d, iI (i : Int), M1) ∧ NiR M1 a (fun c k => if c = 2 ∧ k < i then (N 2 k + d * (k + 1)) % 8 else N c k) ∧ zAg X M M1) 4 (fun i hi s hI => by
    obtain ⟨M1, rfl, hR1, hA1⟩ := hI
    have ht := hN.turn (k := i) hi
    refine ⟨(a, iI d, iI ((i + 1 : Nat) : Int), setI M1 (a + 3) i (iI ((N 2 i + d * (i + 1)) % 8))), ⟨_, rfl, ?_, hA1.setI (Or.inl ⟨rfl, hi⟩)⟩, fun rec => ?_⟩
    · have h1 := hR1.set 2 (by decide) i ((N 2 i + d * (i + 1)) % 8)
      have e2 : nset (fun c k => if c = 2 ∧ k < i then (N 2 k + d * (k + 1)) % 8 else N c k) 2 i ((N 2 i + d * (i + 1)) % 8) = fun c k => if c = 2 ∧ k < i + 1 then (N 2 k + d * (k + 1)) % 8 else N c k := by
        funext c k
        unfold nset
        dsimp only
        by_cases q : c = 2 ∧ k = i
        · rw [if_pos q, if_pos ⟨q.1, by omega⟩, q.2]
        · rw [if_neg q]
          by_cases q2 : c = 2 ∧ k < i
          · rw [if_pos q2, if_pos ⟨q2.1, by omega⟩]
          · rw [if_neg q2, if_neg (fun q3 => q2 ⟨q3.1, by omega⟩)]
      rw [e2] at h1
      exact h1
    · show F_Ni_turnAll_L2 n E S rec a (iI d) (iI i) M1 = _
      unfold F_Ni_turnAll_L2
      rw [show (4 : Int32) = iI 4 from rfl, if_neg (iI_leF (by omega) (zR_of (by omega) (by omega)) (zR_of (by omega) (by omega))), hS.g 2 (by decide), Option.bind_some, hS.rd hR1 2 (by decide) (by decide) (by omega) (by show (i : Int) < 4; omega), Option.bind_some]
      rw [if_neg (by simp), show ((i : Int)).toNat = i from rfl, iI_1, iI_add, iI_mul, iI_add, iI_8]
      have hz : zR (N 2 i + d * (i + 1)) := by rcases hd with rfl | rfl <;> exact zR_of (by omega) (by omega)
      rw [s_floorMod n E S M1 hz (by omega) (by omega), Option.bind_some, hS.wr 2 (by decide) (by decide) (by omega) (by show (i : Int) < 4; omega), Option.bind_some]
      rfl) n 0 (a, iI d, 0, M) (by omega) (by omega) ⟨M, rfl, by simpa using hR, zAg.rfl'⟩
  rw [e, hs']
  show ∃ M', F_Ni_turnAll_L2 n E S _ a (iI d) (iI (4 : Nat)) M1 = some M' ∧ _
  refine ⟨setI M1 (a + 10) 0 (iI (N 9 0 + d)), ?_, ?_, hA1.setI (Or.inr ⟨rfl, rfl⟩)⟩
  · unfold F_Ni_turnAll_L2
    rw [show (4 : Int32) = iI 4 from rfl, if_pos (iI_leT (by omega) (zR_of (by omega) (by omega)) (zR_of (by omega) (by omega))), hS.g 9 (by decide), Option.bind_some, iI_0, hS.rd hR1 9 (by decide) (by decide) (by omega) (by decide), Option.bind_some, iI_add, hS.wr 9 (by decide) (by decide) (by omega) (by decide)]
    rfl
  · have h1 := hR1.set 9 (by decide) 0 (N 9 0 + d)
    have e2 : nset (fun c k => if c = 2 ∧ k < 4 then (N 2 k + d * (k + 1)) % 8 else N c k) 9 0 (N 9 0 + d) = nturn N d := by
      funext c k
      unfold nset nturn
      dsimp only
      by_cases q : c = 9 ∧ k = 0
      · rw [if_pos q, if_neg (by omega), if_pos q]
      · rw [if_neg q]
        by_cases q2 : c = 2 ∧ k < 4
        · rw [if_pos q2, if_pos q2]
        · rw [if_neg q2, if_neg q2, if_neg q]
    rw [e2] at h1
    exact h1
end
