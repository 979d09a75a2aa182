/-! orders: running, the model -/
def MRS (MM : zH) (B : Nat) (Ls : Nat → Lw) (x : Sto) : Prop := MN MM B x.1 Ls ∧ PM MM B x.2.1 ∧ mI MM (B + 105) 50 = iI x.2.2.1 ∧ mI MM (B + 105) 51 = iI x.2.2.2
/-- the words are laid -/
def LD (MM : zH) (B : Nat) (w : Nat → Int) : Prop := (∀ i, i < 4 → mJ MM (B + 124) (i + 1) = jJ (w i)) ∧ ∀ f, f < 8 → mI MM (B + 126) f = iI (w (11 + f))
/-- the code is there -/
def MT (MM : zH) (B : Nat) (mo ma : Nat → Int) (nc : Nat) : Prop := (∀ k, k < nc → mI MM (B + 116) k = iI (mo k) ∧ mI MM (B + 117) k = iI (ma k)) ∧ cBd mo ma nc ∧ nc ≤ 400
def smX (B : Nat) : Nat → Nat → Prop := fun b j => rkX B b j ∨ (b = B + 105 ∧ (j = 20 ∨ j = 53))
def mruX (B : Nat) : Nat → Nat → Prop := fun b j => mdX B b j ∨ b = B + 124 ∨ smX B b j ∨ (b = B + 105 ∧ (j = 50 ∨ j = 51))
section
variable {n : Nat} {E : zE} {S : zS} {M M' MM MM' : zH} {B : Nat} {Ls : Nat → Lw} {x : Sto} {mo ma : Nat → Int} {nc : Nat}
theorem tr_new (hS : ShOK S B) {len cl pt : Nat} {st : Nat → Int} {D : Nat → Ds} (hX : CX M B st len pt) (b8 : mI M (B + 70) 6 = iI (cl : Int)) (b9 : cl ≤ 12) (hQ : ∀ c, c < cl → QC M B true st len c (D c)) : ∃ wm mk, TR S M B len cl st D wm mk := by
  obtain ⟨⟨b2, b3, b4⟩, b5, b6⟩ := hX
  have hq : ∀ c, ∃ y : (Nat → Nat) × Nat, c < cl → (KT M B c (D c).1 (D c).2.1 y.1 ∧ (mI M (B + 74) c = iI (y.2 : Int) ∧ y.2 < 524288) ∧ (0 ≤ (D c).1 ∧ (D c).1 ≤ 3 ∧ 1 ≤ (D c).2.1 ∧ (D c).2.1 ≤ 20) ∧ ((D c).1 ≠ 3 → (sgC st 19 (y.1 0) (y.1 1) 50 (D c).2.2.1 ∧ dpw y.2 (D c).2.2.1) ∧ (sgC st 19 (y.1 1) (y.1 2) 50 (D c).2.2.2.1 ∧ dpw y.2 (D c).2.2.2.1)) ∧ tgC st 19 (y.1 2) (y.1 3) y.2 (D c).2.2.2.2 ∧ (y.1 0 ≤ y.1 1 ∧ y.1 1 ≤ y.1 2 ∧ y.1 2 ≤ y.1 3 ∧ y.1 3 ≤ len)) := fun c => by
    by_cases hc : c < cl
    · obtain ⟨mk, wm, q1, q2, q3, q4, q5, q6⟩ := hQ c hc
      exact ⟨(mk, wm), fun _ => ⟨q1, q2, q3, fun z => ⟨(q4 z).1, (q4 z).2 rfl⟩, q5, q6⟩⟩
    · exact ⟨(fun _ => 0, 0), fun z => absurd z hc⟩
  obtain ⟨F, hF⟩ := Classical.skolem.mp hq
  have n71 : sN S (B + 70 + 1) = 400 := hS.n 71 (by decide)
  refine ⟨fun c => (F c).2, fun c => (F c).1, ⟨⟨hS.k 70 (by decide), hS.f 70 0 (by decide) (by decide), hS.k 71 (by decide), by omega, by omega, b2, b4⟩, fun f hf => ?_, ⟨hS.n 72 (by decide), hS.n 73 (by decide), hS.n 74 (by decide), hS.n 75 (by decide)⟩, b8, b9, fun c hc => ?_, fun c hc p hp => ?_⟩, fun c hc => ?_⟩
  · have : f = 0 ∨ f = 1 ∨ f = 2 ∨ f = 3 ∨ f = 4 := by omega
    rcases this with rfl | rfl | rfl | rfl | rfl
    · exact ⟨hS.f 70 0 (by decide) (by decide), hS.k 71 (by decide)⟩
    · exact ⟨hS.f 70 1 (by decide) (by decide), hS.k 72 (by decide)⟩
    · exact ⟨hS.f 70 2 (by decide) (by decide), hS.k 73 (by decide)⟩
    · exact ⟨hS.f 70 3 (by decide) (by decide), hS.k 74 (by decide)⟩
    · exact ⟨hS.f 70 4 (by decide) (by decide), hS.k 75 (by decide)⟩
  · obtain ⟨⟨k1, k2, k3⟩, ⟨w1, w2⟩, bb, _⟩ := hF c hc
    exact ⟨k1, k2, w1, bb.1, bb.2.1, by dsimp only; omega, bb.2.2.2, by dsimp only; omega, by dsimp only; omega⟩
  · obtain ⟨⟨k1, k2, k3⟩, _, _, _, _, n1, n2, n3, n4⟩ := hF c hc
    refine ⟨k3 p hp, ?_⟩
    have : p = 0 ∨ p = 1 ∨ p = 2 ∨ p = 3 := by omega
    rcases this with rfl | rfl | rfl | rfl <;> (dsimp only; omega)
  · obtain ⟨_, ⟨w1, w2⟩, bb, s1, s2, n1, n2, n3, n4⟩ := hF c hc
    exact ⟨w2, s1, s2, ⟨n1, n2, n3, n4⟩, bb.2.2.1⟩
theorem mcr {N : Nt} {dn la : Int} {last : Nat} (hM : MN MM B N Ls) (hL : LD MM B (wO N Ls dn la)) (hT : MT MM B mo ma nc) (hd : 0 ≤ dn ∧ dn ≤ 1000) (hla : -1 ≤ la ∧ la ≤ 1000) (hl : last ≤ nc) : McR (setI MM (B + 105) 20 1) B true mo ma (wO N Ls dn la) last := by
  have hN := hM.2.2.1
  have nb := hN.nb
  have h4 := hT.2.2
  refine ⟨mI_s, by omega, fun o => (by cases o), fun _ => ⟨fun k hk => ?_, fun i hi => hL.1 i hi, fun r hr => ?_, ⟨(N 11 0).toNat, by omega, ?_, fun b hb => ?_, fun b hb hb3 => ?_⟩, fun f hf => ?_, fun i _ => wO_zB hN hd hla i⟩, fun k hk => hT.2.1 k (by omega)⟩
  · rw [mI_a (by omega), mI_a (by omega)]; exact hT.1 k (by omega)
  · rw [mI_a (by omega), wO_4 hr]; exact (hM.2.1.2.1 r hr).2.1
  · rw [mI_a (by omega), hM.2.1.1.1, Int.toNat_of_nonneg (by omega)]
  · rw [mI_a (by omega), wO_8 (by omega), if_pos (by omega)]; exact (hM.2.1.2.2.2.1 b (by omega)).1
  · rw [wO_8 hb3, if_neg (by omega)]
  · rw [mI_a (by omega)]; exact hL.2 f hf
theorem s_sumX {j : Nat} (hS : ShOK S B) (h53 : mI MM (B + 105) 53 = iI 1) {v : Int32} : F_Mo_sumOf n E S (B + 105) v MM = some (iI (-1), MM) := by
  unfold F_Mo_sumOf
  rw [hS.i105, obs, h53, if_neg (show ¬ iI 1 = 0 by decide)]
  rfl
theorem s_sumE (hS : ShOK S B) {j : Nat} (hj : j + 1 < 96) {a : Int} (h1 : mI MM (B + 134) j = iI a) (h2 : mI MM (B + 134) (j + 1) = iI a) (h53 : mI MM (B + 105) 53 = iI 0) : F_Mo_sumOf n E S (B + 105) (iI (j : Int)) MM = some (iI (-1), MM) := by
  unfold F_Mo_sumOf
  rw [hS.i105, obs, h53, if_pos (show iI 0 = 0 by decide), hS.g105_49, obs, hS.r134 (by omega) (by omega), obs, iL1, iI_add, hS.r134 (by omega) (by omega), obs, Int.toNat_natCast, show ((j : Int) + 1).toNat = j + 1 by omega, h1, h2, if_pos rfl]
  rfl
theorem s_sumOf (hS : ShOK S B) (hn : 1000 ≤ n) {N : Nt} {dn la : Int} (hM : MN MM B N Ls) (hL : LD MM B (wO N Ls dn la)) (hT : MT MM B mo ma nc) (hd : 0 ≤ dn ∧ dn ≤ 1000) (hla : -1 ≤ la ∧ la ≤ 1000) {j : Nat} (hj : j + 1 < 96) {a b : Nat} (h1 : mI MM (B + 134) j = iI (a : Int)) (h2 : mI MM (B + 134) (j + 1) = iI (b : Int)) (h53 : mI MM (B + 105) 53 = iI 0) {f : Fn} (hs : sgM true mo ma (fun _ => True) a b 50 f) (hb : b ≤ nc) : ∃ MM' r, F_Mo_sumOf n E S (B + 105) (iI (j : Int)) MM = some (r, MM') ∧ zAg (smX B) MM MM' ∧ mI MM' (B + 105) 20 = 0 ∧ (f (wO N Ls dn la) = none → mI MM' (B + 105) 53 = iI 1) ∧ ∀ v, f (wO N Ls dn la) = some v → r = iI v ∧ zB v ∧ mI MM' (B + 105) 53 = iI 0 := by
  have lt := hs.lt (by omega)
  have hnc := hT.2.2
  have hmc := mcr hM hL hT hd hla hb
  have hr := hs.run (k := 500) (by omega) (by omega) (by omega) (wO N Ls dn la) trivial
  obtain ⟨M1, e1, z1, k38, k39⟩ := s_reckonAll (n := n) (E := E) hS hmc (first := a) (by omega) (by omega) hr
  have zb : ∀ v, f (wO N Ls dn la) = some v → zB v := fun v hv => by
    rw [hv] at hr
    exact rM_zB (fun i _ => wO_zB hM.2.2.1 hd hla i) 500 a [] (by simp) v hr
  have c38 : mI M1 (B + 105) 38 = 0 ∨ mI M1 (B + 105) 38 = 1 := by
    rw [k38]; split
    · exact Or.inr rfl
    · exact Or.inl rfl
  have hA : zAg (smX B) MM (setI (setI M1 (B + 105) 20 0) (B + 105) 53 (mI M1 (B + 105) 38)) := (((zAg.rfl'.setI (Or.inr ⟨rfl, Or.inl rfl⟩)).trans (z1.mono (fun b j q => Or.inl q))).setI (Or.inr ⟨rfl, Or.inl rfl⟩)).setI (Or.inr ⟨rfl, Or.inr rfl⟩)
  refine ⟨_, (mJ M1 (B + 105) 39).toInt32, ?_, hA, by rw [mI_i (by decide), mI_s], fun e => ?_, fun v e => ⟨?_, zb v e, ?_⟩⟩
  · unfold F_Mo_sumOf
    rw [hS.i105, obs, h53, if_pos (show iI 0 = 0 by decide), hS.g105_49, obs, hS.r134 (by omega) (by omega), obs, iL1, iI_add, hS.r134 (by omega) (by omega), obs, Int.toNat_natCast, show ((j : Int) + 1).toNat = j + 1 by omega, h1, h2, if_neg (ceqF (by omega) (by omega) (by omega) (by omega) (by omega)), show iI 1 = (1 : Int32) by decide, hS.z1051, obs, hS.r134 (by omega) (by omega), obs, hS.r134 (by omega) (by omega), obs, Int.toNat_natCast, show ((j : Int) + 1).toNat = j + 1 by omega, mI_a (by omega), mI_a (by omega), h1, h2, e1, obs, hS.z1050, obs, hS.i105, obs, mI_i (by decide), pz_pZ (c := 11) (hS.k 105 (by decide)) c38, obs, hS.ij105, obs]
    rfl
  · rw [mI_s, k38, if_pos e]; rfl
  · rw [k39 v e, yI]
  · rw [mI_s, k38, if_neg (by rw [e]; exact fun z => by cases z)]; rfl
end
