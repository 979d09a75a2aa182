/-! THE MODEL'S ROW -/
/-- the bits of a ring's blocked holes -/
def bmask (N : Nt) (r : Nat) : Int := N 1 (8 * r) + 2 * N 1 (8 * r + 1) + 4 * N 1 (8 * r + 2) + 8 * N 1 (8 * r + 3) + 16 * N 1 (8 * r + 4) + 32 * N 1 (8 * r + 5) + 64 * N 1 (8 * r + 6) + 128 * N 1 (8 * r + 7)
def RwN (R : Nat → Int32) (N : Nt) : Prop :=
  (R 0 = iI (N 11 0) ∧ R 1 = iI (N 12 0) ∧ R 2 = iI (N 13 0) ∧ R 3 = iI (N 14 0)) ∧ (∀ k, k < 4 → R (4 + k) = iI (N 9 k) ∧ R (8 + k) = iI (N 2 k) ∧ R (44 + k) = iI (bmask N k)) ∧ (∀ k, k < 32 → R (12 + k) = iI (N 0 k)) ∧ (∀ k, k < 3 → R (48 + k) = iI (N 4 k) ∧ R (51 + k) = iI (N 5 k) ∧ R (54 + k) = iI (N 3 k)) ∧ (∀ k, k < 8 → R (57 + k) = iI (N 6 k)) ∧ (∀ k, k < 6 → R (65 + 2 * k) = iI (N 7 k) ∧ R (65 + 2 * k + 1) = iI (N 8 k))
/-- what a clause of the model's code tells; none: stuck -/
noncomputable def cvM (mo ma hd : Nat → Int) (sg : Nat → Nat → Nat) (c : Nat) (w : Nat → Int) : Option (Option Int) :=
  match (if sg c 5 < sg c 6 then rM false mo ma w (sg c 6) 500 (sg c 5) [] else some (some 1)) with
  | none => none
  | some none => some none
  | some (some v) => if v = 0 then some none else if hd c = 3 then some (some 1) else rM false mo ma w (sg c 4) 500 (sg c 3) []
/-- a law in the model's row -/
def RwL (R : Nat → Int32) (j : Nat) (L : Lw) : Prop := ∃ (nc ncd : Nat) (hd : Nat → Int) (sg : Nat → Nat → Nat) (mo ma : Nat → Int), R (80 + 900 * j + 1) = iI (nc : Int) ∧ nc ≤ 12 ∧ ncd ≤ 400 ∧
  (∀ c, c < nc → R (80 + 900 * j + 2 + 8 * c) = iI (hd c) ∧ 0 ≤ hd c ∧ hd c ≤ 3 ∧ ∀ p, 3 ≤ p → p < 7 → R (80 + 900 * j + 2 + 8 * c + p) = iI (sg c p : Int) ∧ sg c p ≤ ncd) ∧
  (∀ k, k < ncd → R (80 + 900 * j + 98 + 2 * k) = iI (mo k) ∧ R (80 + 900 * j + 98 + 2 * k + 1) = iI (ma k) ∧ 0 ≤ mo k ∧ mo k ≤ 30 ∧ 0 ≤ ma k ∧ ma k ≤ 1000) ∧
  L.1 = nc ∧ (∀ c, c < nc → L.2.1 c = hd c) ∧ ∀ c, c < nc → ∀ w : Nat → Int, (∀ i, i < 9 → zB (w i)) → cvM mo ma hd sg c w = some (L.2.2 c w)
/-- the model's night -/
def MN (M : zH) (B : Nat) (N : Nt) (Ls : Nat → Lw) : Prop := mI M (B + 105) 20 = 0 ∧ RwN (mI M (B + 107)) N ∧ NdOK N ∧ ∀ j : Nat, j < 6 → (j : Int) < N 13 0 → RwL (mI M (B + 107)) j (Ls j)
theorem RwN.cg {R R' : Nat → Int32} {N : Nt} (h : RwN R N) (e : ∀ i, i < 80 → R' i = R i) : RwN R' N := by
  obtain ⟨⟨h1, h2, h3, h4⟩, h5, h6, h7, h8, h9⟩ := h
  refine ⟨⟨by rw [e _ (by omega)]; exact h1, by rw [e _ (by omega)]; exact h2, by rw [e _ (by omega)]; exact h3, by rw [e _ (by omega)]; exact h4⟩, fun k hk => ?_, fun k hk => ?_, fun k hk => ?_, fun k hk => ?_, fun k hk => ?_⟩
  · rw [e _ (by omega), e _ (by omega), e _ (by omega)]; exact h5 k hk
  · rw [e _ (by omega)]; exact h6 k hk
  · rw [e _ (by omega), e _ (by omega), e _ (by omega)]; exact h7 k hk
  · rw [e _ (by omega)]; exact h8 k hk
  · rw [e _ (by omega), e _ (by omega)]; exact h9 k hk
theorem RwL.cg {R R' : Nat → Int32} {j : Nat} {L : Lw} (h : RwL R j L) (e : ∀ i, 80 + 900 * j ≤ i → i < 80 + 900 * j + 900 → R' i = R i) : RwL R' j L := by
  obtain ⟨nc, ncd, hd, sg, mo, ma, h1, h2, h3, h4, h5, h6⟩ := h
  refine ⟨nc, ncd, hd, sg, mo, ma, by rw [e _ (by omega) (by omega)]; exact h1, h2, h3, fun c hc => ?_, fun k hk => ?_, h6⟩
  · rw [e _ (by omega) (by omega)]
    refine ⟨(h4 c hc).1, (h4 c hc).2.1, (h4 c hc).2.2.1, fun p hp hp2 => ?_⟩
    rw [e _ (by omega) (by omega)]; exact (h4 c hc).2.2.2 p hp hp2
  · rw [e _ (by omega) (by omega), e _ (by omega) (by omega)]; exact h5 k hk
section
variable {R : Nat → Int32} {N : Nt}
theorem RwN.nb (h : RwN R N) : R 0 = iI (N 11 0) := h.1.1
theorem RwN.ns (h : RwN R N) : R 1 = iI (N 12 0) := h.1.2.1
theorem RwN.nl (h : RwN R N) : R 2 = iI (N 13 0) := h.1.2.2.1
theorem RwN.fo (h : RwN R N) : R 3 = iI (N 14 0) := h.1.2.2.2
theorem RwN.hour (h : RwN R N) : R 4 = iI (N 9 0) := (h.2.1 0 (by decide)).1
theorem RwN.wet (h : RwN R N) : R 5 = iI (N 9 1) := (h.2.1 1 (by decide)).1
theorem RwN.mood (h : RwN R N) : R 6 = iI (N 9 2) := (h.2.1 2 (by decide)).1
theorem RwN.rust (h : RwN R N) : R 7 = iI (N 9 3) := (h.2.1 3 (by decide)).1
theorem RwN.term (h : RwN R N) {x : Int} (h0 : 0 ≤ x) (h1 : x < 4) : R (4 + x).toNat = iI (N 9 x.toNat) := by
  rw [show (4 + x).toNat = 4 + x.toNat by omega]; exact (h.2.1 _ (by omega)).1
theorem RwN.turn (h : RwN R N) {x : Int} (h0 : 0 ≤ x) (h1 : x < 4) : R (8 + x).toNat = iI (N 2 x.toNat) := by
  rw [show (8 + x).toNat = 8 + x.toNat by omega]; exact (h.2.1 _ (by omega)).2.1
theorem RwN.blk (h : RwN R N) {x : Int} (h0 : 0 ≤ x) (h1 : x < 4) : R (44 + x).toNat = iI (bmask N x.toNat) := by
  rw [show (44 + x).toNat = 44 + x.toNat by omega]; exact (h.2.1 _ (by omega)).2.2
theorem RwN.bore (h : RwN R N) {x y : Int} (h0 : 0 ≤ x) (h1 : x < 4) (h2 : 0 ≤ y) (h3 : y < 8) : R (12 + 8 * x + y).toNat = iI (N 0 (x * 8 + y).toNat) := by
  rw [show (12 + 8 * x + y).toNat = 12 + (x * 8 + y).toNat by omega]; exact h.2.2.1 _ (by omega)
theorem RwN.lev (h : RwN R N) {x : Int} (h0 : 0 ≤ x) (h1 : x < 3) : R (48 + x).toNat = iI (N 4 x.toNat) := by
  rw [show (48 + x).toNat = 48 + x.toNat by omega]; exact (h.2.2.2.1 _ (by omega)).1
theorem RwN.fie (h : RwN R N) {x : Int} (h0 : 0 ≤ x) (h1 : x < 3) : R (51 + x).toNat = iI (N 5 x.toNat) := by
  rw [show (51 + x).toNat = 51 + x.toNat by omega]; exact (h.2.2.2.1 _ (by omega)).2.1
theorem RwN.siz (h : RwN R N) {x : Int} (h0 : 0 ≤ x) (h1 : x < 3) : R (54 + x).toNat = iI (N 3 x.toNat) := by
  rw [show (54 + x).toNat = 54 + x.toNat by omega]; exact (h.2.2.2.1 _ (by omega)).2.2
theorem RwN.want (h : RwN R N) {x : Int} (h0 : 0 ≤ x) (h1 : x < 8) : R (57 + x).toNat = iI (N 6 x.toNat) := by
  rw [show (57 + x).toNat = 57 + x.toNat by omega]; exact h.2.2.2.2.1 _ (by omega)
theorem RwN.sf (h : RwN R N) {x : Int} (h0 : 0 ≤ x) (h1 : x < 6) : R (65 + 2 * x).toNat = iI (N 7 x.toNat) := by
  rw [show (65 + 2 * x).toNat = 65 + 2 * x.toNat by omega]; exact (h.2.2.2.2.2 _ (by omega)).1
theorem RwN.st (h : RwN R N) {x : Int} (h0 : 0 ≤ x) (h1 : x < 6) : R (65 + 2 * x + 1).toNat = iI (N 8 x.toNat) := by
  rw [show (65 + 2 * x + 1).toNat = 65 + 2 * x.toNat + 1 by omega]; exact (h.2.2.2.2.2 _ (by omega)).2
end
section
variable {n : Nat} {E : zE} {S : zS} {M : zH} {B : Nat} {N : Nt} {Ls : Nat → Lw}
theorem MN.ag {X : Nat → Nat → Prop} {M' : zH} (h : MN M B N Ls) (hA : zAg X M M') (h1 : ∀ j, ¬ X (B + 107) j) (h2 : ¬ X (B + 105) 20) : MN M' B N Ls :=
  ⟨by rw [(hA _ _ h2).1]; exact h.1, h.2.1.cg (fun i _ => (hA _ _ (h1 i)).1), h.2.2.1, fun j hj hl => (h.2.2.2 j hj hl).cg (fun i _ _ => (hA _ _ (h1 i)).1)⟩
theorem NdOK.b01 (hN : NdOK N) {k : Nat} (hk : k < 32) : 0 ≤ N 1 k ∧ N 1 k ≤ 1 := by have := hN.blk hk; omega
theorem bmask_b (hN : NdOK N) {r : Nat} (hr : r < 4) : 0 ≤ bmask N r ∧ bmask N r < 256 := by
  have h0 := hN.b01 (k := 8 * r) (by omega)
  have h1 := hN.b01 (k := 8 * r + 1) (by omega)
  have h2 := hN.b01 (k := 8 * r + 2) (by omega)
  have h3 := hN.b01 (k := 8 * r + 3) (by omega)
  have h4 := hN.b01 (k := 8 * r + 4) (by omega)
  have h5 := hN.b01 (k := 8 * r + 5) (by omega)
  have h6 := hN.b01 (k := 8 * r + 6) (by omega)
  have h7 := hN.b01 (k := 8 * r + 7) (by omega)
  unfold bmask
  omega
theorem bmask_bit (hN : NdOK N) {r h : Nat} (hr : r < 4) (hh : h < 8) : bmask N r / 2 ^ h % 2 = N 1 (8 * r + h) := by
  have h0 := hN.b01 (k := 8 * r) (by omega)
  have h1 := hN.b01 (k := 8 * r + 1) (by omega)
  have h2 := hN.b01 (k := 8 * r + 2) (by omega)
  have h3 := hN.b01 (k := 8 * r + 3) (by omega)
  have h4 := hN.b01 (k := 8 * r + 4) (by omega)
  have h5 := hN.b01 (k := 8 * r + 5) (by omega)
  have h6 := hN.b01 (k := 8 * r + 6) (by omega)
  have h7 := hN.b01 (k := 8 * r + 7) (by omega)
  unfold bmask
  rcases (show h = 0 ∨ h = 1 ∨ h = 2 ∨ h = 3 ∨ h = 4 ∨ h = 5 ∨ h = 6 ∨ h = 7 by omega) with rfl | rfl | rfl | rfl | rfl | rfl | rfl | rfl
  · show _ / 1 % 2 = N 1 (8 * r); omega
  · show _ / 2 % 2 = _; omega
  · show _ / 4 % 2 = _; omega
  · show _ / 8 % 2 = _; omega
  · show _ / 16 % 2 = _; omega
  · show _ / 32 % 2 = _; omega
  · show _ / 64 % 2 = _; omega
  · show _ / 128 % 2 = _; omega
theorem s_is (hN : NdOK N) {r : Nat} {h : Int} (hr : r < 4) (h0 : 0 ≤ h) (h8 : h < 8) : F_Mo_is n E S (iI (bmask N r)) (iI h) M = some (decide (N 1 (8 * r + h.toNat) = 1), M) := by
  have hb := bmask_b hN hr
  have e := bmask_bit hN hr (show h.toNat < 8 by omega)
  have hk := hN.blk (k := 8 * r + h.toNat) (by omega)
  unfold F_Mo_is
  rw [show (31 : Int32) = iI 31 from rfl, xshr h0 (by omega) (by omega) (by omega), iL1, xand1, e]
  simp (disch := omega) only [xeq]
  by_cases c : N 1 (8 * r + h.toNat) = 1
  · rw [if_pos c, decide_eq_true c]
  · rw [if_neg c, decide_eq_false c]
theorem s_mholeAbove {a0 : Nat} {x1 : Int32} {f t : Int} (h0 : 0 ≤ f) (h1 : f < 8) (h2 : 0 ≤ t) (h3 : t < 8) : F_Mo_holeAbove n E S a0 x1 (iI f) (iI t) M = some (iI ((f - t) % 8), M) := by
  unfold F_Mo_holeAbove
  rw [iL8, iI_add, iI_sub, iI_remI (zR_of (by omega) (by omega)) (by omega) (by omega), Option.bind_some, Int.tmod_eq_emod_of_nonneg (by omega), show (f + 8 - t) % 8 = (f - t) % 8 by omega]
theorem s_mwithin {v lo hi : Int} (hv1 : -9223372036854775808 ≤ v) (hv2 : v < 9223372036854775808) (h1 : -1000 ≤ lo) (h2 : lo ≤ hi) (h3 : hi ≤ 1000) : F_Mo_within n E S (jJ v) (iI lo) (iI hi) M = some (iI (max lo (min v hi)), M) := by
  unfold F_Mo_within
  simp (disch := omega) only [xJ, yle, yI]
  by_cases c1 : lo ≤ v
  · rw [if_pos c1]
    by_cases c2 : v ≤ hi
    · rw [if_pos c2, show max lo (min v hi) = v by omega]
    · rw [if_neg c2, show max lo (min v hi) = hi by omega]
  · rw [if_neg c1, show max lo (min v hi) = lo by omega]
/-- all of the code from first to last -/
theorem s_reckonAll (hS : ShOK S B) {ord : Bool} {mo ma w : Nat → Int} {first last : Nat} (hM : McR M B ord mo ma w last) (hf : first ≤ 400) (hn : 600 ≤ n) {r : Option Int} (hr : rM ord mo ma w last 500 first [] = some r) :
    ∃ M', F_Mo_reckonAll n E S (B + 105) (iI (first : Int)) (iI (last : Int)) M = some M' ∧ zAg (rkX B) M M' ∧ mI M' (B + 105) 38 = (if r = none then 1 else 0) ∧ ∀ v, r = some v → mJ M' (B + 105) 39 = jJ v := by
  have hl := hM.2.1
  have A : zAg (rkX B) M (setI M (B + 105) 38 0) := zAg.rfl'.setI (Or.inr ⟨rfl, Or.inl rfl⟩)
  unfold F_Mo_reckonAll
  rw [hS.z1050, Option.bind_some]
  unfold F_Mo_reckonAll_b10
  obtain ⟨M', e, hA, h2⟩ := rk_run (n := n) (E := E) hS 500 n first [] _ (by omega) (by omega) (hM.ag A) trivial (by simp) (by omega) mI_s r hr
  exact ⟨M', e, A.trans hA, h2⟩
theorem rM_zB {ord : Bool} {mo ma w : Nat → Int} {last : Nat} (hw : ∀ i, i < 19 → zB (w i)) : ∀ (f k : Nat) (s : List Int), (∀ v ∈ s, zB v) → ∀ v, rM ord mo ma w last f k s = some (some v) → zB v := by
  intro f
  induction f with
  | zero => intro k s _ v h; unfold rM at h; cases h
  | succ f ih =>
    intro k s hs v h
    unfold rM at h
    split at h
    · rcases s with _ | ⟨a, _ | ⟨b, s⟩⟩
      · cases h
      · cases h; exact hs v (by simp)
      · cases h
    split at h
    · by_cases c : lv ord (mo k) (ma k) ∧ s.length < 400
      · rw [if_pos c] at h
        refine ih _ _ (fun u hu => ?_) v h
        rcases List.mem_cons.mp hu with rfl | hu
        · obtain ⟨⟨v0, v1, v2, v3⟩, _⟩ := c
          by_cases c0 : mo k = 0
          · rw [if_pos c0]; exact ⟨by omega, by omega⟩
          rw [if_neg c0]
          cases ord with
          | false =>
            have hle : mo k ≤ 9 := by
              rcases v3 with v3 | ⟨_, v3⟩ | ⟨v3, _⟩
              · omega
              · exact v3
              · cases v3
            exact hw (mo k - 1).toNat (by omega)
          | true =>
            have v3 : mo k < 5 ∨ (mo k = 5 ∧ ma k < 4) ∨ (mo k = 6 ∧ ma k < 3) ∨ (mo k = 7 ∧ ma k < 8) := by
              rcases v3 with v3 | ⟨v3, _⟩ | ⟨_, v3⟩
              · omega
              · cases v3
              · exact v3
            refine hw _ ?_
            show (if mo k < 5 then (mo k - 1).toNat else if mo k = 5 then 4 + (ma k).toNat else if mo k = 6 then 8 + (ma k).toNat else 11 + (ma k).toNat) < 19
            split
            · omega
            split
            · omega
            split <;> omega
        · exact hs u hu
      · rw [if_neg c] at h; cases h
    split at h
    · rcases s with _ | ⟨b, _ | ⟨a, s2⟩⟩
      · cases h
      · cases h
      simp only at h
      split at h
      · cases h
      · rename_i u hu
        have := cRg_zR hu
        exact ih _ _ (fun x hx => by
          rcases List.mem_cons.mp hx with rfl | hx
          · exact this
          · exact hs x (List.mem_cons_of_mem _ (List.mem_cons_of_mem _ hx))) v h
    split at h
    · rcases s with _ | ⟨b, s1⟩
      · cases h
      simp only at h
      split at h
      · exact ih _ _ (fun x hx => by
          rcases List.mem_cons.mp hx with rfl | hx
          · constructor <;> omega
          · exact hs x (List.mem_cons_of_mem _ hx)) v h
      · cases h
    rcases s with _ | ⟨b, s1⟩
    · cases h
    simp only at h
    by_cases c1 : b = (if mo k = 29 then 0 else 1)
    · rw [if_pos c1] at h
      by_cases c2 : (k : Int) < ma k ∧ ma k ≤ 400
      · rw [if_pos c2] at h
        exact ih _ _ hs v h
      · rw [if_neg c2] at h
        cases h
    · rw [if_neg c1] at h
      exact ih _ _ (fun x hx => hs x (List.mem_cons_of_mem _ hx)) v h
end
