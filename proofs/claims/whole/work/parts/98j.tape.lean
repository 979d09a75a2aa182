/-! CASES (8): feed, end, row -/
/-- byte k of a number, the highest first -/
def byt (v : Int) (k : Nat) : Int := v / 2 ^ (24 - 8 * k) % 256
theorem byt_b (v : Int) (k : Nat) : 0 ≤ byt v k ∧ byt v k < 256 := by unfold byt; omega
theorem nar8 {y : Int} (h : zR y) : vp_nar .byte ((iI y).toInt8.toInt32) = iI (sgb (y % 256)) := by
  have e1 : ((iI y).toInt8.toInt32) = iI (sgb (y % 256)) := by
    apply Int32.toInt_inj.mp
    rw [Int8.toInt_toInt32, Int32.toInt_toInt8, iI_toInt h, iI_toInt (zR_of (by unfold sgb; split <;> omega) (by unfold sgb; split <;> omega))]
    unfold sgb
    rw [Int.bmod_def]
    show (if y % (256 : Nat) < ((256 : Nat) + 1) / 2 then y % (256 : Nat) else y % (256 : Nat) - (256 : Nat)) = _
    split <;> split <;> omega
  rw [e1]
  have h1 : 0 ≤ y % 256 ∧ y % 256 < 256 := by omega
  obtain ⟨k, hk⟩ : ∃ k : Fin 256, y % 256 = (k.val : Int) := ⟨⟨(y % 256).toNat, by omega⟩, by show y % 256 = (((y % 256).toNat : Nat) : Int); omega⟩
  rw [hk]
  have : ∀ k : Fin 256, vp_nar .byte (iI (sgb (k.val : Int))) = iI (sgb (k.val : Int)) := by decide +kernel
  exact this k
theorem sgb_and {t : Int} (h0 : 0 ≤ t) (h1 : t < 256) : iI (sgb t) &&& iI 255 = iI t := by
  rw [xand255]
  congr 1
  unfold sgb
  split <;> omega
theorem zR_shr {v : Int} (h : zR v) (k : Nat) : zR (v / 2 ^ k) := by
  have hp : (1 : Int) ≤ 2 ^ k := by
    have : 1 ≤ 2 ^ k := Nat.one_le_two_pow
    exact_mod_cast this
  obtain ⟨h1, h2⟩ := h
  constructor
  · rw [Int.le_ediv_iff_mul_le (by omega)]
    have : (-2147483648 : Int) * 2 ^ k ≤ -2147483648 * 1 := Int.mul_le_mul_of_nonpos_left (by decide) hp
    omega
  · rw [Int.ediv_lt_iff_lt_mul (by omega)]
    have : (2147483648 : Int) * 1 ≤ 2147483648 * 2 ^ k := Int.mul_le_mul_of_nonneg_left hp (by decide)
    omega
section
variable {n : Nat} {E : zE} {S : zS} {M : zH} {B : Nat} {N : Nt} {Ls : Nat → Lw}
theorem s_addFour (hS : ShOK S B) (hn : 100 ≤ n) {l : Nat} (hl : l + 4 ≤ 400) (h67 : mI M (B + 67) 1 = iI (l : Int)) {v : Int} (hv : zR v) : ∃ M', F_Ta_addFour n E S (B + 67) (iI v) M = some M' ∧ mI M' (B + 67) 1 = iI ((l + 4 : Nat) : Int) ∧ (∀ k, k < 4 → mI M' (B + 68) (l + k) = iI (sgb (byt v k))) ∧ zAg (fun b j => (b = B + 67 ∧ j = 1) ∨ (b = B + 68 ∧ l ≤ j ∧ j < l + 4)) M M' := by
  unfold F_Ta_addFour F_Ta_addFour_b3
  obtain ⟨s', m, ⟨M1, hs', h1, h2, hA1⟩, e⟩ := zfix_inv (F := fun r3 s => F_Ta_addFour_L3 n E S r3 s.1 s.2.1 s.2.2.1 s.2.2.2) (fun i s => ∃ M1, s = (B + 67, iI v, iI (24 - 8 * (i : Int)), M1) ∧ mI M1 (B + 67) 1 = iI ((l + i : Nat) : Int) ∧ (∀ k, k < i → mI M1 (B + 68) (l + k) = iI (sgb (byt v k))) ∧ zAg (fun b j => (b = B + 67 ∧ j = 1) ∨ (b = B + 68 ∧ l ≤ j ∧ j < l + 4)) M M1) 4 (fun i hi s hI => by
    obtain ⟨M1, rfl, h1, h2, hA1⟩ := hI
    refine ⟨(B + 67, iI v, iI (24 - 8 * ((i + 1 : Nat) : Int)), setI (setI M1 (B + 68) (l + i) (iI (sgb (byt v i)))) (B + 67) 1 (iI ((l + (i + 1) : Nat) : Int))), ⟨_, rfl, by rw [mI_s], fun k hk => ?_, (hA1.setI (Or.inr ⟨rfl, by omega, by omega⟩)).setI (Or.inl ⟨rfl, rfl⟩)⟩, fun rec => ?_⟩
    · rw [mI_a (by omega), mI_ite]
      by_cases c : k = i
      · rw [if_pos ⟨rfl, by omega⟩, c]
      · rw [if_neg (fun q => c (by omega)), h2 k (by omega)]
    · show F_Ta_addFour_L3 n E S rec (B + 67) (iI v) (iI (24 - 8 * (i : Int))) M1 = _
      unfold F_Ta_addFour_L3
      have en : vp_nar .byte ((iI (v / 2 ^ (24 - 8 * (i : Int)).toNat)).toInt8.toInt32) = iI (sgb (byt v i)) := by
        rw [nar8 (zR_shr hv _)]
        unfold byt
        rw [show (24 - 8 * (i : Int)).toNat = 24 - 8 * i by omega]
      rw [iL0, if_neg (cltF (by omega) (by omega) (by omega)), hS.i67, obs, h1, iL400, if_neg (cleF (by omega) (by omega) (by omega)), hS.g67_0, obs, obs, iL31, xshr (by omega) (by omega) hv.1 hv.2, hS.w68 (by omega) (by omega), obs, hS.i67, obs, mI_a (by omega), h1, iL1, iI_add, hS.p67, obs, en, show (-8 : Int32) = iI (-8) by decide, iI_add, Int.toNat_natCast, show (24 - 8 * (i : Int) + -8) = 24 - 8 * ((i + 1 : Nat) : Int) by omega, show (((l + i : Nat) : Int) + 1) = ((l + (i + 1) : Nat) : Int) by omega]) n 0 (B + 67, iI v, 24, M) (by omega) (by omega) ⟨M, rfl, h67, fun k hk => by omega, zAg.rfl'⟩
  refine ⟨M1, ?_, h1, h2, hA1⟩
  rw [e, hs']
  show F_Ta_addFour_L3 n E S _ (B + 67) (iI v) (iI (24 - 8 * ((4 : Nat) : Int))) M1 = _
  unfold F_Ta_addFour_L3
  rw [if_pos (by decide)]
theorem s_four (hS : ShOK S B) (hn : 100 ≤ n) {l : Nat} (hl : l + 4 ≤ 400) (h13 : mI M (B + 105) 13 = iI (l : Int)) {v : Int} (hv : zR v) : ∃ M', F_Mo_four n E S (B + 105) (iI v) M = some M' ∧ mI M' (B + 105) 13 = iI ((l + 4 : Nat) : Int) ∧ (∀ k, k < 4 → mI M' (B + 114) (l + k) = iI (byt v k)) ∧ zAg (fun b j => (b = B + 105 ∧ j = 13) ∨ (b = B + 114 ∧ l ≤ j ∧ j < l + 4)) M M' := by
  unfold F_Mo_four F_Mo_four_b3
  obtain ⟨s', m, ⟨M1, hs', h1, h2, hA1⟩, e⟩ := zfix_inv (F := fun r3 s => F_Mo_four_L3 n E S r3 s.1 s.2.1 s.2.2.1 s.2.2.2) (fun i s => ∃ M1, s = (B + 105, iI v, iI (24 - 8 * (i : Int)), M1) ∧ mI M1 (B + 105) 13 = iI ((l + i : Nat) : Int) ∧ (∀ k, k < i → mI M1 (B + 114) (l + k) = iI (byt v k)) ∧ zAg (fun b j => (b = B + 105 ∧ j = 13) ∨ (b = B + 114 ∧ l ≤ j ∧ j < l + 4)) M M1) 4 (fun i hi s hI => by
    obtain ⟨M1, rfl, h1, h2, hA1⟩ := hI
    refine ⟨(B + 105, iI v, iI (24 - 8 * ((i + 1 : Nat) : Int)), setI (setI M1 (B + 114) (l + i) (iI (byt v i))) (B + 105) 13 (iI ((l + (i + 1) : Nat) : Int))), ⟨_, rfl, by rw [mI_s], fun k hk => ?_, (hA1.setI (Or.inr ⟨rfl, by omega, by omega⟩)).setI (Or.inl ⟨rfl, rfl⟩)⟩, fun rec => ?_⟩
    · rw [mI_a (by omega), mI_ite]
      by_cases c : k = i
      · rw [if_pos ⟨rfl, by omega⟩, c]
      · rw [if_neg (fun q => c (by omega)), h2 k (by omega)]
    · show F_Mo_four_L3 n E S rec (B + 105) (iI v) (iI (24 - 8 * (i : Int))) M1 = _
      unfold F_Mo_four_L3
      have en : iI (v / 2 ^ (24 - 8 * (i : Int)).toNat) &&& iI 255 = iI (byt v i) := by
        rw [xand255]
        unfold byt
        rw [show (24 - 8 * (i : Int)).toNat = 24 - 8 * i by omega]
      rw [iL0, if_neg (cltF (by omega) (by omega) (by omega)), hS.g105_12, obs, hS.i105, obs, h1, iL31, xshr (by omega) (by omega) hv.1 hv.2, iL255, en, hS.w114 (by omega) (by omega), obs, hS.i105, obs, mI_a (by omega), h1, iL1, iI_add, hS.p105, obs, show (-8 : Int32) = iI (-8) by decide, iI_add, Int.toNat_natCast, show (24 - 8 * (i : Int) + -8) = 24 - 8 * ((i + 1 : Nat) : Int) by omega, show (((l + i : Nat) : Int) + 1) = ((l + (i + 1) : Nat) : Int) by omega]) n 0 (B + 105, iI v, 24, M) (by omega) (by omega) ⟨M, rfl, h13, fun k hk => by omega, zAg.rfl'⟩
  refine ⟨M1, ?_, h1, h2, hA1⟩
  rw [e, hs']
  show F_Mo_four_L3 n E S _ (B + 105) (iI v) (iI (24 - 8 * ((4 : Nat) : Int))) M1 = _
  unfold F_Mo_four_L3
  rw [if_pos (by decide)]
theorem c_end (h : Inv S M B) {x : Int} (hx : zR x) : Ag1 S B M (fun M => F_NC_end n E S (B + 0) (iI x) M) (fun M => F_Mo_end n E S (B + 105) (iI x) M) := by
  obtain ⟨hS, hZ, hnow, hI0, hI1, hT, hMi, hY, hCo⟩ := id h
  obtain ⟨l, tb, h1, h2, h3, h4⟩ := hT
  have hx1 := hx.1
  have hx2 := hx.2
  by_cases c : 0 ≤ x ∧ x ≤ l
  · have hA : zAg (fun b j => (b = B + 67 ∧ j = 1) ∨ (b = B + 105 ∧ (j = 0 ∨ j = 13))) M (setI (setI (setI M (B + 67) 1 (iI x)) (B + 105) 0 (iI 0)) (B + 105) 13 (iI x)) := ((zAg.rfl'.setI (Or.inl ⟨rfl, rfl⟩)).setI (Or.inr ⟨rfl, Or.inl rfl⟩)).setI (Or.inr ⟨rfl, Or.inr rfl⟩)
    refine ⟨iI x, setI M (B + 67) 1 (iI x), _, ?_, ?_, h.updG (hA.mono (fun b j q => by unfold gX; omega)) (Now.ag hnow hA (fun b j q => by omega)) ⟨x.toNat, tb, by omega, ?_, ?_, fun k hk => ?_⟩ (hMi.ag hA (fun j _ _ q => by omega) (fun j _ q => by omega) (fun j q => by omega) (fun j q => by omega))⟩
    · show F_NC_end n E S (B + 0) (iI x) M = _
      unfold F_NC_end
      rw [hS.g0_7, obs, hS.i67, obs, h2, iL0, s_withinI hx (zR_of (by omega) (by omega)) (zR_of (by omega) (by omega)), obs, if_pos (decide_eq_true c), hS.p67, obs]
    · show F_Mo_end n E S (B + 105) (iI x) _ = _
      unfold F_Mo_end
      rw [iL0, hS.p105, obs, if_neg (cltF (by omega) (by omega) (by omega)), hS.i105, obs, mI_i (by decide), mI_a (by omega), h3, if_pos (cleT (by omega) (by omega) (by omega)), hS.p105, obs]
    · rw [mI_a (by omega), mI_a (by omega), mI_s, show ((x.toNat : Nat) : Int) = x by omega]
    · rw [mI_s, show ((x.toNat : Nat) : Int) = x by omega]
    · obtain ⟨g1, g2, g3, g4⟩ := h4 k (by omega)
      exact ⟨g1, g2, by rw [(hA _ _ (fun q => by omega)).1]; exact g3, by rw [(hA _ _ (fun q => by omega)).1]; exact g4⟩
  · refine Ag1.same h (iI (-1)) ?_ ?_
    · show F_NC_end n E S (B + 0) (iI x) M = _
      unfold F_NC_end
      rw [hS.g0_7, obs, hS.i67, obs, h2, iL0, s_withinI hx (zR_of (by omega) (by omega)) (zR_of (by omega) (by omega)), obs, if_neg (fun q => c (of_decide_eq_true q))]
      rfl
    · show F_Mo_end n E S (B + 105) (iI x) _ = _
      unfold F_Mo_end
      rw [iL0, hS.p105, obs]
      by_cases c0 : x < 0
      · rw [if_pos (cltT (by omega) (by omega) (by omega))]; rfl
      · rw [if_neg (cltF (by omega) (by omega) (by omega)), hS.i105, obs, mI_i (by decide), h3, if_neg (cleF (by omega) (by omega) (by omega))]; rfl
theorem c_feed (h : Inv S M B) (hn : 100000 ≤ n) {a b c d e : Int} (ha : zR a) (hb : zR b) (hc : zR c) (hd : zR d) (he : zR e) : Ag1 S B M (fun M => F_NC_feed n E S (B + 0) (iI a) (iI b) (iI c) (iI d) (iI e) M) (fun M => F_Mo_feed n E S (B + 105) (iI a) (iI b) (iI c) (iI d) (iI e) M) := by
  obtain ⟨hS, hZ, hnow, hI0, hI1, hT, hMi, hY, hCo⟩ := id h
  obtain ⟨l, tb, h1, h2, h3, h4⟩ := hT
  by_cases cl : l + 20 ≤ 400
  · obtain ⟨M1, e1, g1, k1, A1⟩ := s_addFour (n := n) (E := E) hS (by omega) (l := l) (by omega) h2 ha
    obtain ⟨M2, e2, g2, k2, A2⟩ := s_addFour (n := n) (E := E) hS (by omega) (l := l + 4) (by omega) g1 hb
    obtain ⟨M3, e3, g3, k3, A3⟩ := s_addFour (n := n) (E := E) hS (by omega) (l := l + 4 + 4) (by omega) g2 hc
    obtain ⟨M4, e4, g4, k4, A4⟩ := s_addFour (n := n) (E := E) hS (by omega) (l := l + 4 + 4 + 4) (by omega) g3 hd
    obtain ⟨M5, e5, g5, k5, A5⟩ := s_addFour (n := n) (E := E) hS (by omega) (l := l + 4 + 4 + 4 + 4) (by omega) g4 he
    have B0 : zAg (fun b j => (b = B + 67 ∧ j = 1) ∨ (b = B + 68 ∧ l ≤ j)) M M5 := ((((A1.mono (fun b j q => by omega)).trans (A2.mono (fun b j q => by omega))).trans (A3.mono (fun b j q => by omega))).trans (A4.mono (fun b j q => by omega))).trans (A5.mono (fun b j q => by omega))
    have h13 : mI (setI M5 (B + 105) 0 (iI 0)) (B + 105) 13 = iI (l : Int) := by rw [mI_i (by decide), (B0 _ _ (fun q => by omega)).1]; exact h3
    obtain ⟨M6, e6, g6, k6, A6⟩ := s_four (n := n) (E := E) hS (by omega) (l := l) (by omega) h13 ha
    obtain ⟨M7, e7, g7, k7, A7⟩ := s_four (n := n) (E := E) hS (by omega) (l := l + 4) (by omega) g6 hb
    obtain ⟨M8, e8, g8, k8, A8⟩ := s_four (n := n) (E := E) hS (by omega) (l := l + 4 + 4) (by omega) g7 hc
    obtain ⟨M9, e9, g9, k9, A9⟩ := s_four (n := n) (E := E) hS (by omega) (l := l + 4 + 4 + 4) (by omega) g8 hd
    obtain ⟨M0, e0, g0, k0, A0⟩ := s_four (n := n) (E := E) hS (by omega) (l := l + 4 + 4 + 4 + 4) (by omega) g9 he
    have C0 : zAg (fun b j => (b = B + 105 ∧ (j = 0 ∨ j = 13)) ∨ (b = B + 114 ∧ l ≤ j)) M5 M0 := (((((zAg.rfl'.setI (Or.inl ⟨rfl, Or.inl rfl⟩)).trans (A6.mono (fun b j q => by omega))).trans (A7.mono (fun b j q => by omega))).trans (A8.mono (fun b j q => by omega))).trans (A9.mono (fun b j q => by omega))).trans (A0.mono (fun b j q => by omega))
    have D0 : zAg (fun b j => (b = B + 67 ∧ j = 1) ∨ (b = B + 68 ∧ l ≤ j) ∨ (b = B + 105 ∧ (j = 0 ∨ j = 13)) ∨ (b = B + 114 ∧ l ≤ j)) M M0 := (B0.mono (fun b j q => by omega)).trans (C0.mono (fun b j q => by omega))
    refine ⟨iI ((l + 4 + 4 + 4 + 4 + 4 : Nat) : Int), M5, M0, ?_, ?_, h.updG (D0.mono (fun b j q => by unfold gX; omega)) ?_ ?_ (hMi.ag D0 (fun j _ _ q => by omega) (fun j _ q => by omega) (fun j q => by omega) (fun j q => by omega))⟩
    · show F_NC_feed n E S (B + 0) (iI a) (iI b) (iI c) (iI d) (iI e) M = _
      unfold F_NC_feed F_Ta_hasRoomFor
      rw [hS.g0_7, obs, hS.ck67, obs, hS.i67, obs, h2, iL20, iI_add, iL400, if_neg (cltF (by omega) (by omega) (by omega)), obs, if_pos rfl, e1, obs, e2, obs, e3, obs, e4, obs, e5, obs, hS.i67, obs, g5]
    · show F_Mo_feed n E S (B + 105) (iI a) (iI b) (iI c) (iI d) (iI e) M5 = _
      unfold F_Mo_feed
      rw [iL0, hS.p105, obs, hS.i105, obs, h13, iL20, iI_add, iL400, if_pos (cleT (by omega) (by omega) (by omega)), e6, obs, e7, obs, e8, obs, e9, obs, e0, obs, hS.i105, obs, g0]
    · obtain ⟨N, Ls, hC, hM, hh, hP⟩ := hnow
      exact ⟨N, Ls, hC.ag D0 (fun b j q => by omega), hM.ag D0 (fun j q => by omega) (fun q => by omega), hh, hP.ag D0 (fun q => by omega) (fun j q => by omega) (fun q => by omega) (fun j _ q => by omega) (fun j q => by omega)⟩
    · have l68 : ∀ j, mI M0 (B + 68) j = mI M5 (B + 68) j := fun j => (C0 _ _ (fun q => by omega)).1
      refine ⟨l + 4 + 4 + 4 + 4 + 4, fun k => if k < l then tb k else if k < l + 4 then byt a (k - l) else if k < l + 8 then byt b (k - (l + 4)) else if k < l + 12 then byt c (k - (l + 8)) else if k < l + 16 then byt d (k - (l + 12)) else byt e (k - (l + 16)), by omega, ?_, g0, fun k hk => ?_⟩
      · rw [(C0 _ _ (fun q => by omega)).1]; exact g5
      · dsimp only
        rw [l68]
        by_cases c1 : k < l
        · obtain ⟨y1, y2, y3, y4⟩ := h4 k c1
          rw [if_pos c1]
          exact ⟨y1, y2, by rw [(D0 _ _ (fun q => by omega)).1]; exact y3, by rw [(B0 _ _ (fun q => by omega)).1]; exact y4⟩
        rw [if_neg c1]
        by_cases c2 : k < l + 4
        · rw [if_pos c2]
          have y := k1 (k - l) (by omega)
          have z := k6 (k - l) (by omega)
          rw [show l + (k - l) = k by omega] at y z
          exact ⟨(byt_b _ _).1, (byt_b _ _).2, by rw [(A0 _ _ (fun q => by omega)).1, (A9 _ _ (fun q => by omega)).1, (A8 _ _ (fun q => by omega)).1, (A7 _ _ (fun q => by omega)).1]; exact z, by rw [(A5 _ _ (fun q => by omega)).1, (A4 _ _ (fun q => by omega)).1, (A3 _ _ (fun q => by omega)).1, (A2 _ _ (fun q => by omega)).1]; exact y⟩
        rw [if_neg c2]
        by_cases c3 : k < l + 8
        · rw [if_pos c3]
          have y := k2 (k - (l + 4)) (by omega)
          have z := k7 (k - (l + 4)) (by omega)
          rw [show l + 4 + (k - (l + 4)) = k by omega] at y z
          exact ⟨(byt_b _ _).1, (byt_b _ _).2, by rw [(A0 _ _ (fun q => by omega)).1, (A9 _ _ (fun q => by omega)).1, (A8 _ _ (fun q => by omega)).1]; exact z, by rw [(A5 _ _ (fun q => by omega)).1, (A4 _ _ (fun q => by omega)).1, (A3 _ _ (fun q => by omega)).1]; exact y⟩
        rw [if_neg c3]
        by_cases c4 : k < l + 12
        · rw [if_pos c4]
          have y := k3 (k - (l + 8)) (by omega)
          have z := k8 (k - (l + 8)) (by omega)
          rw [show l + 4 + 4 + (k - (l + 8)) = k by omega] at y z
          exact ⟨(byt_b _ _).1, (byt_b _ _).2, by rw [(A0 _ _ (fun q => by omega)).1, (A9 _ _ (fun q => by omega)).1]; exact z, by rw [(A5 _ _ (fun q => by omega)).1, (A4 _ _ (fun q => by omega)).1]; exact y⟩
        rw [if_neg c4]
        by_cases c5 : k < l + 16
        · rw [if_pos c5]
          have y := k4 (k - (l + 12)) (by omega)
          have z := k9 (k - (l + 12)) (by omega)
          rw [show l + 4 + 4 + 4 + (k - (l + 12)) = k by omega] at y z
          exact ⟨(byt_b _ _).1, (byt_b _ _).2, by rw [(A0 _ _ (fun q => by omega)).1]; exact z, by rw [(A5 _ _ (fun q => by omega)).1]; exact y⟩
        rw [if_neg c5]
        have y := k5 (k - (l + 16)) (by omega)
        have z := k0 (k - (l + 16)) (by omega)
        rw [show l + 4 + 4 + 4 + 4 + (k - (l + 16)) = k by omega] at y z
        exact ⟨(byt_b _ _).1, (byt_b _ _).2, z, y⟩
  · refine Ag1.same h (iI (-1)) ?_ ?_
    · show F_NC_feed n E S (B + 0) (iI a) (iI b) (iI c) (iI d) (iI e) M = _
      unfold F_NC_feed F_Ta_hasRoomFor
      rw [hS.g0_7, obs, hS.ck67, obs, hS.i67, obs, h2, iL20, iI_add, iL400, if_pos (cltT (by omega) (by omega) (by omega)), obs, if_neg (by simp)]
      rfl
    · show F_Mo_feed n E S (B + 105) (iI a) (iI b) (iI c) (iI d) (iI e) M = _
      unfold F_Mo_feed
      rw [iL0, hS.p105, obs, hS.i105, obs, mI_i (by decide), h3, iL20, iI_add, iL400, if_neg (cleF (by omega) (by omega) (by omega))]
      rfl
/-! row -/
theorem s_byteAt (hS : ShOK S B) {l : Nat} {tb : Nat → Int} (h1 : l ≤ 400) (h67 : mI M (B + 67) 1 = iI (l : Int)) (h4 : ∀ k, k < l → 0 ≤ tb k ∧ tb k < 256 ∧ mI M (B + 68) k = iI (sgb (tb k))) {k : Nat} (hk : k < l) : F_Ta_byteAt n E S (B + 67) (iI (k : Int)) M = some (iI (tb k), M) := by
  obtain ⟨g1, g2, g3⟩ := h4 k hk
  unfold F_Ta_byteAt
  rw [iL0, if_neg (cltF (by omega) (by omega) (by omega)), hS.i67, obs, h67, if_neg (cleF (by omega) (by omega) (by omega)), iL400, if_neg (cleF (by omega) (by omega) (by omega)), hS.g67_0, obs, hS.r68 (by omega) (by omega), obs, Int.toNat_natCast, g3, iL255, sgb_and g1 g2]
def rwN (N : Nt) (tb : Nat → Int) (i : Nat) : Nt := nset (nset N 0 (tb (3 * i) * 8 + tb (3 * i + 1)).toNat (tb (3 * i + 2))) 1 (tb (3 * i) * 8 + tb (3 * i + 1)).toNat 0
def rwIt (l : Nat) (tb : Nat → Int) (N : Nt) : Nat → Nt × Int × Int
  | 0 => (N, 0, 0)
  | i + 1 => if 3 * i + 3 ≤ l ∧ tb (3 * i) ≤ 3 ∧ tb (3 * i + 1) ≤ 7 ∧ tb (3 * i + 2) ≤ 9 then (rwN (rwIt l tb N i).1 tb i, (rwIt l tb N i).2.1 + 1, (rwIt l tb N i).2.2) else ((rwIt l tb N i).1, (rwIt l tb N i).2.1, (rwIt l tb N i).2.2 + 1)
theorem rwIt_ok {l : Nat} {tb : Nat → Int} (hN : NdOK N) (h4 : ∀ k, k < l → 0 ≤ tb k ∧ tb k < 256) : ∀ i : Nat, NdOK (rwIt l tb N i).1 ∧ (0 ≤ (rwIt l tb N i).2.1 ∧ (rwIt l tb N i).2.1 ≤ i) ∧ (0 ≤ (rwIt l tb N i).2.2 ∧ (rwIt l tb N i).2.2 ≤ i) ∧ ∀ c k, 2 ≤ c → (rwIt l tb N i).1 c k = N c k := by
  intro i
  induction i with
  | zero => exact ⟨hN, ⟨Int.le_refl 0, Int.le_refl 0⟩, ⟨Int.le_refl 0, Int.le_refl 0⟩, fun _ _ _ => rfl⟩
  | succ i ih =>
    obtain ⟨g1, g2, g3, g4⟩ := ih
    show NdOK (if 3 * i + 3 ≤ l ∧ tb (3 * i) ≤ 3 ∧ tb (3 * i + 1) ≤ 7 ∧ tb (3 * i + 2) ≤ 9 then (rwN (rwIt l tb N i).1 tb i, (rwIt l tb N i).2.1 + 1, (rwIt l tb N i).2.2) else ((rwIt l tb N i).1, (rwIt l tb N i).2.1, (rwIt l tb N i).2.2 + 1)).1 ∧ (0 ≤ (if 3 * i + 3 ≤ l ∧ tb (3 * i) ≤ 3 ∧ tb (3 * i + 1) ≤ 7 ∧ tb (3 * i + 2) ≤ 9 then (rwN (rwIt l tb N i).1 tb i, (rwIt l tb N i).2.1 + 1, (rwIt l tb N i).2.2) else ((rwIt l tb N i).1, (rwIt l tb N i).2.1, (rwIt l tb N i).2.2 + 1)).2.1 ∧ (if 3 * i + 3 ≤ l ∧ tb (3 * i) ≤ 3 ∧ tb (3 * i + 1) ≤ 7 ∧ tb (3 * i + 2) ≤ 9 then (rwN (rwIt l tb N i).1 tb i, (rwIt l tb N i).2.1 + 1, (rwIt l tb N i).2.2) else ((rwIt l tb N i).1, (rwIt l tb N i).2.1, (rwIt l tb N i).2.2 + 1)).2.1 ≤ ((i + 1 : Nat) : Int)) ∧ (0 ≤ (if 3 * i + 3 ≤ l ∧ tb (3 * i) ≤ 3 ∧ tb (3 * i + 1) ≤ 7 ∧ tb (3 * i + 2) ≤ 9 then (rwN (rwIt l tb N i).1 tb i, (rwIt l tb N i).2.1 + 1, (rwIt l tb N i).2.2) else ((rwIt l tb N i).1, (rwIt l tb N i).2.1, (rwIt l tb N i).2.2 + 1)).2.2 ∧ (if 3 * i + 3 ≤ l ∧ tb (3 * i) ≤ 3 ∧ tb (3 * i + 1) ≤ 7 ∧ tb (3 * i + 2) ≤ 9 then (rwN (rwIt l tb N i).1 tb i, (rwIt l tb N i).2.1 + 1, (rwIt l tb N i).2.2) else ((rwIt l tb N i).1, (rwIt l tb N i).2.1, (rwIt l tb N i).2.2 + 1)).2.2 ≤ ((i + 1 : Nat) : Int)) ∧ ∀ c k, 2 ≤ c → (if 3 * i + 3 ≤ l ∧ tb (3 * i) ≤ 3 ∧ tb (3 * i + 1) ≤ 7 ∧ tb (3 * i + 2) ≤ 9 then (rwN (rwIt l tb N i).1 tb i, (rwIt l tb N i).2.1 + 1, (rwIt l tb N i).2.2) else ((rwIt l tb N i).1, (rwIt l tb N i).2.1, (rwIt l tb N i).2.2 + 1)).1 c k = N c k
    generalize rwIt l tb N i = PP at *
    obtain ⟨Q, x, y⟩ := PP
    dsimp only at *
    split
    · rename_i q
      have := h4 (3 * i + 2) (by omega)
      dsimp only
      refine ⟨(g1.s0 (by omega) (by omega)).s1 (Or.inl rfl), by omega, by omega, fun c k hc => ?_⟩
      unfold rwN
      rw [nset_c (by omega), nset_c (by omega)]; exact g4 c k hc
    · dsimp only
      exact ⟨g1, by omega, by omega, g4⟩
theorem s_tellHole (hS : ShOK S B) (hC : CN S M B (B + 1) N Ls) {l : Nat} {tb : Nat → Int} (h1 : l ≤ 400) (h67 : mI M (B + 67) 1 = iI (l : Int)) (h4 : ∀ k, k < l → 0 ≤ tb k ∧ tb k < 256 ∧ mI M (B + 68) k = iI (sgb (tb k))) {i : Nat} (hi : 3 * i < l) :
    ∃ M', F_NC_tellHole n E S (B + 0) (iI (3 * (i : Int))) M = some (decide (3 * i + 3 ≤ l ∧ tb (3 * i) ≤ 3 ∧ tb (3 * i + 1) ≤ 7 ∧ tb (3 * i + 2) ≤ 9), M') ∧ CN S M' B (B + 1) (if 3 * i + 3 ≤ l ∧ tb (3 * i) ≤ 3 ∧ tb (3 * i + 1) ≤ 7 ∧ tb (3 * i + 2) ≤ 9 then rwN N tb i else N) Ls ∧ zAg (fun b j => B + 2 ≤ b ∧ b ≤ B + 3) M M' := by
  have hI := nA1.ni hS
  have hN := hC.2.1
  have fin : ¬ (3 * i + 3 ≤ l ∧ tb (3 * i) ≤ 3 ∧ tb (3 * i + 1) ≤ 7 ∧ tb (3 * i + 2) ≤ 9) → ∃ M', (some (false, M) : Option (Bool × zH)) = some (decide (3 * i + 3 ≤ l ∧ tb (3 * i) ≤ 3 ∧ tb (3 * i + 1) ≤ 7 ∧ tb (3 * i + 2) ≤ 9), M') ∧ CN S M' B (B + 1) (if 3 * i + 3 ≤ l ∧ tb (3 * i) ≤ 3 ∧ tb (3 * i + 1) ≤ 7 ∧ tb (3 * i + 2) ≤ 9 then rwN N tb i else N) Ls ∧ zAg (fun b j => B + 2 ≤ b ∧ b ≤ B + 3) M M' := fun hno => by
    rw [if_neg hno, decide_eq_false hno]
    exact ⟨M, rfl, hC, zAg.rfl'⟩
  unfold F_NC_tellHole
  rw [hS.g0_7, obs, hS.i67, obs, h67, iL3, iI_add]
  by_cases c : 3 * i + 3 ≤ l
  · have y0 := h4 (3 * i) (by omega)
    have y1 := h4 (3 * i + 1) (by omega)
    have y2 := h4 (3 * i + 2) (by omega)
    have b0 := s_byteAt (n := n) (E := E) hS h1 h67 h4 (k := 3 * i) (by omega)
    have b1 := s_byteAt (n := n) (E := E) hS h1 h67 h4 (k := 3 * i + 1) (by omega)
    have b2 := s_byteAt (n := n) (E := E) hS h1 h67 h4 (k := 3 * i + 2) (by omega)
    rw [show ((3 * i : Nat) : Int) = 3 * (i : Int) by omega] at b0
    rw [show ((3 * i + 1 : Nat) : Int) = 3 * (i : Int) + 1 by omega] at b1
    rw [show ((3 * i + 2 : Nat) : Int) = 3 * (i : Int) + 2 by omega] at b2
    rw [if_pos (cleT (by omega) (by omega) (by omega)), b0, obs, iL1, iI_add, b1, obs, iL2, iI_add, b2, obs, s_isRing (zR_of (by omega) (by omega)), obs]
    by_cases c1 : tb (3 * i) ≤ 3
    · rw [if_pos (decide_eq_true (show 0 ≤ tb (3 * i) ∧ tb (3 * i) ≤ 3 by omega)), s_isHole (zR_of (by omega) (by omega)), obs]
      by_cases c2 : tb (3 * i + 1) ≤ 7
      · rw [if_pos (decide_eq_true (show 0 ≤ tb (3 * i + 1) ∧ tb (3 * i + 1) ≤ 7 by omega)), iL0, iL9, s_withinI (zR_of (by omega) (by omega)) (zR_of (by omega) (by omega)) (zR_of (by omega) (by omega)), obs]
        by_cases c3 : tb (3 * i + 2) ≤ 9
        · have hok : 3 * i + 3 ≤ l ∧ tb (3 * i) ≤ 3 ∧ tb (3 * i + 1) ≤ 7 ∧ tb (3 * i + 2) ≤ 9 := ⟨c, c1, c2, c3⟩
          have hN1 : NdOK (nset N 0 (tb (3 * i) * 8 + tb (3 * i + 1)).toNat (tb (3 * i + 2))) := hN.s0 (by omega) (by omega)
          have hC1 := hC.set (v := tb (3 * i + 2)) nA1 (by decide) rfl hN1
          have hC2 := hC1.set (c := 1) (k := (tb (3 * i) * 8 + tb (3 * i + 1)).toNat) (v := 0) nA1 (by decide) rfl (hN1.s1 (Or.inl rfl))
          rw [if_pos (decide_eq_true (show 0 ≤ tb (3 * i + 2) ∧ tb (3 * i + 2) ≤ 9 by omega)), hS.g0_0, obs, hI.g0, obs, iL8, iI_mul, iI_add, hI.w0 (by omega) (by omega), obs, hI.g1, obs, hI.w1 (by omega) (by omega), obs, if_pos hok, decide_eq_true hok]
          exact ⟨_, rfl, hC2, (zAg.rfl'.setI ⟨by omega, by omega⟩).setI ⟨by omega, by omega⟩⟩
        · rw [if_neg (fun q => by have := of_decide_eq_true q; omega)]
          exact fin (fun q => c3 q.2.2.2)
      · rw [if_neg (fun q => by have := of_decide_eq_true q; omega)]
        exact fin (fun q => c2 q.2.2.1)
    · rw [if_neg (fun q => by have := of_decide_eq_true q; omega)]
      exact fin (fun q => c1 q.2.1)
  · rw [if_neg (cleF (by omega) (by omega) (by omega))]
    exact fin (fun q => c q.1)
theorem c_row (h : Inv S M B) (hn : 100000 ≤ n) : Ag1 S B M (fun M => F_NC_row n E S (B + 0) M) (fun M => F_Mo_row n E S (B + 105) M) := by
  obtain ⟨hS, hZ, ⟨N, Ls, hC, hM, hh, hP⟩, hI0, hI1, hT, hMi, hY, hCo⟩ := id h
  obtain ⟨l, tb, h1, h2, h3, h4⟩ := hT
  have hN := hC.2.1
  by_cases cl : l = 0
  · refine Ag1.ans (n := n) (E := E) h (v := -6) (Or.inr (Or.inr (Or.inr (Or.inr (Or.inr rfl))))) (M1 := M) ?_ zAg.rfl' (fun M2 hA2 => ?_)
    · show F_NC_row n E S (B + 0) M = _
      unfold F_NC_row
      rw [ans_ref hS (Or.inr (Or.inr (Or.inr (Or.inr rfl)))), hS.g0_7, obs, hS.i67, obs, h2, cl, if_pos (show iI ((0 : Nat) : Int) = 0 from rfl), be_]
      rfl
    · have hA3 : zAg (fun b j => rfX B b j ∨ (b = B + 105 ∧ (j = 0 ∨ j = 13))) M (setI (setI M2 (B + 105) 0 (iI 0)) (B + 105) 13 (iI 0)) := ((hA2.mono (fun _ _ q => Or.inl q)).setI (Or.inr ⟨rfl, Or.inl rfl⟩)).setI (Or.inr ⟨rfl, Or.inr rfl⟩)
      refine ⟨setI (setI M2 (B + 105) 0 (iI 0)) (B + 105) 13 (iI 0), ?_, (zAg.rfl'.setI ?_).setI ?_, Now.ag ⟨N, Ls, hC, hM, hh, hP⟩ hA3 (fun b j q => by unfold rfX at q; omega), ⟨0, tb, by omega, ?_, ?_, fun k hk => by omega⟩, Msc.of h hA3 (fun j _ _ q => by unfold rfX at q; omega) (fun j _ q => by unfold rfX at q; omega)⟩
      · show F_Mo_row n E S (B + 105) M2 = _
        unfold F_Mo_row
        rw [iL0, hS.p105, obs, hS.i105, obs, mI_i (by decide), (hA2 _ _ (fun q => by unfold rfX at q; omega)).1, h3, cl, hS.p105, obs, if_pos (show iI ((0 : Nat) : Int) = iI 0 from rfl), be_]
        rfl
      · unfold gM gX; omega
      · unfold gM gX; omega
      · rw [(hA3 _ _ (fun q => by unfold rfX at q; omega)).1, h2, cl]
      · rw [mI_s]; rfl
  · have h4c : ∀ k, k < l → 0 ≤ tb k ∧ tb k < 256 ∧ mI M (B + 68) k = iI (sgb (tb k)) := fun k hk => ⟨(h4 k hk).1, (h4 k hk).2.1, (h4 k hk).2.2.2⟩
    have h4b : ∀ k, k < l → 0 ≤ tb k ∧ tb k < 256 := fun k hk => ⟨(h4 k hk).1, (h4 k hk).2.1⟩
    have hR : 3 * ((l + 2) / 3) ≥ l ∧ 3 * ((l + 2) / 3) ≤ l + 2 := by omega
    obtain ⟨s', m, ⟨M1, hs', hC1, hA1⟩, e⟩ := zfix_inv (F := fun r23 s => F_NC_row_L23 n E S r23 s.1 s.2.1 s.2.2.1 s.2.2.2.1 s.2.2.2.2) (fun i s => ∃ M1, s = (B + 0, iI (rwIt l tb N i).2.1, iI (rwIt l tb N i).2.2, iI (3 * (i : Int)), M1) ∧ CN S M1 B (B + 1) (rwIt l tb N i).1 Ls ∧ zAg (fun b j => B + 2 ≤ b ∧ b ≤ B + 3) M M1) ((l + 2) / 3) (fun i hi s hI' => by
      obtain ⟨M1, rfl, hC1, hA1⟩ := hI'
      have q67 : mI M1 (B + 67) 1 = iI (l : Int) := by rw [(hA1 _ _ (fun q => by omega)).1]; exact h2
      have q68 : ∀ k, k < l → 0 ≤ tb k ∧ tb k < 256 ∧ mI M1 (B + 68) k = iI (sgb (tb k)) := fun k hk => ⟨(h4 k hk).1, (h4 k hk).2.1, by rw [(hA1 _ _ (fun q => by omega)).1]; exact (h4 k hk).2.2.2⟩
      obtain ⟨M2, e2, hC2, hA2⟩ := s_tellHole (n := n) (E := E) hS hC1 h1 q67 q68 (i := i) (by omega)
      refine ⟨(B + 0, iI (rwIt l tb N (i + 1)).2.1, iI (rwIt l tb N (i + 1)).2.2, iI (3 * ((i + 1 : Nat) : Int)), M2), ⟨M2, rfl, ?_, hA1.trans hA2⟩, fun rec => ?_⟩
      · show CN S M2 B (B + 1) (if 3 * i + 3 ≤ l ∧ tb (3 * i) ≤ 3 ∧ tb (3 * i + 1) ≤ 7 ∧ tb (3 * i + 2) ≤ 9 then (rwN (rwIt l tb N i).1 tb i, (rwIt l tb N i).2.1 + 1, (rwIt l tb N i).2.2) else ((rwIt l tb N i).1, (rwIt l tb N i).2.1, (rwIt l tb N i).2.2 + 1)).1 Ls
        split
        · rename_i q; rw [if_pos q] at hC2; exact hC2
        · rename_i q; rw [if_neg q] at hC2; exact hC2
      · show F_NC_row_L23 n E S rec (B + 0) (iI (rwIt l tb N i).2.1) (iI (rwIt l tb N i).2.2) (iI (3 * (i : Int))) M1 = rec (B + 0, iI (if 3 * i + 3 ≤ l ∧ tb (3 * i) ≤ 3 ∧ tb (3 * i + 1) ≤ 7 ∧ tb (3 * i + 2) ≤ 9 then (rwN (rwIt l tb N i).1 tb i, (rwIt l tb N i).2.1 + 1, (rwIt l tb N i).2.2) else ((rwIt l tb N i).1, (rwIt l tb N i).2.1, (rwIt l tb N i).2.2 + 1)).2.1, iI (if 3 * i + 3 ≤ l ∧ tb (3 * i) ≤ 3 ∧ tb (3 * i + 1) ≤ 7 ∧ tb (3 * i + 2) ≤ 9 then (rwN (rwIt l tb N i).1 tb i, (rwIt l tb N i).2.1 + 1, (rwIt l tb N i).2.2) else ((rwIt l tb N i).1, (rwIt l tb N i).2.1, (rwIt l tb N i).2.2 + 1)).2.2, iI (3 * ((i + 1 : Nat) : Int)), M2)
        unfold F_NC_row_L23 F_NC_row_b51
        rw [hS.g0_7, obs, hS.i67, obs, q67, if_neg (cleF (by omega) (by omega) (by omega)), e2, obs, iL1, iL3, iI_add (3 * (i : Int)) 3, show 3 * (i : Int) + 3 = 3 * ((i + 1 : Nat) : Int) by omega]
        by_cases q : 3 * i + 3 ≤ l ∧ tb (3 * i) ≤ 3 ∧ tb (3 * i + 1) ≤ 7 ∧ tb (3 * i + 2) ≤ 9
        · rw [if_pos (decide_eq_true q), if_pos q, iI_add]
        · rw [if_neg (fun z => q (of_decide_eq_true z)), if_neg q, iI_add]) n 0 (B + 0, 0, 0, 0, M) (by omega) (by omega) ⟨M, rfl, hC, zAg.rfl'⟩
    obtain ⟨k1, k2, k3, k4⟩ := rwIt_ok (tb := tb) hN h4b ((l + 2) / 3)
    have q67 : mI M1 (B + 67) 1 = iI (l : Int) := by rw [(hA1 _ _ (fun q => by omega)).1]; exact h2
    refine Ag1.ans (n := n) (E := E) h (v := (rwIt l tb N ((l + 2) / 3)).2.1) (Or.inl (by omega)) (M1 := setI (setI (setI M1 (B + 67) 1 (iI 0)) (B + 0) 16 (iI (rwIt l tb N ((l + 2) / 3)).2.2)) (B + 63) 1 (iI 0)) ?_ ?_ (fun M2 hA2 => ?_)
    · show F_NC_row n E S (B + 0) M = _
      unfold F_NC_row F_NC_row_b23
      rw [ans_acc hS k2.1 (by omega), hS.g0_7, obs, hS.i67, obs, h2, iL0, if_neg (ceqF (by omega) (by omega) (by omega) (by omega) (by omega))]
      refine e.trans ?_
      rw [hs']
      show F_NC_row_L23 n E S _ (B + 0) (iI (rwIt l tb N ((l + 2) / 3)).2.1) (iI (rwIt l tb N ((l + 2) / 3)).2.2) (iI (3 * (((l + 2) / 3 : Nat) : Int))) M1 = _
      unfold F_NC_row_L23
      rw [hS.g0_7, obs, hS.i67, obs, q67, if_pos (cleT (by omega) (by omega) (by omega)), iL0, hS.p67, obs, hS.p0, obs, hS.g0_5, obs, hS.ck63, obs, s_clear hS, obs, be_]
    · refine ((((hA1.mono (fun b j q => ?_)).setI ?_).setI ?_).setI ?_) <;> (unfold gC gX; omega)
    · have hA01 : zAg (fun b j => (B + 2 ≤ b ∧ b ≤ B + 3) ∨ (b = B + 67 ∧ j = 1) ∨ (b = B + 0 ∧ j = 16) ∨ (b = B + 63 ∧ j = 1) ∨ rfX B b j) M M2 := by
        refine ((((hA1.mono (fun b j q => Or.inl q)).setI ?_).setI ?_).setI ?_).trans (hA2.mono (fun b j q => Or.inr (Or.inr (Or.inr (Or.inr q))))) <;> omega
      have hA3 : zAg (fun b j => b = B + 105 ∧ (j = 0 ∨ j = 13 ∨ j = 11)) M2 (setI (setI (setI M2 (B + 105) 0 (iI 0)) (B + 105) 13 (iI 0)) (B + 105) 11 (iI 0)) := ((zAg.rfl'.setI ⟨rfl, Or.inl rfl⟩).setI ⟨rfl, Or.inr (Or.inl rfl)⟩).setI ⟨rfl, Or.inr (Or.inr rfl)⟩
      have hM3 : MN (setI (setI (setI M2 (B + 105) 0 (iI 0)) (B + 105) 13 (iI 0)) (B + 105) 11 (iI 0)) B N Ls := (hM.ag hA01 (fun j q => by unfold rfX at q; omega) (fun q => by unfold rfX at q; omega)).ag hA3 (fun j q => by omega) (fun q => by omega)
      have t114 : ∀ k, k < l → mI M2 (B + 114) k = iI (tb k) := fun k hk => by rw [(hA01 _ _ (fun q => by unfold rfX at q; omega)).1]; exact (h4 k hk).2.2.1
      obtain ⟨s5, m5, ⟨M5, hs5, hM5, e11, hA5⟩, e5⟩ := zfix_inv (F := fun r35 s => F_Mo_row_L35 n E S r35 s.1 s.2.1 s.2.2.1 s.2.2.2.1 s.2.2.2.2) (fun i s => ∃ M5, s = (B + 105, iI (l : Int), iI (rwIt l tb N i).2.1, iI (3 * (i : Int)), M5) ∧ MN M5 B (rwIt l tb N i).1 Ls ∧ mI M5 (B + 105) 11 = iI (rwIt l tb N i).2.2 ∧ zAg (fun b j => (b = B + 105 ∧ j = 11) ∨ (b = B + 107 ∧ 12 ≤ j ∧ j < 48)) (setI (setI (setI M2 (B + 105) 0 (iI 0)) (B + 105) 13 (iI 0)) (B + 105) 11 (iI 0)) M5) ((l + 2) / 3) (fun i hi s hI' => by
        obtain ⟨M5, rfl, hM5, e11, hA5⟩ := hI'
        have ta : ∀ k, k < l → mI M5 (B + 114) k = iI (tb k) := fun k hk => by rw [(hA5 _ _ (fun q => by omega)).1, (hA3 _ _ (fun q => by omega)).1]; exact t114 k hk
        have hNi := hM5.2.2.1
        obtain ⟨w1, w2, w3, w4⟩ := rwIt_ok (tb := tb) hN h4b i
        by_cases q : 3 * i + 3 ≤ l ∧ tb (3 * i) ≤ 3 ∧ tb (3 * i + 1) ≤ 7 ∧ tb (3 * i + 2) ≤ 9
        · have es : rwIt l tb N (i + 1) = (rwN (rwIt l tb N i).1 tb i, (rwIt l tb N i).2.1 + 1, (rwIt l tb N i).2.2) := if_pos q
          rw [es]
          generalize rwIt l tb N i = PP at *
          obtain ⟨Q, x, y⟩ := PP
          dsimp only at *
          have y0 := h4b (3 * i) (by omega)
          have y1 := h4b (3 * i + 1) (by omega)
          have y2 := h4b (3 * i + 2) (by omega)
          have a0 := ta (3 * i) (by omega)
          have a1 := ta (3 * i + 1) (by omega)
          have a2 := ta (3 * i + 2) (by omega)
          generalize hu0 : tb (3 * i) = u0 at *
          generalize hu1 : tb (3 * i + 1) = u1 at *
          generalize hu2 : tb (3 * i + 2) = u2 at *
          have hix : (u0 * 8 + u1).toNat = 8 * u0.toNat + u1.toNat := by omega
          have hN1 : NdOK (nset Q 0 (u0 * 8 + u1).toNat u2) := hNi.s0 (by omega) (by omega)
          have hM6 : MN (setI M5 (B + 107) (12 + (u0 * 8 + u1).toNat) (iI u2)) B (nset Q 0 (u0 * 8 + u1).toNat u2) Ls := hM5.st (by omega) (hM5.2.1.s_bore (by omega) u2) hN1 rfl
          have R7 := hM6.2.1.s_blk (r := u0.toNat) (h := u1.toNat) (by omega) (by omega) 0
          have hbm := bmask_b hN1 (r := u0.toNat) (by omega)
          have hbit := bmask_bit hN1 (r := u0.toNat) (h := u1.toNat) (by omega) (by omega)
          have xo := andb ⟨(bmask (nset Q 0 (u0 * 8 + u1).toNat u2) u0.toNat).toNat, by omega⟩ ⟨u1.toNat, by omega⟩
          dsimp only at xo
          rw [show (((bmask (nset Q 0 (u0 * 8 + u1).toNat u2) u0.toNat).toNat : Nat) : Int) = bmask (nset Q 0 (u0 * 8 + u1).toNat u2) u0.toNat by omega, hbit] at xo
          have ex : bmask (nset Q 0 (u0 * 8 + u1).toNat u2) u0.toNat + (0 - nset Q 0 (u0 * 8 + u1).toNat u2 1 (8 * u0.toNat + u1.toNat)) * 2 ^ u1.toNat = bmask (nset Q 0 (u0 * 8 + u1).toNat u2) u0.toNat - nset Q 0 (u0 * 8 + u1).toNat u2 1 (8 * u0.toNat + u1.toNat) * 2 ^ u1.toNat := by
            rw [Int.zero_sub, Int.neg_mul]; rfl
          rw [ex] at R7
          have hM7 := hM6.st (i := 44 + u0.toNat) (by omega) R7 (by rw [← hix]; exact hN1.s1 (Or.inl rfl)) rfl
          rw [← hix] at hM7
          refine ⟨_, ⟨_, rfl, by unfold rwN; rw [hu0, hu1, hu2]; exact hM7, ?_, (hA5.setI (Or.inr ⟨rfl, by omega, by omega⟩)).setI (Or.inr ⟨rfl, by omega, by omega⟩)⟩, fun rec => ?_⟩
          · rw [mI_a (by omega), mI_a (by omega)]; exact e11
          · show F_Mo_row_L35 n E S rec (B + 105) (iI (l : Int)) (iI x) (iI (3 * (i : Int))) M5 = _
            unfold F_Mo_row_L35 F_Mo_row_b171
            have n0 : (3 * (i : Int)).toNat = 3 * i := by omega
            have n1 : (3 * (i : Int) + 1).toNat = 3 * i + 1 := by omega
            have n2 : (3 * (i : Int) + 2).toNat = 3 * i + 2 := by omega
            rw [if_neg (cleF (by omega) (by omega) (by omega)), iL2, iI_add, if_neg (cleF (by omega) (by omega) (by omega)), hS.g105_12, obs, hS.r114 (by omega) (by omega), obs, n0, a0, s_mRing (zR_of (by omega) (by omega)), obs, if_pos (decide_eq_true (show 0 ≤ u0 ∧ u0 ≤ 3 by omega)), iL1, iI_add, hS.r114 (by omega) (by omega), obs, n1, a1, s_mField (zR_of (by omega) (by omega)), obs, if_pos (decide_eq_true (show 0 ≤ u1 ∧ u1 ≤ 7 by omega)), hS.r114 (by omega) (by omega), obs, n2, a2, xJ (by omega) (by omega), jL0, show (9 : Int64) = jJ 9 by decide, s_in (by omega) (by omega) (by omega) (by omega) (by omega) (by omega), obs, if_pos (decide_eq_true (show 0 ≤ u2 ∧ u2 ≤ 9 by omega)), hS.g105_3, obs, hS.r114 (by omega) (by omega), obs, n0, a0, hS.r114 (by omega) (by omega), obs, n1, a1, hS.r114 (by omega) (by omega), obs, n2, a2, show (12 : Int32) = iI 12 by decide, iL8, iI_mul, iI_add, iI_add, hS.w107 (by omega) (by omega), obs, show (12 + 8 * u0 + u1).toNat = 12 + (u0 * 8 + u1).toNat by omega, hS.r114 (by omega) (by omega), obs, n0, mI_a (by omega), a0, show (44 : Int32) = iI 44 by decide, iI_add, hS.r107 (by omega) (by omega), obs, hM6.2.1.blk (by omega) (by omega), hS.r114 (by omega) (by omega), obs, n1, mI_a (by omega), a1, iL31, xshl (by omega) (by omega), Int.one_mul, iI_neg, xo, hS.w107 (by omega) (by omega), obs, show (44 + u0).toNat = 44 + u0.toNat by omega, iI_add, iL3, iI_add, show 3 * (i : Int) + 3 = 3 * ((i + 1 : Nat) : Int) by omega, hix]
        · have es : rwIt l tb N (i + 1) = ((rwIt l tb N i).1, (rwIt l tb N i).2.1, (rwIt l tb N i).2.2 + 1) := if_neg q
          rw [es]
          generalize rwIt l tb N i = PP at *
          obtain ⟨Q, x, y⟩ := PP
          dsimp only at *
          refine ⟨(B + 105, iI (l : Int), iI x, iI (3 * ((i + 1 : Nat) : Int)), setI M5 (B + 105) 11 (iI (y + 1))), ⟨_, rfl, hM5.ag (X := fun b j => b = B + 105 ∧ j = 11) (zAg.rfl'.setI ⟨rfl, rfl⟩) (fun j q => by omega) (fun q => by omega), by rw [mI_s], hA5.setI (Or.inl ⟨rfl, rfl⟩)⟩, fun rec => ?_⟩
          show F_Mo_row_L35 n E S rec (B + 105) (iI (l : Int)) (iI x) (iI (3 * (i : Int))) M5 = _
          have b161 : F_Mo_row_b161 n E S rec (B + 105) (iI (l : Int)) (iI x) (iI (3 * (i : Int))) M5 = rec (B + 105, iI (l : Int), iI x, iI (3 * ((i + 1 : Nat) : Int)), setI M5 (B + 105) 11 (iI (y + 1))) := by
            unfold F_Mo_row_b161 F_Mo_row_b171
            rw [hS.i105, obs, e11, iL1, iI_add, hS.p105, obs, iL3, iI_add, show 3 * (i : Int) + 3 = 3 * ((i + 1 : Nat) : Int) by omega]
          unfold F_Mo_row_L35
          have n0 : (3 * (i : Int)).toNat = 3 * i := by omega
          have n1 : (3 * (i : Int) + 1).toNat = 3 * i + 1 := by omega
          have n2 : (3 * (i : Int) + 2).toNat = 3 * i + 2 := by omega
          rw [if_neg (cleF (by omega) (by omega) (by omega)), iL2, iI_add]
          by_cases c : 3 * i + 3 ≤ l
          · have y0 := h4b (3 * i) (by omega)
            have y1 := h4b (3 * i + 1) (by omega)
            have y2 := h4b (3 * i + 2) (by omega)
            have a0 := ta (3 * i) (by omega)
            have a1 := ta (3 * i + 1) (by omega)
            have a2 := ta (3 * i + 2) (by omega)
            rw [if_neg (cleF (by omega) (by omega) (by omega)), hS.g105_12, obs, hS.r114 (by omega) (by omega), obs, n0, a0, s_mRing (zR_of (by omega) (by omega)), obs]
            by_cases c1 : tb (3 * i) ≤ 3
            · rw [if_pos (decide_eq_true (show 0 ≤ tb (3 * i) ∧ tb (3 * i) ≤ 3 by omega)), iL1, iI_add, hS.r114 (by omega) (by omega), obs, n1, a1, s_mField (zR_of (by omega) (by omega)), obs]
              by_cases c2 : tb (3 * i + 1) ≤ 7
              · rw [if_pos (decide_eq_true (show 0 ≤ tb (3 * i + 1) ∧ tb (3 * i + 1) ≤ 7 by omega)), hS.r114 (by omega) (by omega), obs, n2, a2, xJ (by omega) (by omega), jL0, show (9 : Int64) = jJ 9 by decide, s_in (by omega) (by omega) (by omega) (by omega) (by omega) (by omega), obs, if_neg (fun z => by have := of_decide_eq_true z; omega)]
                exact b161
              · rw [if_neg (fun z => by have := of_decide_eq_true z; omega)]; exact b161
            · rw [if_neg (fun z => by have := of_decide_eq_true z; omega)]; exact b161
          · rw [if_pos (cleT (by omega) (by omega) (by omega))]; exact b161) n 0 (B + 105, iI (l : Int), 0, 0, setI (setI (setI M2 (B + 105) 0 (iI 0)) (B + 105) 13 (iI 0)) (B + 105) 11 (iI 0)) (by omega) (by omega) ⟨_, rfl, hM3, by rw [mI_s]; rfl, zAg.rfl'⟩
      have hA25 : zAg (fun b j => (b = B + 105 ∧ (j = 0 ∨ j = 13 ∨ j = 11 ∨ j = 8)) ∨ (b = B + 107 ∧ 12 ≤ j ∧ j < 48)) M2 (setI M5 (B + 105) 8 (iI 0)) := ((hA3.mono (fun b j q => by omega)).trans (hA5.mono (fun b j q => by omega))).setI (Or.inl ⟨rfl, by omega⟩)
      have hA15 : zAg (fun b j => (b = B + 67 ∧ j = 1) ∨ (b = B + 0 ∧ j = 16) ∨ (b = B + 63 ∧ j = 1) ∨ rfX B b j ∨ (b = B + 105 ∧ (j = 0 ∨ j = 13 ∨ j = 11 ∨ j = 8)) ∨ (b = B + 107 ∧ 12 ≤ j ∧ j < 48)) M1 (setI M5 (B + 105) 8 (iI 0)) := by
        refine (((((zAg.rfl' (M := M1)).setI ?_).setI ?_).setI ?_).trans (hA2.mono (fun b j q => ?_))).trans (hA25.mono (fun b j q => ?_)) <;> (try unfold rfX at q) <;> (try unfold rfX) <;> omega
      have hA05 : zAg (fun b j => (B + 2 ≤ b ∧ b ≤ B + 3) ∨ (b = B + 67 ∧ j = 1) ∨ (b = B + 0 ∧ j = 16) ∨ (b = B + 63 ∧ j = 1) ∨ rfX B b j ∨ (b = B + 105 ∧ (j = 0 ∨ j = 13 ∨ j = 11 ∨ j = 8)) ∨ (b = B + 107 ∧ 12 ≤ j ∧ j < 48)) M (setI M5 (B + 105) 8 (iI 0)) := (hA1.mono (fun b j q => Or.inl q)).trans (hA15.mono (fun b j q => Or.inr q))
      obtain ⟨⟨_, a2, a3, a4⟩, _⟩ := hMi
      refine ⟨setI M5 (B + 105) 8 (iI 0), ?_, hA25.mono (fun b j q => by unfold gM gX; omega), ⟨_, Ls, hC1.ag hA15 (fun b j q => by unfold rfX at q; omega), hM5.ag (X := fun b j => b = B + 105 ∧ j = 8) (zAg.rfl'.setI ⟨rfl, rfl⟩) (fun j q => by omega) (fun q => by omega), by rw [k4 9 0 (by decide)]; exact hh, PastR.nil ?_ ?_⟩, ⟨0, tb, by omega, ?_, ?_, fun k hk => by omega⟩, ?_, ?_, ?_⟩
      · show F_Mo_row n E S (B + 105) M2 = _
        unfold F_Mo_row F_Mo_row_b35
        rw [iL0, hS.p105, obs, hS.i105, obs, mI_i (by decide), (hA01 _ _ (fun q => by unfold rfX at q; omega)).1, h3, hS.p105, obs, if_neg (ceqF (by omega) (by omega) (by omega) (by omega) (by omega)), hS.p105, obs]
        refine e5.trans ?_
        rw [hs5]
        show F_Mo_row_L35 n E S _ (B + 105) (iI (l : Int)) (iI (rwIt l tb N ((l + 2) / 3)).2.1) (iI (3 * (((l + 2) / 3 : Nat) : Int))) M5 = _
        unfold F_Mo_row_L35 F_Mo_lasting F_Mo_lasting_b13
        rw [if_pos (cleT (by omega) (by omega) (by omega)), hS.ck105, obs, iL0, if_pos (cleT (by omega) (by omega) (by omega)), hS.p105, obs, obs, be_, be_]
      · rw [(hA25 _ _ (fun q => by omega)).1, (hA2 _ _ (fun q => by unfold rfX at q; omega)).1, mI_s]
      · rw [mI_s]
      · rw [(hA25 _ _ (fun q => by omega)).1, (hA2 _ _ (fun q => by unfold rfX at q; omega)).1, mI_a (by omega), mI_a (by omega), mI_s]; rfl
      · rw [mI_i (by decide), (hA5 _ _ (fun q => by omega)).1, mI_i (by decide), mI_s]; rfl
      · rw [(hA25 _ _ (fun q => by omega)).1, (hA2 _ _ (fun q => by unfold rfX at q; omega)).1, mI_a (by omega), mI_s, mI_i (by decide), e11]
      · rw [(hA05 _ _ (fun q => by unfold rfX at q; omega)).1, (hA05 _ _ (fun q => by unfold rfX at q; omega)).1]; exact a3
      · rw [(hA05 _ _ (fun q => by unfold rfX at q; omega)).1, (hA05 _ _ (fun q => by unfold rfX at q; omega)).1]; exact a4
end
