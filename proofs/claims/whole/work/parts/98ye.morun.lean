/-! orders: the model, from a good text on -/
def moT (n : Nat) (E : zE) (S : zS) (B : Nat) (M : zH) : Option (Int32 × zH) := (F_Mo_keepAll n E S (B + 105) 17 M).bind fun q_29 => (zgI S q_29 (B + 105) 11 8).bind fun v_30 => F_Mo_orders_b77 n E S (B + 105, v_30, 0, q_29)
def moX (B : Nat) : Nat → Nat → Prop := fun b j => (b = B + 105 ∧ (j = 8 ∨ j = 20 ∨ j = 34 ∨ j = 38 ∨ j = 39 ∨ j = 40 ∨ j = 50 ∨ j = 51 ∨ j = 52 ∨ j = 53)) ∨ (b = B + 107 ∧ 4 ≤ j ∧ j < 54) ∨ (B + 110 ≤ b ∧ b ≤ B + 113) ∨ (B + 123 ≤ b ∧ b ≤ B + 126)
section
variable {n : Nat} {E : zE} {S : zS} {M : zH} {B : Nat} {N : Nt} {Ls : Nat → Lw} {T : Pst} {cl : Nat} {DD : Nat → Ds} {mo ma : Nat → Int} {nc : Nat}
theorem mru_mo {M' : zH} (h : zAg (mruX B) M M') : zAg (moX B) M M' := h.mono (fun b j q => by have := mru_b q; unfold moX; omega)
theorem mo_77 (hS : ShOK S B) (hn : 1000 ≤ n) (x1 : Int32) : ∃ M', F_Mo_orders_b77 n E S (B + 105, x1, 0, M) = F_Mo_orders_b104 n E S (B + 105, x1, 0, M') ∧ (∀ j, j < 800 → mI M' (B + 112) j = mI M (B + 110) j) ∧ zAg (fun b _ => b = B + 112) M M' := by
  unfold F_Mo_orders_b77
  obtain ⟨s', m, ⟨M1, hs', h1, hA1⟩, e⟩ := zfix_inv (F := fun r77 s => F_Mo_orders_L77 n E S r77 s.1 s.2.1 s.2.2.1 s.2.2.2) (fun i s => ∃ M1, s = (B + 105, x1, iI (i : Int), M1) ∧ (∀ j, j < i → mI M1 (B + 112) j = mI M (B + 110) j) ∧ zAg (fun b _ => b = B + 112) M M1) 800 (fun i hi s hI => by
    obtain ⟨M1, rfl, h1, hA1⟩ := hI
    refine ⟨(B + 105, x1, iI ((i + 1 : Nat) : Int), setI M1 (B + 112) i (mI M (B + 110) i)), ⟨_, rfl, fun j hj => ?_, hA1.setI (by rfl)⟩, fun rec => ?_⟩
    · rw [mI_ite]
      by_cases c : j = i
      · rw [if_pos ⟨rfl, by omega⟩, c]
      · rw [if_neg (fun q => c (by omega)), h1 j (by omega)]
    · show F_Mo_orders_L77 n E S rec (B + 105) x1 (iI (i : Int)) M1 = _
      unfold F_Mo_orders_L77
      rw [show (800 : Int32) = iI 800 by decide, if_neg (cleF (by omega) (by omega) (by omega)), hS.g105_9, obs, hS.g105_6, obs, hS.r110 (by omega) (by omega), obs, hS.w112 (by omega) (by omega), obs, iL1, iI_add, Int.toNat_natCast, (hA1 _ _ (by omega)).1]
      rfl) n 0 (B + 105, x1, 0, M) (by omega) (by omega) ⟨M, rfl, fun j hj => by omega, zAg.rfl'⟩
  refine ⟨M1, ?_, h1, hA1⟩
  rw [e, hs']
  show F_Mo_orders_L77 n E S _ (B + 105) x1 (iI ((800 : Nat) : Int)) M1 = _
  unfold F_Mo_orders_L77
  rw [if_pos (by decide)]
theorem mo_104 (hS : ShOK S B) (hn : 1000 ≤ n) (x1 : Int32) : ∃ M', F_Mo_orders_b104 n E S (B + 105, x1, 0, M) = F_Mo_orders_b140 n E S (B + 105, x1, 0, setI (setI M' (B + 105) 50 (iI 0)) (B + 105) 51 (iI (-1))) ∧ (∀ j, j < 16 → mI M' (B + 113) j = mI M (B + 111) j) ∧ zAg (fun b _ => b = B + 113) M M' := by
  unfold F_Mo_orders_b104
  obtain ⟨s', m, ⟨M1, hs', h1, hA1⟩, e⟩ := zfix_inv (F := fun r104 s => F_Mo_orders_L104 n E S r104 s.1 s.2.1 s.2.2.1 s.2.2.2) (fun i s => ∃ M1, s = (B + 105, x1, iI (i : Int), M1) ∧ (∀ j, j < i → mI M1 (B + 113) j = mI M (B + 111) j) ∧ zAg (fun b _ => b = B + 113) M M1) 16 (fun i hi s hI => by
    obtain ⟨M1, rfl, h1, hA1⟩ := hI
    refine ⟨(B + 105, x1, iI ((i + 1 : Nat) : Int), setI M1 (B + 113) i (mI M (B + 111) i)), ⟨_, rfl, fun j hj => ?_, hA1.setI (by rfl)⟩, fun rec => ?_⟩
    · rw [mI_ite]
      by_cases c : j = i
      · rw [if_pos ⟨rfl, by omega⟩, c]
      · rw [if_neg (fun q => c (by omega)), h1 j (by omega)]
    · show F_Mo_orders_L104 n E S rec (B + 105) x1 (iI (i : Int)) M1 = _
      unfold F_Mo_orders_L104
      rw [show (16 : Int32) = iI 16 by decide, if_neg (cleF (by omega) (by omega) (by omega)), hS.g105_10, obs, hS.g105_7, obs, hS.r111 (by omega) (by omega), obs, hS.w113 (by omega) (by omega), obs, iL1, iI_add, Int.toNat_natCast, (hA1 _ _ (by omega)).1]
      rfl) n 0 (B + 105, x1, 0, M) (by omega) (by omega) ⟨M, rfl, fun j hj => by omega, zAg.rfl'⟩
  refine ⟨M1, ?_, h1, hA1⟩
  rw [e, hs']
  show F_Mo_orders_L104 n E S _ (B + 105) x1 (iI ((16 : Nat) : Int)) M1 = _
  unfold F_Mo_orders_L104
  rw [if_pos (by decide), hS.p105, obs, hS.p105, obs]
  rfl
theorem gb_8 (hS : ShOK S B) (hn : 1000 ≤ n) (x1 : Int32) : ∃ M', F_Mo_giveBack_b8 n E S (B + 105, x1, 0, M) = F_Mo_giveBack_b35 n E S (B + 105, x1, 0, M') ∧ (∀ j, j < 800 → mI M' (B + 110) j = mI M (B + 112) j) ∧ zAg (fun b _ => b = B + 110) M M' := by
  unfold F_Mo_giveBack_b8
  obtain ⟨s', m, ⟨M1, hs', h1, hA1⟩, e⟩ := zfix_inv (F := fun r8 s => F_Mo_giveBack_L8 n E S r8 s.1 s.2.1 s.2.2.1 s.2.2.2) (fun i s => ∃ M1, s = (B + 105, x1, iI (i : Int), M1) ∧ (∀ j, j < i → mI M1 (B + 110) j = mI M (B + 112) j) ∧ zAg (fun b _ => b = B + 110) M M1) 800 (fun i hi s hI => by
    obtain ⟨M1, rfl, h1, hA1⟩ := hI
    refine ⟨(B + 105, x1, iI ((i + 1 : Nat) : Int), setI M1 (B + 110) i (mI M (B + 112) i)), ⟨_, rfl, fun j hj => ?_, hA1.setI (by rfl)⟩, fun rec => ?_⟩
    · rw [mI_ite]
      by_cases c : j = i
      · rw [if_pos ⟨rfl, by omega⟩, c]
      · rw [if_neg (fun q => c (by omega)), h1 j (by omega)]
    · show F_Mo_giveBack_L8 n E S rec (B + 105) x1 (iI (i : Int)) M1 = _
      unfold F_Mo_giveBack_L8
      rw [show (800 : Int32) = iI 800 by decide, if_neg (cleF (by omega) (by omega) (by omega)), hS.g105_6, obs, hS.g105_9, obs, hS.r112 (by omega) (by omega), obs, hS.w110 (by omega) (by omega), obs, iL1, iI_add, Int.toNat_natCast, (hA1 _ _ (by omega)).1]
      rfl) n 0 (B + 105, x1, 0, M) (by omega) (by omega) ⟨M, rfl, fun j hj => by omega, zAg.rfl'⟩
  refine ⟨M1, ?_, h1, hA1⟩
  rw [e, hs']
  show F_Mo_giveBack_L8 n E S _ (B + 105) x1 (iI ((800 : Nat) : Int)) M1 = _
  unfold F_Mo_giveBack_L8
  rw [if_pos (by decide)]
theorem gb_35 (hS : ShOK S B) (hn : 1000 ≤ n) (x1 : Int32) : ∃ M', F_Mo_giveBack_b35 n E S (B + 105, x1, 0, M) = some (setI M' (B + 105) 8 x1) ∧ (∀ j, j < 16 → mI M' (B + 111) j = mI M (B + 113) j) ∧ zAg (fun b _ => b = B + 111) M M' := by
  unfold F_Mo_giveBack_b35
  obtain ⟨s', m, ⟨M1, hs', h1, hA1⟩, e⟩ := zfix_inv (F := fun r35 s => F_Mo_giveBack_L35 n E S r35 s.1 s.2.1 s.2.2.1 s.2.2.2) (fun i s => ∃ M1, s = (B + 105, x1, iI (i : Int), M1) ∧ (∀ j, j < i → mI M1 (B + 111) j = mI M (B + 113) j) ∧ zAg (fun b _ => b = B + 111) M M1) 16 (fun i hi s hI => by
    obtain ⟨M1, rfl, h1, hA1⟩ := hI
    refine ⟨(B + 105, x1, iI ((i + 1 : Nat) : Int), setI M1 (B + 111) i (mI M (B + 113) i)), ⟨_, rfl, fun j hj => ?_, hA1.setI (by rfl)⟩, fun rec => ?_⟩
    · rw [mI_ite]
      by_cases c : j = i
      · rw [if_pos ⟨rfl, by omega⟩, c]
      · rw [if_neg (fun q => c (by omega)), h1 j (by omega)]
    · show F_Mo_giveBack_L35 n E S rec (B + 105) x1 (iI (i : Int)) M1 = _
      unfold F_Mo_giveBack_L35
      rw [show (16 : Int32) = iI 16 by decide, if_neg (cleF (by omega) (by omega) (by omega)), hS.g105_7, obs, hS.g105_10, obs, hS.r113 (by omega) (by omega), obs, hS.w111 (by omega) (by omega), obs, iL1, iI_add, Int.toNat_natCast, (hA1 _ _ (by omega)).1]
      rfl) n 0 (B + 105, x1, 0, M) (by omega) (by omega) ⟨M, rfl, fun j hj => by omega, zAg.rfl'⟩
  refine ⟨M1, ?_, h1, hA1⟩
  rw [e, hs']
  show F_Mo_giveBack_L35 n E S _ (B + 105) x1 (iI ((16 : Nat) : Int)) M1 = _
  unfold F_Mo_giveBack_L35
  rw [if_pos (by decide), hS.p105, obs]
theorem PM.same {M' : zH} (h : PM M B T) (hu : pU T ≤ 16) (h1 : mI M' (B + 105) 8 = mI M (B + 105) 8) (h2 : ∀ j, j < 800 → mI M' (B + 110) j = mI M (B + 110) j) (h3 : ∀ j, j < 16 → mI M' (B + 111) j = mI M (B + 111) j) : PM M' B T := ⟨h1.trans h.1, fun i hi => ⟨(h3 _ (by omega)).trans (h.2 i hi).1, fun k hk => (h2 _ (by omega)).trans ((h.2 i hi).2 k hk)⟩⟩
theorem MN.row {M' : zH} (h : MN M B N Ls) (h20 : mI M' (B + 105) 20 = 0) (hr : ∀ j, mI M' (B + 107) j = mI M (B + 107) j) : MN M' B N Ls := ⟨h20, h.2.1.cg (fun i _ => hr i), h.2.2.1, fun j hj hl => (h.2.2.2 j hj hl).cg (fun i _ _ => hr i)⟩
theorem mo_run (hS : ShOK S B) (hn : 1000 ≤ n) (hM : MN M B N Ls) (hP : PM M B T) (hJ : PJ N T) (hh : N 9 0 ≤ 999) (hC : MC M B mo ma nc cl DD) (hD : ∀ c, c < cl → (0 ≤ (DD c).1 ∧ (DD c).1 ≤ 3 ∧ 1 ≤ (DD c).2.1 ∧ (DD c).2.1 ≤ 20) ∧ ∀ g, (DD c).2.2.2.2 = some g → tst g) : (∀ i, runO DD Ls cl 0 (N, T, 0, -1) = Sum.inl i → ∃ M3, moT n E S B M = F_Mo_tell n E S (B + 105) (iI (-3)) M3 ∧ MN M3 B N Ls ∧ PM M3 B T ∧ mI M3 (B + 105) 52 = iI (i : Int) ∧ zAg (moX B) M M3) ∧ ∀ y, runO DD Ls cl 0 (N, T, 0, -1) = Sum.inr y → ∃ M3, moT n E S B M = F_Mo_tell n E S (B + 105) (iI y.2.2.1) M3 ∧ MN M3 B y.1 Ls ∧ PM M3 B y.2.1 ∧ mI M3 (B + 105) 52 = mI M (B + 105) 52 ∧ zAg (moX B) M M3 := by
  have hN := hM.2.2.1
  obtain ⟨Ma, ea, ka, za⟩ := s_keepAll (n := n) (E := E) (M := M) (k := 17) hS (by omega) (by omega)
  have ea' : F_Mo_keepAll n E S (B + 105) 17 M = some Ma := ea
  obtain ⟨Mb, eb, kb, zb⟩ := mo_77 (n := n) (E := E) (M := Ma) hS hn (iI (pU T : Int))
  obtain ⟨Mc, ec, kc, zc⟩ := mo_104 (n := n) (E := E) (M := Mb) hS hn (iI (pU T : Int))
  have hA1 : zAg (fun b j => (b = B + 110 ∧ 850 ≤ j) ∨ b = B + 112 ∨ b = B + 113 ∨ (b = B + 105 ∧ (j = 50 ∨ j = 51))) M (setI (setI Mc (B + 105) 50 (iI 0)) (B + 105) 51 (iI (-1))) := ((((za.mono (fun b j q => by omega)).trans (zb.mono (fun b j q => by omega))).trans (zc.mono (fun b j q => by omega))).setI (by omega)).setI (by omega)
  have g50 : mI (setI (setI Mc (B + 105) 50 (iI 0)) (B + 105) 51 (iI (-1))) (B + 105) 50 = iI 0 := by rw [mI_i (by decide), mI_s]
  have g51 : mI (setI (setI Mc (B + 105) 50 (iI 0)) (B + 105) 51 (iI (-1))) (B + 105) 51 = iI (-1) := mI_s
  have g110 : ∀ j, j < 50 → mI (setI (setI Mc (B + 105) 50 (iI 0)) (B + 105) 51 (iI (-1))) (B + 110) (850 + j) = mI M (B + 107) (4 + j) := fun j hj => by
    rw [mI_a (by omega), mI_a (by omega), (zc _ _ (by omega)).1, (zb _ _ (by omega)).1]; exact ka j hj
  have g112 : ∀ j, j < 800 → mI (setI (setI Mc (B + 105) 50 (iI 0)) (B + 105) 51 (iI (-1))) (B + 112) j = mI M (B + 110) j := fun j hj => by
    rw [mI_a (by omega), mI_a (by omega), (zc _ _ (by omega)).1, kb j hj, (za _ _ (by omega)).1]
  have g113 : ∀ j, j < 16 → mI (setI (setI Mc (B + 105) 50 (iI 0)) (B + 105) 51 (iI (-1))) (B + 113) j = mI M (B + 111) j := fun j hj => by
    rw [mI_a (by omega), mI_a (by omega), kc j hj, (zb _ _ (by omega)).1, (za _ _ (by omega)).1]
  have start : moT n E S B M = F_Mo_orders_b140 n E S (B + 105, iI (pU T : Int), 0, setI (setI Mc (B + 105) 50 (iI 0)) (B + 105) 51 (iI (-1))) := by
    unfold moT
    rw [ea', obs, hS.i105, obs, (za _ _ (by omega)).1, hP.1, eb, ec]
  rw [start]
  generalize setI (setI Mc (B + 105) 50 (iI 0)) (B + 105) 51 (iI (-1)) = Md at hA1 g50 g51 g110 g112 g113
  have hR : MRS Md B Ls (N, T, 0, -1) := ⟨hM.ag hA1 (fun j => by omega) (by omega), hP.ag hJ.1 hA1 (by omega) (fun j hj => by omega) (fun j _ => by omega), g50, g51⟩
  have hO : StO (N, T, 0, -1) 0 := ⟨hJ, hN, hh, ⟨Int.le_refl _, Int.le_refl _⟩, ⟨Int.le_refl _, by show (-1 : Int) ≤ 297; decide⟩⟩
  have hcl := hC.2.2.1
  have hC1 : MC Md B mo ma nc cl DD := ⟨hC.1.ag hA1 (fun j => by omega) (fun j => by omega), by rw [(hA1 _ _ (by omega)).1]; exact hC.2.1, hcl, fun c hc => (hC.2.2.2 c hc).fr hA1 (fun j => by omega)⟩
  have hA1' : zAg (moX B) M Md := hA1.mono (fun b j q => by unfold moX; omega)
  obtain ⟨a1, a2⟩ := mr_run (n := n) (E := E) hS hn hcl hD (iI (pU T : Int)) cl 0 n Md (N, T, 0, -1) 0 (by omega) (by omega) hC1 hR hO (by omega)
  refine ⟨fun i e => ?_, fun y e => ?_⟩
  · obtain ⟨Mu, eu, y20, zu⟩ := a1 i e
    have eu' : F_Mo_orders_b140 n E S (B + 105, iI (pU T : Int), 0, Md) = gvM n E S B (iI (pU T : Int)) (iI (i : Int)) Mu := eu
    obtain ⟨Mv, ev, kv, zv⟩ := s_putBack (n := n) (E := E) (M := Mu) (k := 17) hS (by omega) (by omega)
    have ev' : F_Mo_putBack n E S (B + 105) 17 Mu = some Mv := ev
    obtain ⟨Mw, ew, kw, zw⟩ := gb_8 (n := n) (E := E) (M := Mv) hS hn (iI (pU T : Int))
    obtain ⟨Mx, ex, kx, zx⟩ := gb_35 (n := n) (E := E) (M := Mw) hS hn (iI (pU T : Int))
    have hA2 : zAg (moX B) M (setI (setI Mx (B + 105) 8 (iI (pU T : Int))) (B + 105) 52 (iI (i : Int))) := ((((((hA1'.trans (mru_mo zu)).trans (zv.mono (fun b j q => by unfold moX; omega))).trans (zw.mono (fun b j q => by unfold moX; omega))).trans (zx.mono (fun b j q => by unfold moX; omega))).setI (by unfold moX; omega))).setI (by unfold moX; omega)
    refine ⟨setI (setI Mx (B + 105) 8 (iI (pU T : Int))) (B + 105) 52 (iI (i : Int)), ?_, hM.row ?_ (fun j => ?_), hP.same hJ.1 ?_ (fun j hj => ?_) (fun j hj => ?_), mI_s, hA2⟩
    · rw [eu']
      unfold gvM F_Mo_giveBack
      rw [hS.ck105, obs, ev', obs, ew, ex, obs, hS.p105, obs, show (-3 : Int32) = iI (-3) by decide, bind_e]
    · rw [mI_i (by decide), mI_i (by decide), (zx _ _ (by omega)).1, (zw _ _ (by omega)).1, (zv _ _ (by omega)).1]; exact y20
    · by_cases c : 4 ≤ j ∧ j < 54
      · obtain ⟨k, rfl⟩ : ∃ k, j = 4 + k := ⟨j - 4, by omega⟩
        rw [mI_a (by omega), mI_a (by omega), (zx _ _ (by omega)).1, (zw _ _ (by omega)).1, kv k (by omega), (zu _ _ (fun q => by have := mru_b q; omega)).1]
        exact g110 k (by omega)
      · rw [(hA2 _ _ (by unfold moX; omega)).1]
    · rw [mI_i (by decide), mI_s]; exact hP.1.symm
    · rw [mI_a (by omega), mI_a (by omega), (zx _ _ (by omega)).1, kw j hj, (zv _ _ (by omega)).1, (zu _ _ (fun q => by have := mru_b q; omega)).1]; exact g112 j hj
    · rw [mI_a (by omega), mI_a (by omega), kx j hj, (zw _ _ (by omega)).1, (zv _ _ (by omega)).1, (zu _ _ (fun q => by have := mru_b q; omega)).1]; exact g113 j hj
  · obtain ⟨Mu, eu, hu, zu⟩ := a2 y e
    have eu' : F_Mo_orders_b140 n E S (B + 105, iI (pU T : Int), 0, Md) = F_Mo_tell n E S (B + 105) (iI y.2.2.1) Mu := eu
    exact ⟨Mu, eu', hu.1, hu.2.1, by rw [(zu _ _ (fun q => by have := mru_b q; omega)).1, (hA1 _ _ (by omega)).1], hA1'.trans (mru_mo zu)⟩
end
