/-! orders: the class, from a good text on -/
def coT (n : Nat) (E : zE) (S : zS) (B : Nat) (M : zH) : Option (Int32 × zH) := (F_Ni_copyFrom n E S (B + 51) (B + 1) M).bind fun q_13 => (F_Pt_copyFrom n E S (B + 65) (B + 63) q_13).bind fun q_17 => (F_Ru_run n E S (B + 81) (B + 1) (B + 63) (B + 70) q_17).bind fun q_21 => (zpI S q_21.2 (B + 0) 10 18 q_21.1).bind fun m_22 => (zgI S m_22 (B + 0) 10 18).bind fun v_23 => if v_23 = -1 then (zgI S m_22 (B + 81) 7 4).bind fun v_25 => (F_NC_accept n E S (B + 0) v_25 m_22).bind fun q_26 => some (q_26.1, q_26.2) else (F_Ni_copyFrom n E S (B + 1) (B + 51) m_22).bind fun q_28 => (F_Pt_copyFrom n E S (B + 63) (B + 65) q_28).bind fun q_30 => (F_NC_refuse n E S (B + 0) (-3) q_30).bind fun q_31 => some (q_31.1, q_31.2)
def coX (B : Nat) : Nat → Nat → Prop := fun b j => ruX B b j ∨ (B + 1 ≤ b ∧ b ≤ B + 12) ∨ (B + 51 ≤ b ∧ b ≤ B + 62) ∨ (b = B + 63 ∧ j = 1) ∨ b = B + 64 ∨ b = B + 65 ∨ b = B + 66 ∨ (b = B + 0 ∧ j = 18)
theorem nA51 {B : Nat} : nightAt B (B + 51) := by unfold nightAt; omega
section
variable {n : Nat} {E : zE} {S : zS} {M : zH} {B : Nat} {N : Nt} {Ls : Nat → Lw} {T : Pst} {len cl : Nat} {st : Nat → Int} {DD : Nat → Ds} {wm : Nat → Nat} {mk : Nat → Nat → Nat}
theorem s_pcopy (hS : ShOK S B) : F_Pt_copyFrom n E S (B + 65) (B + 63) M = some (setI (cpyM M (B + 64) (B + 66) 96) (B + 65) 1 (mI M (B + 63) 1)) := by
  have e : zcpy S M (B + 64) 0 (B + 66) 0 (iI 96) = some (cpyM M (B + 64) (B + 66) 96) := pz_cpy (hS.k 64 (by decide)) (hS.k 66 (by decide)) (hS.n 64 (by decide)) (hS.n 66 (by decide)) (by decide)
  have e3 : mI (cpyM M (B + 64) (B + 66) 96) (B + 63) 1 = mI M (B + 63) 1 := by rw [mI_cpy, if_neg (by omega)]
  unfold F_Pt_copyFrom
  rw [hS.g63_0, obs, hS.g65_0, obs, hS.l66, obs, e, obs, hS.i63, obs, hS.p65, obs, e3]
theorem s_pcopy' (hS : ShOK S B) : F_Pt_copyFrom n E S (B + 63) (B + 65) M = some (setI (cpyM M (B + 66) (B + 64) 96) (B + 63) 1 (mI M (B + 65) 1)) := by
  have e : zcpy S M (B + 66) 0 (B + 64) 0 (iI 96) = some (cpyM M (B + 66) (B + 64) 96) := pz_cpy (hS.k 66 (by decide)) (hS.k 64 (by decide)) (hS.n 66 (by decide)) (hS.n 64 (by decide)) (by decide)
  have e3 : mI (cpyM M (B + 66) (B + 64) 96) (B + 65) 1 = mI M (B + 65) 1 := by rw [mI_cpy, if_neg (by omega)]
  unfold F_Pt_copyFrom
  rw [hS.g65_0, obs, hS.g63_0, obs, hS.l64, obs, e, obs, hS.i65, obs, hS.p63, obs, e3]
theorem PC.same {M' : zH} (h : PC M B T) (hu : pU T ≤ 16) (h1 : mI M' (B + 63) 1 = mI M (B + 63) 1) (h2 : ∀ j, j < 96 → mI M' (B + 64) j = mI M (B + 64) j) : PC M' B T := ⟨h1.trans h.1, fun i hi => ⟨(h2 _ (by omega)).trans (h.2 i hi).1, (h2 _ (by omega)).trans (h.2 i hi).2.1, (h2 _ (by omega)).trans (h.2 i hi).2.2.1, fun k hk => (h2 _ (by omega)).trans ((h.2 i hi).2.2.2 k hk)⟩⟩
theorem co_run (hS : ShOK S B) (hn : 1000 ≤ n) (hC : CN S M B (B + 1) N Ls) (hP : PC M B T) (hJ : PJ N T) (hh : N 9 0 ≤ 999) (hT : TR S M B len cl st DD wm mk) (hcl : cl ≤ 12) (hD : ∀ c, c < cl → 0 ≤ (DD c).1 ∧ (DD c).1 ≤ 3 ∧ 1 ≤ (DD c).2.1 ∧ (DD c).2.1 ≤ 20) : (∀ i, runO DD Ls cl 0 (N, T, 0, -1) = Sum.inl i → i < cl ∧ ∃ M1, coT n E S B M = F_NC_answered n E S (B + 0) (iI (-3)) M1 ∧ CN S M1 B (B + 1) N Ls ∧ PC M1 B T ∧ mI M1 (B + 0) 18 = iI (i : Int) ∧ zAg (coX B) M M1) ∧ ∀ y, runO DD Ls cl 0 (N, T, 0, -1) = Sum.inr y → ∃ M1, coT n E S B M = F_NC_answered n E S (B + 0) (iI y.2.2.1) M1 ∧ CN S M1 B (B + 1) y.1 Ls ∧ PC M1 B y.2.1 ∧ StO y 240 ∧ mI M1 (B + 0) 18 = iI (-1) ∧ zAg (coX B) M M1 := by
  have hN := hC.2.1
  obtain ⟨Mr, er, rr, lr, zr⟩ := s_copyFrom (n := n) (E := E) (nA51.ni hS) (nA1.ni hS) hC.1 hN (Or.inr (by omega)) (by omega) (fun j hj t e => ((hC.2.2 j hj).1 t e).1)
  have hA1 : zAg (fun b j => (B + 51 ≤ b ∧ b ≤ B + 62) ∨ b = B + 65 ∨ b = B + 66 ∨ (b = B + 81 ∧ (j = 4 ∨ j = 5))) M (setI (setI (setI (cpyM Mr (B + 64) (B + 66) 96) (B + 65) 1 (mI Mr (B + 63) 1)) (B + 81) 4 (iI 0)) (B + 81) 5 (iI (-1))) := ((((zr.mono (fun b j q => by unfold nCells at q; omega)).cpy (fun j _ => by omega)).setI (by omega)).setI (by omega)).setI (by omega)
  have f65 : mI (setI (setI (setI (cpyM Mr (B + 64) (B + 66) 96) (B + 65) 1 (mI Mr (B + 63) 1)) (B + 81) 4 (iI 0)) (B + 81) 5 (iI (-1))) (B + 65) 1 = mI M (B + 63) 1 := by
    rw [mI_a (by omega), mI_a (by omega), mI_s, (zr _ _ (by unfold nCells; omega)).1]
  have f66 : ∀ j, j < 96 → mI (setI (setI (setI (cpyM Mr (B + 64) (B + 66) 96) (B + 65) 1 (mI Mr (B + 63) 1)) (B + 81) 4 (iI 0)) (B + 81) 5 (iI (-1))) (B + 66) j = mI M (B + 64) j := fun j hj => by
    rw [mI_a (by omega), mI_a (by omega), mI_a (by omega), mI_cpy, if_pos ⟨rfl, hj⟩, (zr _ _ (by unfold nCells; omega)).1]
  have hB1 : zAg (fun b j => b = B + 65 ∨ b = B + 66 ∨ b = B + 81) Mr (setI (setI (setI (cpyM Mr (B + 64) (B + 66) 96) (B + 65) 1 (mI Mr (B + 63) 1)) (B + 81) 4 (iI 0)) (B + 81) 5 (iI (-1))) := (((zAg.rfl'.cpy (fun j _ => by omega)).setI (by omega)).setI (by omega)).setI (by omega)
  have r51 : NiR (setI (setI (setI (cpyM Mr (B + 64) (B + 66) 96) (B + 65) 1 (mI Mr (B + 63) 1)) (B + 81) 4 (iI 0)) (B + 81) 5 (iI (-1))) (B + 51) N := rr.ag hB1 (fun b j q1 q2 => by omega)
  have l51 : ∀ j, j < 6 → mR (setI (setI (setI (cpyM Mr (B + 64) (B + 66) 96) (B + 65) 1 (mI Mr (B + 63) 1)) (B + 81) 4 (iI 0)) (B + 81) 5 (iI (-1))) (B + 51 + 11) j = mR M (B + 1 + 11) j := fun j hj => by rw [(hB1 _ _ (by omega)).2.2]; exact lr j hj
  have f4 : mI (setI (setI (setI (cpyM Mr (B + 64) (B + 66) 96) (B + 65) 1 (mI Mr (B + 63) 1)) (B + 81) 4 (iI 0)) (B + 81) 5 (iI (-1))) (B + 81) 4 = iI 0 := by rw [mI_i (by decide), mI_s]
  have f5 : mI (setI (setI (setI (cpyM Mr (B + 64) (B + 66) 96) (B + 65) 1 (mI Mr (B + 63) 1)) (B + 81) 4 (iI 0)) (B + 81) 5 (iI (-1))) (B + 81) 5 = iI (-1) := mI_s
  have start : coT n E S B M = (F_Ru_run_b13 n E S (B + 81, B + 1, B + 63, B + 70, iI ((0 : Nat) : Int), setI (setI (setI (cpyM Mr (B + 64) (B + 66) 96) (B + 65) 1 (mI Mr (B + 63) 1)) (B + 81) 4 (iI 0)) (B + 81) 5 (iI (-1)))).bind fun q_21 => (zpI S q_21.2 (B + 0) 10 18 q_21.1).bind fun m_22 => (zgI S m_22 (B + 0) 10 18).bind fun v_23 => if v_23 = -1 then (zgI S m_22 (B + 81) 7 4).bind fun v_25 => (F_NC_accept n E S (B + 0) v_25 m_22).bind fun q_26 => some (q_26.1, q_26.2) else (F_Ni_copyFrom n E S (B + 1) (B + 51) m_22).bind fun q_28 => (F_Pt_copyFrom n E S (B + 63) (B + 65) q_28).bind fun q_30 => (F_NC_refuse n E S (B + 0) (-3) q_30).bind fun q_31 => some (q_31.1, q_31.2) := by
    unfold coT F_Ru_run
    rw [er, obs, s_pcopy hS, obs, hS.p81, obs, hS.p81, obs]
    rfl
  rw [start]
  generalize setI (setI (setI (cpyM Mr (B + 64) (B + 66) 96) (B + 65) 1 (mI Mr (B + 63) 1)) (B + 81) 4 (iI 0)) (B + 81) 5 (iI (-1)) = Mt at hA1 f65 f66 r51 l51 f4 f5
  have hR : RS S Mt B Ls (N, T, 0, -1) := ⟨hC.ag hA1 (fun b j q => by omega), hP.ag hA1 (by omega) (fun j => by omega), f4, f5⟩
  have hO : StO (N, T, 0, -1) 0 := ⟨hJ, hN, hh, ⟨Int.le_refl _, Int.le_refl _⟩, ⟨Int.le_refl _, by show (-1 : Int) ≤ 297; decide⟩⟩
  have hT1 := hT.ag hA1 (fun b j q1 q2 => by omega)
  have hA1' : zAg (coX B) M Mt := hA1.mono (fun b j q => by unfold coX ruX dfX cScr; omega)
  obtain ⟨a1, a2⟩ := cr_run (n := n) (E := E) hS hn hcl hD cl 0 n Mt (N, T, 0, -1) 0 (by omega) (by omega) hT1 hR hO (by omega)
  refine ⟨fun i e => ?_, fun y e => ?_⟩
  · obtain ⟨hi, Mu, eu, zu⟩ := a1 i e
    have eu' : F_Ru_run_b13 n E S (B + 81, B + 1, B + 63, B + 70, iI ((0 : Nat) : Int), Mt) = some (iI (i : Int), Mu) := eu
    refine ⟨hi, ?_⟩
    have zv : zAg (fun b j => ruX B b j ∨ (b = B + 0 ∧ j = 18)) Mt (setI Mu (B + 0) 18 (iI (i : Int))) := (zu.mono (fun b j q => Or.inl q)).setI (Or.inr ⟨rfl, rfl⟩)
    have r18 : mI (setI Mu (B + 0) 18 (iI (i : Int))) (B + 0) 18 = iI (i : Int) := mI_s
    rw [eu', obs]
    dsimp only
    rw [hS.p0, obs, hS.i0, obs, mI_s, if_neg (show ¬ iI (i : Int) = -1 from ceqF (y := -1) (by omega) (by omega) (by omega) (by omega) (by omega))]
    generalize setI Mu (B + 0) 18 (iI (i : Int)) = Mv at zv r18
    have hCv : CN S Mv B (B + 51) N Ls := hC.copy (r51.ag zv (fun b j q1 q2 => by unfold ruX dfX cScr; omega)) (fun j hj => by rw [(zv _ _ (by unfold ruX dfX cScr; omega)).2.2]; exact l51 j hj) ((hA1.mono (fun b j q => Or.inl q)).trans (zv.mono (fun b j q => Or.inr q))) (fun b j q => by unfold ruX dfX cScr at q; omega)
    obtain ⟨Mw, ew, rw', lw', zw⟩ := s_copyFrom (n := n) (E := E) (nA1.ni hS) (nA51.ni hS) hCv.1 hN (Or.inl (by omega)) (by omega) (fun j hj t e => ((hCv.2.2 j hj).1 t e).1)
    have hCw : CN S Mw B (B + 1) N Ls := hCv.copy rw' lw' zw (fun b j q => by unfold nCells at q; omega)
    have zx : zAg (fun b j => b = B + 64 ∨ (b = B + 63 ∧ j = 1)) Mw (setI (cpyM Mw (B + 66) (B + 64) 96) (B + 63) 1 (mI Mw (B + 65) 1)) := (zAg.rfl'.cpy (fun j _ => by omega)).setI (by omega)
    refine ⟨setI (cpyM Mw (B + 66) (B + 64) 96) (B + 63) 1 (mI Mw (B + 65) 1), ?_, hCw.ag zx (fun b j q => by omega), hP.same hJ.1 ?_ (fun j hj => ?_), ?_, ((hA1'.trans (zv.mono (fun b j q => q.elim (fun q => Or.inl q) (fun q => by unfold coX; omega)))).trans (zw.mono (fun b j q => by unfold nCells at q; unfold coX; omega))).trans (zx.mono (fun b j q => by unfold coX; omega))⟩
    · rw [ew, obs, s_pcopy' hS, obs, show (-3 : Int32) = iI (-3) by decide, bind_e]
      exact (ans_rf hS (by unfold isRf; omega)).symm
    · rw [mI_s, (zw _ _ (by unfold nCells; omega)).1, (zv _ _ (by unfold ruX dfX cScr; omega)).1]; exact f65
    · rw [mI_a (by omega), mI_cpy, if_pos ⟨rfl, hj⟩, (zw _ _ (by unfold nCells; omega)).1, (zv _ _ (by unfold ruX dfX cScr; omega)).1]; exact f66 j hj
    · rw [(zx _ _ (by omega)).1, (zw _ _ (by unfold nCells; omega)).1]; exact r18
  · obtain ⟨Mu, eu, hu, ou, zu⟩ := a2 y e
    have eu' : F_Ru_run_b13 n E S (B + 81, B + 1, B + 63, B + 70, iI ((0 : Nat) : Int), Mt) = some (iI (-1), Mu) := eu
    have zv : zAg (fun b j => b = B + 0 ∧ j = 18) Mu (setI Mu (B + 0) 18 (iI (-1))) := zAg.rfl'.setI ⟨rfl, rfl⟩
    have ou' : StO y 240 := ⟨ou.1, ou.2.1, ou.2.2.1, ⟨ou.2.2.2.1.1, by have := ou.2.2.2.1.2; omega⟩, ou.2.2.2.2⟩
    refine ⟨setI Mu (B + 0) 18 (iI (-1)), ?_, hu.1.ag zv (fun b j q => by omega), hu.2.1.ag zv (by omega) (fun j => by omega), ou', mI_s, (hA1'.trans (zu.mono (fun b j q => Or.inl q))).trans (zv.mono (fun b j q => by unfold coX; omega))⟩
    rw [eu', obs]
    dsimp only
    rw [hS.p0, obs, hS.i0, obs, mI_s, if_pos (show iI (-1) = -1 by decide), hS.i81, obs, mI_a (by omega), hu.2.2.1, bind_e]
    exact (ans_ac hS ou'.2.2.2.1.1 (by have := ou'.2.2.2.1.2; omega)).symm
end
