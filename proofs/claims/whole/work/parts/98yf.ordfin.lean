/-! orders: both sides agree -/
def odX (B : Nat) : Nat → Nat → Prop := fun b j => (b = B + 0 ∧ (j = 17 ∨ j = 18)) ∨ (B + 1 ≤ b ∧ b ≤ B + 12) ∨ (B + 51 ≤ b ∧ b ≤ B + 84 ∧ b ≠ B + 68)
def omX (B : Nat) : Nat → Nat → Prop := fun b j => (b = B + 105 ∧ (j = 0 ∨ j = 8 ∨ (13 ≤ j ∧ j ≤ 21) ∨ j = 23 ∨ j = 26 ∨ j = 29 ∨ j = 30 ∨ j = 34 ∨ (38 ≤ j ∧ j ≤ 40) ∨ (50 ≤ j ∧ j ≤ 53))) ∨ b = B + 107 ∨ (B + 110 ≤ b ∧ b ≤ B + 119 ∧ b ≠ B + 114) ∨ (B + 123 ≤ b ∧ b ≤ B + 126) ∨ b = B + 134
section
variable {n : Nat} {E : zE} {S : zS} {M M' : zH} {B : Nat} {tb : Nat → Int} {l : Nat}
theorem ord_text (hS : ShOK S B) (hn : 1000 ≤ n) (hT : TC M B tb l) : ∃ M', zAg (taX B) M M' ∧ ((∃ s' : Nat, F_Ps_parse n E S (B + 69) (bI true) M = some (iI (s' : Int), M') ∧ s' ≤ l ∧ ∀ (S' : zS), ShOK S' B → ∀ MM, TM MM B tb l → ConR MM B → ∃ MM1 MM' MM'', F_Mo_beginText n E S' (B + 105) (bI true) MM = some MM1 ∧ ((F_Mo_readOrder n E S' (B + 105) MM1).bind fun q => F_Mo_orders_b19 n E S' (B + 105, q)) = F_Mo_orders_b46 n E S' (B + 105) MM' ∧ F_Mo_endText n E S' (B + 105) MM' = some MM'' ∧ MBd MM'' B s' ∧ (mI MM'' (B + 105) 20 = iI 0 ∧ mI MM'' (B + 105) 13 = iI 0) ∧ zAg (qmA B true) MM MM'') ∨
    (∃ (s' : Nat) (st' : Nat → Int) (len' pt' cl' : Nat) (D' : Nat → Ds), F_Ps_parse n E S (B + 69) (bI true) M = some (iI (-1), M') ∧ CB M' B true tb l cl' s' st' len' pt' ∧ (∀ c, c < cl' → QC M' B true st' len' c (D' c)) ∧ ∀ (S' : zS), ShOK S' B → ∀ MM, TM MM B tb l → ConR MM B → ∃ (MM1 MM' MM'' : zH) (mo' ma' : Nat → Int) (nc' : Nat), F_Mo_beginText n E S' (B + 105) (bI true) MM = some MM1 ∧ ((F_Mo_readOrder n E S' (B + 105) MM1).bind fun q => F_Mo_orders_b19 n E S' (B + 105, q)) = F_Mo_orders_b46 n E S' (B + 105) MM' ∧ F_Mo_endText n E S' (B + 105) MM' = some MM'' ∧ (mI MM'' (B + 105) 19 = iI 0 ∧ mI MM'' (B + 105) 20 = iI 0 ∧ mI MM'' (B + 105) 13 = iI 0 ∧ mI MM'' (B + 105) 21 = iI (cl' : Int) ∧ mI MM'' (B + 105) 18 = iI (-1)) ∧ (mI MM'' (B + 105) 23 = iI (nc' : Int) ∧ nc' ≤ 400 ∧ ∀ k, k < nc' → mI MM'' (B + 116) k = iI (mo' k) ∧ mI MM'' (B + 117) k = iI (ma' k)) ∧ cBd mo' ma' nc' ∧ (∀ c, c < cl' → QM MM'' B true mo' ma' nc' c (D' c)) ∧ zAg (qmA B true) MM MM'')) :=
  sim_text (RD := fun S' MM => F_Mo_readOrder n E S' (B + 105) MM) (K := fun S' MM => F_Mo_orders_b46 n E S' (B + 105) MM) (LP := fun S' r a MM => F_Mo_orders_L19 n E S' r a MM) hS hn (fun S' rec M => rfl) (fun M cl s st len pt hB hc hl => cl_ord hS hn hB hc hl) (fun S' hS' MM s mo ma nc pt h => a_head0 hS' hn h.1 h.2.1.2 h.2.2.1 (by omega) (Or.inr rfl)) hT
theorem qm_om (h : zAg (qmA B true) M M') : zAg (omX B) M M' := h.mono (fun b j q => by have := qmA_b q; unfold omX; omega)
theorem mo_om (h : zAg (moX B) M M') : zAg (omX B) M M' := h.mono (fun b j q => by unfold moX at q; unfold omX; omega)
theorem co_oc (h : zAg (coX B) M M') : zAg (odX B) M M' := h.mono (fun b j q => by unfold coX ruX dfX cScr at q; unfold odX; omega)
theorem oc_gC (h : zAg (odX B) M M') : zAg (gC B) M M' := h.mono (fun b j q => by unfold odX at q; unfold gC gX; omega)
theorem om_gM (h : zAg (omX B) M M') : zAg (gM B) M M' := h.mono (fun b j q => by unfold omX at q; unfold gM gX; omega)
/-- the class's start -/
theorem oc_start (hS : ShOK S B) {Mp : zH} {v : Int32} (e : F_Ps_parse n E S (B + 69) (bI true) (setI M (B + 0) 18 (iI (-1))) = some (v, Mp)) : F_NC_orders n E S (B + 0) M = if v = -1 then coT n E S B (setI (setI Mp (B + 0) 17 v) (B + 67) 1 (iI 0)) else F_NC_answered n E S (B + 0) (iI (-6)) (setI (setI Mp (B + 0) 17 v) (B + 67) 1 (iI 0)) := by
  unfold F_NC_orders
  rw [show (-1 : Int32) = iI (-1) by decide, hS.p0, obs, hS.g0_8, obs, hS.ck69, obs, show (1 : Int32) = bI true from rfl, e, obs]
  dsimp only
  rw [hS.p0, obs, hS.g0_7, obs, iL0, hS.p67, obs, hS.i0, obs, mI_a (by omega), mI_s]
  by_cases c : v = iI (-1)
  · rw [if_pos c, if_pos c, hS.g0_4, obs, hS.g0_0, obs, (nA51.ni hS).ck, obs]
    unfold coT
    refine congrArg (fun f => Option.bind _ f) (funext fun q => ?_)
    rw [hS.g0_6, obs, hS.g0_5, obs, hS.ck65, obs]
    refine congrArg (fun f => Option.bind _ f) (funext fun q => ?_)
    rw [hS.g0_11, obs, hS.g69_0, obs, hS.ck81, obs]
    refine congrArg (fun f => Option.bind _ f) (funext fun q => ?_)
    refine congrArg (fun f => Option.bind _ f) (funext fun m => ?_)
    refine congrArg (fun f => Option.bind _ f) (funext fun w => ?_)
    rw [(nA1.ni hS).ck, obs, show (-1 : Int32) = iI (-1) by decide]
    by_cases d : w = iI (-1)
    · rw [if_pos d, if_pos d]
    · rw [if_neg d, if_neg d]
      refine congrArg (fun f => Option.bind _ f) (funext fun q => ?_)
      rw [hS.ck63, obs]
  · rw [if_neg c, if_neg c, show (-6 : Int32) = iI (-6) by decide, bind_e]
    exact (ans_rf hS (by unfold isRf; omega)).symm
/-- the model's start -/
theorem om_start (hS : ShOK S B) : F_Mo_orders n E S (B + 105) M = (F_Mo_beginText n E S (B + 105) (bI true) (setI (setI M (B + 105) 0 (iI 0)) (B + 105) 52 (iI (-1)))).bind fun q_41 => (F_Mo_readOrder n E S (B + 105) q_41).bind fun q_42 => F_Mo_orders_b19 n E S (B + 105, q_42) := by
  unfold F_Mo_orders
  rw [iL0, hS.p105, obs, show (-1 : Int32) = iI (-1) by decide, hS.p105, obs, hS.ck105, obs]
  rfl
theorem ord_fin (h : Inv S M B) {N' : Nt} {Ls : Nat → Lw} {T' : Pst} {v s : Int} (hv : (0 ≤ v ∧ v ≤ 1000000000) ∨ isRf v) {M1 : zH} (e1 : F_NC_orders n E S (B + 0) M = F_NC_answered n E S (B + 0) (iI v) M1) (hA1 : zAg (odX B) M M1) (hC1 : CN S M1 B (B + 1) N' Ls) (hP1 : PC M1 B T') (hJ' : PJ N' T') (hh' : N' 9 0 ≤ 999) (h17 : mI M1 (B + 0) 17 = iI (-1)) (h18 : mI M1 (B + 0) 18 = iI s) (h67 : mI M1 (B + 67) 1 = iI 0) (md : ∀ M2, zAg (rfX B) M1 M2 → ∃ M3, F_Mo_orders n E S (B + 105) M2 = F_Mo_tell n E S (B + 105) (iI v) M3 ∧ MN M3 B N' Ls ∧ PM M3 B T' ∧ (mI M3 (B + 105) 52 = iI s ∧ mI M3 (B + 105) 18 = iI (-1) ∧ mI M3 (B + 105) 13 = iI 0) ∧ zAg (omX B) M2 M3) : Ag1 S B M (fun M => F_NC_orders n E S (B + 0) M) (fun M => F_Mo_orders n E S (B + 105) M) := by
  have hMi := h.2.2.2.2.2.2.1.1
  refine Ag1.ans (n := n) (E := E) h hv e1 (oc_gC hA1) (fun M2 hA2 => ?_)
  obtain ⟨M3, e3, hM3, hP3, ⟨k52, k18, k13⟩, hA3⟩ := md M2 hA2
  have hA4 : zAg (fun b j => rfX B b j ∨ omX B b j) M1 M3 := (hA2.mono (fun b j q => Or.inl q)).trans (hA3.mono (fun b j q => Or.inr q))
  have hA5 : zAg (fun b j => odX B b j ∨ rfX B b j ∨ omX B b j) M M3 := (hA1.mono (fun b j q => Or.inl q)).trans (hA4.mono (fun b j q => Or.inr q))
  refine ⟨M3, e3, om_gM hA3, ⟨N', Ls, hC1.ag hA4 (fun b j q => by unfold rfX omX at q; omega), hM3, hh', PastR.mk (hP1.ag hA4 (by unfold rfX omX; omega) (fun j => by unfold rfX omX; omega)) hP3 hJ'⟩, tape0 ?_ k13, ?_, ?_, ?_⟩
  · rw [(hA4 _ _ (by unfold rfX omX; omega)).1]; exact h67
  · rw [(hA5 _ _ (by unfold odX rfX omX; omega)).1, (hA5 _ _ (by unfold odX rfX omX; omega)).1]; exact hMi.2.1
  · rw [(hA4 _ _ (by unfold rfX omX; omega)).1, h17, k18]
  · rw [(hA4 _ _ (by unfold rfX omX; omega)).1, h18, k52]
end
