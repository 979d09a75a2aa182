/-! CASES (14): years -/
def drw (s : Int) : Int := (s * 1103 + 12345) % 1000003
theorem drw_b (s : Int) : 0 ≤ drw s ∧ drw s < 1000003 := by unfold drw; omega
/-- what a draw does ahead of the hour -/
def yrN (N : Nt) (s : Int) : Nt := if drw (drw (drw s)) % 3 = 0 then nset N 1 (drw s % 4 * 8 + drw (drw s) % 8).toNat (1 - N 1 (drw s % 4 * 8 + drw (drw s) % 8).toNat) else if drw (drw (drw s)) % 3 = 1 ∧ N 0 (drw s % 4 * 8 + drw (drw s) % 8).toNat < 9 then nset N 0 (drw s % 4 * 8 + drw (drw s) % 8).toNat (N 0 (drw s % 4 * 8 + drw (drw s) % 8).toNat + 1) else N
def yrV (Ls : Nat → Lw) : Nat → Nt → Int → Int → Nt × Int
  | 0, N, _, c => (N, c)
  | r + 1, N, s, c => if 999 ≤ N 9 0 then (N, c) else yrV Ls r (pasN (yrN N s) Ls) (drw (drw (drw s))) (c + pasV (yrN N s) Ls)
theorem yrN_ok {N : Nt} (hN : NdOK N) (s : Int) : NdOK (yrN N s) ∧ yrN N s 9 0 = N 9 0 ∧ rsEq N (yrN N s) := by
  have h1 := drw_b s
  have h2 := drw_b (drw s)
  unfold yrN
  by_cases c0 : drw (drw (drw s)) % 3 = 0
  · rw [if_pos c0]
    have hk := hN.blk (k := (drw s % 4 * 8 + drw (drw s) % 8).toNat) (by omega)
    exact ⟨hN.s1 (by omega), rfl, rsEq.rfl'⟩
  rw [if_neg c0]
  by_cases c1 : drw (drw (drw s)) % 3 = 1 ∧ N 0 (drw s % 4 * 8 + drw (drw s) % 8).toNat < 9
  · rw [if_pos c1]
    have hk := hN.bore (k := (drw s % 4 * 8 + drw (drw s) % 8).toNat) (by omega)
    exact ⟨hN.s0 (by omega) (by omega), rfl, rsEq.rfl'⟩
  · rw [if_neg c1]; exact ⟨hN, rfl, rsEq.rfl'⟩
theorem pasN_rs {N : Nt} {Ls : Nat → Lw} : rsEq N (pasN N Ls) := ⟨fun k _ => pasN_c (by decide) (by decide) (by omega), fun k _ => pasN_c (by decide) (by decide) (by omega), fun k _ => pasN_c (by decide) (by decide) (by omega), fun k _ => pasN_c (by decide) (by decide) (by omega), pasN_c (by decide) (by decide) (by decide), pasN_c (by decide) (by decide) (by decide), pasN_c (by decide) (by decide) (by decide), pasN_c (by decide) (by decide) (by decide)⟩
theorem yrV_ok {Ls : Nat → Lw} : ∀ (r : Nat) (N : Nt) (s c : Int), NdOK N → N 9 0 ≤ 999 → 0 ≤ c → NdOK (yrV Ls r N s c).1 ∧ rsEq N (yrV Ls r N s c).1 ∧ (0 ≤ (yrV Ls r N s c).2 ∧ (yrV Ls r N s c).2 ≤ c + 297 * r) := by
  intro r
  induction r with
  | zero => intro N s c hN hh hc; exact ⟨hN, rsEq.rfl', hc, show c ≤ c + 297 * ((0 : Nat) : Int) by omega⟩
  | succ r ih =>
    intro N s c hN hh hc
    by_cases d : 999 ≤ N 9 0
    · have e : yrV Ls (r + 1) N s c = (N, c) := if_pos d
      rw [e]; exact ⟨hN, rsEq.rfl', hc, show c ≤ c + 297 * ((r + 1 : Nat) : Int) by omega⟩
    · have e : yrV Ls (r + 1) N s c = yrV Ls r (pasN (yrN N s) Ls) (drw (drw (drw s))) (c + pasV (yrN N s) Ls) := if_neg d
      obtain ⟨k1, k2, k3⟩ := yrN_ok hN s
      have hv := pasV_b (Ls := Ls) k1
      obtain ⟨j1, j2, j3⟩ := ih (pasN (yrN N s) Ls) (drw (drw (drw s))) (c + pasV (yrN N s) Ls) (pasN_ok k1 (by omega)) (by rw [pasN_9]; omega) (by omega)
      rw [e]
      exact ⟨j1, (k3.trans pasN_rs).trans j2, j3.1, by omega⟩
section
variable {n : Nat} {E : zE} {S : zS} {M M' : zH} {B : Nat} {N N' : Nt} {Ls : Nat → Lw}
theorem s_draw {s : Int} (h0 : 0 ≤ s) (h1 : s ≤ 1000003) : F_De_nextDraw n E S (jJ s) M = some (jJ (drw s), M) := by
  unfold F_De_nextDraw
  rw [show (1103 : Int64) = jJ 1103 by decide, jJ_mul, show (12345 : Int64) = jJ 12345 by decide, jJ_add, show (1000003 : Int64) = jJ 1000003 by decide, jJ_rem (by omega) (by omega) (by omega) (by omega) (by decide), obs, Int.tmod_eq_emod_of_nonneg (by omega)]
  rfl
theorem remJ {s k : Int} (h0 : 0 ≤ s) (h1 : s ≤ 1000003) (k0 : 0 < k) (k1 : k ≤ 100) : zremJ (jJ s) (jJ k) = some (jJ (s % k)) := by
  rw [jJ_rem (by omega) (by omega) (by omega) (by omega) (by omega), Int.tmod_eq_emod_of_nonneg h0]
theorem nA39 : nightAt B (B + 39) := Or.inr (Or.inr (Or.inr (Or.inl rfl)))
def yeX (B : Nat) : Nat → Nat → Prop := fun b j => cScr B b j ∨ (B + 39 ≤ b ∧ b < B + 51)
theorem years_c (hS : ShOK S B) (hn : 600 ≤ n) {m : Nat} (hm : m ≤ 60) : ∀ (r i k : Nat) (N : Nt) (s c : Int) (M : zH), r + i = m → r < k → NdOK N → N 9 0 ≤ 999 → 0 ≤ s → s ≤ 1000003 → 0 ≤ c → c ≤ 297 * i → CN S M B (B + 39) N Ls → ∃ M', zfix (fun r10 s => F_De_runYears_L10 n E S r10 s.1 s.2.1 s.2.2.1 s.2.2.2.1 s.2.2.2.2.1 s.2.2.2.2.2.1 s.2.2.2.2.2.2) k (B + 80, B + 39, iI (m : Int), jJ s, iI c, iI (i : Int), M) = some (iI (yrV Ls r N s c).2, M') ∧ CN S M' B (B + 39) (yrV Ls r N s c).1 Ls ∧ zAg (yeX B) M M' := by
  have hI := (nA39 (B := B)).ni hS
  intro r
  induction r with
  | zero =>
    intro i k N s c M hr hk hN hh hs0 hs1 hc0 hc1 hC
    obtain ⟨k, rfl⟩ : ∃ k', k = k' + 1 := ⟨k - 1, by omega⟩
    refine ⟨M, ?_, hC, zAg.rfl'⟩
    show F_De_runYears_L10 n E S _ (B + 80) (B + 39) (iI (m : Int)) (jJ s) (iI c) (iI (i : Int)) M = _
    unfold F_De_runYears_L10
    rw [if_pos (cleT (by omega) (by omega) (by omega))]
    rfl
  | succ r ih =>
    intro i k N s c M hr hk hN hh hs0 hs1 hc0 hc1 hC
    obtain ⟨k, rfl⟩ : ∃ k', k = k' + 1 := ⟨k - 1, by omega⟩
    have h1 := drw_b s
    have h2 := drw_b (drw s)
    have h3 := drw_b (drw (drw s))
    have hho := hN.hour
    obtain ⟨k1, k2, k3⟩ := yrN_ok hN s
    have hv := pasV_b (Ls := Ls) k1
    show ∃ M', F_De_runYears_L10 n E S _ (B + 80) (B + 39) (iI (m : Int)) (jJ s) (iI c) (iI (i : Int)) M = some (iI (if 999 ≤ N 9 0 then (N, c) else yrV Ls r (pasN (yrN N s) Ls) (drw (drw (drw s))) (c + pasV (yrN N s) Ls)).2, M') ∧ CN S M' B (B + 39) (if 999 ≤ N 9 0 then (N, c) else yrV Ls r (pasN (yrN N s) Ls) (drw (drw (drw s))) (c + pasV (yrN N s) Ls)).1 Ls ∧ _
    have ihh := fun (hd : N 9 0 < 999) M4 hC4 => ih (i + 1) k (pasN (yrN N s) Ls) (drw (drw (drw s))) (c + pasV (yrN N s) Ls) M4 (by omega) (by omega) (pasN_ok k1 (by omega)) (by rw [pasN_9]; omega) (by omega) (by omega) (by omega) (by omega) hC4
    generalize zfix (fun r10 s => F_De_runYears_L10 n E S r10 s.1 s.2.1 s.2.2.1 s.2.2.2.1 s.2.2.2.2.1 s.2.2.2.2.2.1 s.2.2.2.2.2.2) k = rec at ihh ⊢
    unfold F_De_runYears_L10
    rw [if_neg (cleF (by omega) (by omega) (by omega)), hI.g9, obs, iL0, hI.r9 hC.1 (by omega) (by omega), obs, tn0, iL999]
    by_cases d : 999 ≤ N 9 0
    · rw [if_pos (cleT (by omega) (by omega) (by omega)), if_pos d]; exact ⟨M, rfl, hC, zAg.rfl'⟩
    · rw [if_neg (cleF (by omega) (by omega) (by omega)), if_neg d, s_draw hs0 hs1, obs, show (4 : Int64) = jJ 4 by decide, remJ h1.1 (by omega) (by decide) (by decide), obs, s_draw h1.1 (by omega), obs, show (8 : Int64) = jJ 8 by decide, remJ h2.1 (by omega) (by decide) (by decide), obs, s_draw h2.1 (by omega), obs, show (3 : Int64) = jJ 3 by decide, remJ h3.1 (by omega) (by decide) (by decide), obs, yI, yI, yI, iL8, iI_mul, iI_add]
      have fin : ∀ M3 : zH, CN S M3 B (B + 39) (yrN N s) Ls → zAg (yeX B) M M3 → ∃ M', F_De_runYears_b122 n E S rec (B + 80) (B + 39) (iI (m : Int)) (jJ (drw (drw (drw s)))) (iI c) (iI (i : Int)) M3 = some (iI (yrV Ls r (pasN (yrN N s) Ls) (drw (drw (drw s))) (c + pasV (yrN N s) Ls)).2, M') ∧ CN S M' B (B + 39) (yrV Ls r (pasN (yrN N s) Ls) (drw (drw (drw s))) (c + pasV (yrN N s) Ls)).1 Ls ∧ zAg (yeX B) M M' := fun M3 hC3 hA3 => by
        obtain ⟨M4, e4, hC4, hA4⟩ := s_hour (n := n) (E := E) hS nA39 hC3 hn (by omega)
        obtain ⟨M5, e5, hC5, hA5⟩ := ihh (by omega) M4 hC4
        refine ⟨M5, ?_, hC5, (hA3.trans (hA4.mono (fun b j q => ?_))).trans hA5⟩
        · unfold F_De_runYears_b122
          rw [hS.ck80, obs, e4, obs, iI_add, iL1, iI_add]; exact e5
        · unfold hoX at q; unfold yeX
          rcases q with q | q | q | q
          · exact Or.inl q
          · right; omega
          · right; omega
          · right; omega
      have hat : (drw s % 4 * 8 + drw (drw s) % 8) < 32 ∧ 0 ≤ (drw s % 4 * 8 + drw (drw s) % 8) := by omega
      by_cases c0 : drw (drw (drw s)) % 3 = 0
      · have eN : yrN N s = nset N 1 (drw s % 4 * 8 + drw (drw s) % 8).toNat (1 - N 1 (drw s % 4 * 8 + drw (drw s) % 8).toNat) := if_pos c0
        rw [if_pos (ceqT c0), s_chBlock hS nA39 hC hat.2 hat.1, obs]
        exact fin _ (by rw [eN] at k1 ⊢; exact hC.set nA39 (by decide) rfl k1) (zAg.rfl'.setI (Or.inr ⟨by omega, by omega⟩))
      · rw [if_neg (ceqF c0 (by omega) (by omega) (by omega) (by omega)), iL1]
        by_cases c1 : drw (drw (drw s)) % 3 = 1
        · have hk := hN.bore (k := (drw s % 4 * 8 + drw (drw s) % 8).toNat) (by omega)
          rw [if_pos (ceqT c1), hI.g0, obs, hI.r0 hC.1 hat.2 hat.1, obs, iL9]
          by_cases c2 : N 0 (drw s % 4 * 8 + drw (drw s) % 8).toNat < 9
          · have eN : yrN N s = nset N 0 (drw s % 4 * 8 + drw (drw s) % 8).toNat (N 0 (drw s % 4 * 8 + drw (drw s) % 8).toNat + 1) := by unfold yrN; rw [if_neg c0, if_pos ⟨c1, c2⟩]
            rw [if_neg (cleF (by omega) (by omega) (by omega)), s_widen hS nA39 hC hat.2 hat.1, obs]
            exact fin _ (by rw [eN] at k1 ⊢; exact hC.set nA39 (by decide) rfl k1) (zAg.rfl'.setI (Or.inr ⟨by omega, by omega⟩))
          · have eN : yrN N s = N := by unfold yrN; rw [if_neg c0, if_neg (fun q => c2 q.2)]
            rw [if_pos (cleT (by omega) (by omega) (by omega))]
            exact fin _ (by rw [eN]; exact hC) zAg.rfl'
        · have eN : yrN N s = N := by unfold yrN; rw [if_neg c0, if_neg (fun q => c1 q.1)]
          rw [if_neg (ceqF c1 (by omega) (by omega) (by omega) (by omega))]
          exact fin _ (by rw [eN]; exact hC) zAg.rfl'
theorem RwN.same {q i : Nat} {v : Int32} (hR : RwN (mI M q) N) (hv : mI M q i = v) : RwN (mI (setI M q i v) q) N := hR.cg (fun j _ => by
  rw [mI_ite]
  by_cases c : j = i
  · rw [if_pos ⟨rfl, c⟩, c, hv]
  · rw [if_neg (fun z => c z.2)])
theorem MN.same {i : Nat} {v : Int32} (hM : MN M B N Ls) (hv : mI M (B + 107) i = v) : MN (setI M (B + 107) i v) B N Ls := by
  have e : ∀ j, mI (setI M (B + 107) i v) (B + 107) j = mI M (B + 107) j := fun j => by
    rw [mI_ite]
    by_cases c : j = i
    · rw [if_pos ⟨rfl, c⟩, c, hv]
    · rw [if_neg (fun z => c z.2)]
  exact ⟨by rw [mI_a (by omega)]; exact hM.1, hM.2.1.cg (fun j _ => e j), hM.2.2.1, fun j hj hl => (hM.2.2.2 j hj hl).cg (fun i _ _ => e i)⟩
theorem s_mdraw (hS : ShOK S B) {s k : Int} (h54 : mJ M (B + 105) 54 = jJ s) (h0 : 0 ≤ s) (h1 : s ≤ 1000003) (k0 : 0 < k) (k1 : k ≤ 100) : F_Mo_draw n E S (B + 105) (iI k) M = some (iI (drw s % k), setJ M (B + 105) 54 (jJ (drw s))) := by
  have hd := drw_b s
  unfold F_Mo_draw
  rw [hS.ij105, obs, h54, show (1103 : Int64) = jJ 1103 by decide, jJ_mul, show (12345 : Int64) = jJ 12345 by decide, jJ_add, show (1000003 : Int64) = jJ 1000003 by decide, jJ_rem (by omega) (by omega) (by omega) (by omega) (by decide), obs, Int.tmod_eq_emod_of_nonneg (by omega), show (s * 1103 + 12345) % 1000003 = drw s from rfl, hS.pj105, obs, hS.ij105, obs, mJ_ite, if_pos ⟨rfl, rfl⟩, xJ (by omega) (by omega), remJ hd.1 (by omega) k0 k1, obs, yI]
/-- what the model's years change -/
def myX (B : Nat) : Nat → Nat → Prop := fun b j => paX B b j ∨ (b = B + 105 ∧ j = 54)
theorem years_l (hS : ShOK S B) (hn : 600 ≤ n) {m : Nat} (hm : m ≤ 60) : ∀ (r i k : Nat) (N : Nt) (s c : Int) (M : zH), r + i = m → r < k → NdOK N → N 9 0 ≤ 999 → 0 ≤ s → s ≤ 1000003 → 0 ≤ c → c ≤ 297 * i → MN M B N Ls → mJ M (B + 105) 54 = jJ s → ∃ M', zfix (fun r52 s => F_Mo_years_L52 n E S r52 s.1 s.2.1 s.2.2.1 s.2.2.2.1 s.2.2.2.2) k (B + 105, iI (m : Int), iI c, iI (i : Int), M) = F_Mo_years_b182 n E S (B + 105) (iI (yrV Ls r N s c).2) M' ∧ MN M' B (yrV Ls r N s c).1 Ls ∧ zAg (myX B) M M' := by
  intro r
  induction r with
  | zero =>
    intro i k N s c M hr hk hN hh hs0 hs1 hc0 hc1 hM h54
    obtain ⟨k, rfl⟩ : ∃ k', k = k' + 1 := ⟨k - 1, by omega⟩
    refine ⟨M, ?_, hM, zAg.rfl'⟩
    show F_Mo_years_L52 n E S _ (B + 105) (iI (m : Int)) (iI c) (iI (i : Int)) M = _
    unfold F_Mo_years_L52
    rw [if_pos (cleT (by omega) (by omega) (by omega))]
    rfl
  | succ r ih =>
    intro i k N s c M hr hk hN hh hs0 hs1 hc0 hc1 hM h54
    obtain ⟨k, rfl⟩ : ∃ k', k = k' + 1 := ⟨k - 1, by omega⟩
    have h1 := drw_b s
    have h2 := drw_b (drw s)
    have h3 := drw_b (drw (drw s))
    have hho := hN.hour
    obtain ⟨k1, k2, k3⟩ := yrN_ok hN s
    have hv := pasV_b (Ls := Ls) k1
    show ∃ M', F_Mo_years_L52 n E S _ (B + 105) (iI (m : Int)) (iI c) (iI (i : Int)) M = F_Mo_years_b182 n E S (B + 105) (iI (if 999 ≤ N 9 0 then (N, c) else yrV Ls r (pasN (yrN N s) Ls) (drw (drw (drw s))) (c + pasV (yrN N s) Ls)).2) M' ∧ MN M' B (if 999 ≤ N 9 0 then (N, c) else yrV Ls r (pasN (yrN N s) Ls) (drw (drw (drw s))) (c + pasV (yrN N s) Ls)).1 Ls ∧ _
    have ihh := fun (hd : N 9 0 < 999) M4 hM4 h5 => ih (i + 1) k (pasN (yrN N s) Ls) (drw (drw (drw s))) (c + pasV (yrN N s) Ls) M4 (by omega) (by omega) (pasN_ok k1 (by omega)) (by rw [pasN_9]; omega) (by omega) (by omega) (by omega) (by omega) hM4 h5
    generalize zfix (fun r52 s => F_Mo_years_L52 n E S r52 s.1 s.2.1 s.2.2.1 s.2.2.2.1 s.2.2.2.2) k = rec at ihh ⊢
    unfold F_Mo_years_L52
    rw [if_neg (cleF (by omega) (by omega) (by omega)), hS.g105_3, obs, iL4, hS.r107 (by omega) (by omega), obs, tn4, hM.2.1.hour, iL999]
    by_cases d : 999 ≤ N 9 0
    · rw [if_pos (cleT (by omega) (by omega) (by omega)), if_pos d]; exact ⟨M, rfl, hM, zAg.rfl'⟩
    · have hJ : ∀ (M : zH) (a i : Nat) (v : Int64), mJ (setJ M a i v) a i = v := fun M a i v => by rw [mJ_ite, if_pos ⟨rfl, rfl⟩]
      have hA1 : zAg (fun b j => b = B + 105 ∧ j = 54) M (setJ (setJ (setJ M (B + 105) 54 (jJ (drw s))) (B + 105) 54 (jJ (drw (drw s)))) (B + 105) 54 (jJ (drw (drw (drw s))))) := ((zAg.rfl'.setJ ⟨rfl, rfl⟩).setJ ⟨rfl, rfl⟩).setJ ⟨rfl, rfl⟩
      have hM1 := hM.ag hA1 (fun j q => by omega) (fun q => by omega)
      have hj1 : mJ (setJ (setJ (setJ M (B + 105) 54 (jJ (drw s))) (B + 105) 54 (jJ (drw (drw s)))) (B + 105) 54 (jJ (drw (drw (drw s))))) (B + 105) 54 = jJ (drw (drw (drw s))) := hJ _ _ _ _
      have hr0 : 0 ≤ drw s % 4 ∧ drw s % 4 < 4 := by omega
      have hh0 : 0 ≤ drw (drw s) % 8 ∧ drw (drw s) % 8 < 8 := by omega
      have hbm := bmask_b hN (r := (drw s % 4).toNat) (by omega)
      rw [if_neg (cleF (by omega) (by omega) (by omega)), if_neg d, s_mdraw hS h54 hs0 hs1 (by decide) (by decide), obs, iL8, s_mdraw hS (hJ _ _ _ _) h1.1 (by omega) (by decide) (by decide), obs, iL3, s_mdraw hS (hJ _ _ _ _) h2.1 (by omega) (by decide) (by decide), obs, iL44, iI_add]
      generalize setJ (setJ (setJ M (B + 105) 54 (jJ (drw s))) (B + 105) 54 (jJ (drw (drw s)))) (B + 105) 54 (jJ (drw (drw (drw s)))) = M1 at *
      rw [hS.r107 (by omega) (by omega), obs, hM1.2.1.blk hr0.1 hr0.2, iL0]
      have hix : (drw s % 4 * 8 + drw (drw s) % 8).toNat = 8 * (drw s % 4).toNat + (drw (drw s) % 8).toNat := by omega
      have hbb := hN.bore (k := (drw s % 4 * 8 + drw (drw s) % 8).toNat) (by omega)
      have hkb := hN.blk (k := (drw s % 4 * 8 + drw (drw s) % 8).toNat) (by omega)
      -- the hour
      have fin : ∀ (M3 : zH), MN M3 B (yrN N s) Ls → zAg (myX B) M M3 → mJ M3 (B + 105) 54 = jJ (drw (drw (drw s))) → ∃ M', ((zck S (B + 105) 11).bind fun u_4 => (F_Mo_passIt n E S (B + 105) M3).bind fun q_5 => rec (B + 105, iI (m : Int), iI c + q_5.1, iI (i : Int) + 1, q_5.2)) = F_Mo_years_b182 n E S (B + 105) (iI (yrV Ls r (pasN (yrN N s) Ls) (drw (drw (drw s))) (c + pasV (yrN N s) Ls)).2) M' ∧ MN M' B (yrV Ls r (pasN (yrN N s) Ls) (drw (drw (drw s))) (c + pasV (yrN N s) Ls)).1 Ls ∧ zAg (myX B) M M' := fun M3 hM3 hA3 h54' => by
        obtain ⟨M4, e4, hM4, hA4⟩ := s_passIt (n := n) (E := E) hS hM3 hn (by omega)
        obtain ⟨M5, e5, hM5, hA5⟩ := ihh (by omega) M4 hM4 (by rw [(hA4 _ _ (fun q => by unfold paX fScr mScr at q; omega)).2.1]; exact h54')
        refine ⟨M5, ?_, hM5, (hA3.trans (hA4.mono (fun b j q => Or.inl q))).trans hA5⟩
        rw [hS.ck105, obs, e4, obs, iI_add, iL1, iI_add]; exact e5
      have hAy : zAg (myX B) M M1 := hA1.mono (fun b j q => Or.inr q)
      have xrow : ∀ j, 4 ≤ j → j < 54 → myX B (B + 107) j := fun j h1 h2 => Or.inl (Or.inr ⟨rfl, h1, h2⟩)
      have eo : (12 + 8 * (drw s % 4) + drw (drw s) % 8).toNat = 12 + (drw s % 4 * 8 + drw (drw s) % 8).toNat := by omega
      have e44 : (44 + drw s % 4).toNat = 44 + (drw s % 4).toNat := by omega
      have xz : ∀ x : Int32, x ^^^ iI 0 = x := fun x => by rw [show iI 0 = (0 : Int32) from rfl]; exact Int32.xor_zero
      by_cases c0 : drw (drw (drw s)) % 3 = 0
      · have eN : yrN N s = nset N 1 (drw s % 4 * 8 + drw (drw s) % 8).toNat (1 - N 1 (drw s % 4 * 8 + drw (drw s) % 8).toNat) := if_pos c0
        have xo := xorb ⟨(bmask N (drw s % 4).toNat).toNat, by omega⟩ ⟨(drw (drw s) % 8).toNat, by omega⟩
        dsimp only at xo
        rw [show (((bmask N (drw s % 4).toNat).toNat : Nat) : Int) = bmask N (drw s % 4).toNat by omega, bmask_bit hN (by omega) (by omega)] at xo
        have R1 := hM1.2.1.s_blk (r := (drw s % 4).toNat) (h := (drw (drw s) % 8).toNat) (by omega) (by omega) (1 - N 1 (8 * (drw s % 4).toNat + (drw (drw s) % 8).toNat))
        rw [show 1 - N 1 (8 * (drw s % 4).toNat + (drw (drw s) % 8).toNat) - N 1 (8 * (drw s % 4).toNat + (drw (drw s) % 8).toNat) = 1 - 2 * N 1 (8 * (drw s % 4).toNat + (drw (drw s) % 8).toNat) by omega, ← hix, ← eN] at R1
        rw [← hix] at xo
        have hM2 := hM1.st (i := 44 + (drw s % 4).toNat) (by omega) R1 k1 (by rw [eN]; rfl)
        have hM3 := hM2.same (i := 12 + (drw s % 4 * 8 + drw (drw s) % 8).toNat) (v := iI (N 0 (drw s % 4 * 8 + drw (drw s) % 8).toNat)) (by rw [mI_i (by omega)]; exact hM1.2.1.2.2.1 _ (by omega))
        rw [if_pos (ceqT c0)]
        unfold F_Mo_years_b116 F_Mo_years_b166 F_Mo_years_b167
        rw [iL1, iL31, xshl hh0.1 (by omega), Int.one_mul, xo, hS.w107 (by omega) (by omega), obs, hS.g105_3, obs, show (12 : Int32) = iI 12 by decide, iL8, iI_mul, iI_add, iI_add, hS.r107 (by omega) (by omega), obs, eo, e44, mI_i (by omega), hM1.2.1.2.2.1 _ (by omega), if_neg (ceqF (by omega) (by omega) (by omega) (by omega) (by omega)), iL0, iI_add (N 0 (drw s % 4 * 8 + drw (drw s) % 8).toNat) 0, Int.add_zero, hS.w107 (by omega) (by omega), obs, eo]
        have f := fin _ hM3 ((hAy.setI (xrow _ (by omega) (by omega))).setI (xrow _ (by omega) (by omega))) hj1
        rw [iL1] at f
        exact f
      · have hM2 := hM1.same (i := 44 + (drw s % 4).toNat) (v := iI (bmask N (drw s % 4).toNat)) ((hM1.2.1.2.1 _ (by omega)).2.2)
        rw [if_neg (ceqF c0 (by omega) (by omega) (by omega) (by omega))]
        unfold F_Mo_years_b116 F_Mo_years_b166 F_Mo_years_b167
        have e12 : mI (setI M1 (B + 107) (44 + (drw s % 4).toNat) (iI (bmask N (drw s % 4).toNat))) (B + 107) (12 + (drw s % 4 * 8 + drw (drw s) % 8).toNat) = iI (N 0 (drw s % 4 * 8 + drw (drw s) % 8).toNat) := by rw [mI_i (by omega)]; exact hM1.2.1.2.2.1 _ (by omega)
        rw [xz, hS.w107 (by omega) (by omega), obs, hS.g105_3, obs, show (12 : Int32) = iI 12 by decide, iL8, iI_mul, iI_add, iI_add, hS.r107 (by omega) (by omega), obs, eo, e44, e12, iL1]
        by_cases c1 : drw (drw (drw s)) % 3 = 1
        · rw [if_pos (ceqT c1), obs, iL9]
          by_cases c2 : N 0 (drw s % 4 * 8 + drw (drw s) % 8).toNat < 9
          · have eN : yrN N s = nset N 0 (drw s % 4 * 8 + drw (drw s) % 8).toNat (N 0 (drw s % 4 * 8 + drw (drw s) % 8).toNat + 1) := by unfold yrN; rw [if_neg c0, if_pos ⟨c1, c2⟩]
            have R3 := hM2.2.1.s_bore (k := (drw s % 4 * 8 + drw (drw s) % 8).toNat) (by omega) (N 0 (drw s % 4 * 8 + drw (drw s) % 8).toNat + 1)
            rw [← eN] at R3
            have hM3 := hM2.st (i := 12 + (drw s % 4 * 8 + drw (drw s) % 8).toNat) (by omega) R3 k1 (by rw [eN]; rfl)
            rw [if_neg (cleF (by omega) (by omega) (by omega)), iI_add (N 0 (drw s % 4 * 8 + drw (drw s) % 8).toNat) 1, hS.w107 (by omega) (by omega), obs, eo]
            have f := fin _ hM3 ((hAy.setI (xrow _ (by omega) (by omega))).setI (xrow _ (by omega) (by omega))) hj1
            rw [iL1] at f
            exact f
          · have eN : yrN N s = N := by unfold yrN; rw [if_neg c0, if_neg (fun q => c2 q.2)]
            have hM3 := hM2.same (i := 12 + (drw s % 4 * 8 + drw (drw s) % 8).toNat) (v := iI (N 0 (drw s % 4 * 8 + drw (drw s) % 8).toNat)) e12
            rw [if_pos (cleT (by omega) (by omega) (by omega)), iL0, iI_add (N 0 (drw s % 4 * 8 + drw (drw s) % 8).toNat) 0, Int.add_zero, hS.w107 (by omega) (by omega), obs, eo]
            have f := fin _ (by rw [eN]; exact hM3) ((hAy.setI (xrow _ (by omega) (by omega))).setI (xrow _ (by omega) (by omega))) hj1
            rw [iL1] at f
            exact f
        · have eN : yrN N s = N := by unfold yrN; rw [if_neg c0, if_neg (fun q => c1 q.1)]
          have hM3 := hM2.same (i := 12 + (drw s % 4 * 8 + drw (drw s) % 8).toNat) (v := iI (N 0 (drw s % 4 * 8 + drw (drw s) % 8).toNat)) e12
          rw [if_neg (ceqF c1 (by omega) (by omega) (by omega) (by omega)), iL0, iI_add (N 0 (drw s % 4 * 8 + drw (drw s) % 8).toNat) 0, Int.add_zero, hS.w107 (by omega) (by omega), obs, eo]
          have f := fin _ (by rw [eN]; exact hM3) ((hAy.setI (xrow _ (by omega) (by omega))).setI (xrow _ (by omega) (by omega))) hj1
          rw [iL1] at f
          exact f
end
