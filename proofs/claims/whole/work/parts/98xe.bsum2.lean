/-! law and orders: behind a sum, no operation -/
section
variable {n : Nat} {E : zE} {S : zS} {M M' : zH} {B : Nat} {Pl : List (Int × Int)} {mo ma : Nat → Int} {nc lf op : Nat} {tb : Nat → Int} {l s : Nat}
theorem inn_b : ∀ (L : List (Int × Int)), pil M B L → inn L = -1 ∨ inn L = 31 ∨ inn L = 32 := by
  intro L
  induction L with
  | nil => intro _; exact Or.inl rfl
  | cons x t ih =>
    intro h
    have e : inn (x :: t) = if 31 ≤ x.1 then x.1 else inn t := rfl
    have h3 := h.2.2.1
    rw [e]
    by_cases c : 31 ≤ x.1
    · rw [if_pos c]; omega
    · rw [if_neg c]; exact ih h.2.2.2
theorem m_bsOver (hS : ShOK S B) (hn : 1000 ≤ n) (ho : opS tb l s = -1) (h : MG M B tb l s Pl mo ma nc lf op) (hi : inn Pl = -1) : F_Mo_behindSum n E S (B + 105) (iI 0) M = some (iI 4, M) := by
  rw [m_bsRed hS h.1, ho]
  unfold F_Mo_behindSum_b71
  rw [iL1, iI_neg, if_pos rfl, hS.ck105, obs, m_inner hS hn h.2.1, obs, hi, if_neg (show ¬ iI (-1) = 32 by decide), if_pos rfl, iL0, if_pos rfl]
  rfl
theorem m_bsTold (hS : ShOK S B) (hn : 1000 ≤ n) (ho : opS tb l s = -1) (h : MG M B tb l s Pl mo ma nc lf op) (hi : inn Pl ≠ 32) (hc : cmpd Pl = true) : F_Mo_behindSum n E S (B + 105) (iI 1) M = some (iI 2, M) := by
  have hb := inn_b (M := M) (B := B) Pl h.2.1.1.2.2
  have e163 : F_Mo_behindSum_b163 n E S (B + 105) M = some (iI 2, M) := by
    unfold F_Mo_behindSum_b163
    rw [hS.ck105, obs, m_isCmp hS hn h.2.1, obs, if_pos hc]
    rfl
  rw [m_bsRed hS h.1, ho]
  unfold F_Mo_behindSum_b71
  rw [iL1, iI_neg, if_pos rfl, hS.ck105, obs, m_inner hS hn h.2.1, obs, show (32 : Int32) = iI 32 by decide, if_neg (ceqF hi (by omega) (by omega) (by omega) (by omega)), iL0, if_neg (show ¬ iI 1 = iI 0 by decide)]
  by_cases c : inn Pl = -1
  · rw [if_pos (ceqT c)]; exact e163
  · rw [if_neg (ceqF c (by omega) (by omega) (by omega) (by omega))]; exact e163
end
