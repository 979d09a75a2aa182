/-! THE ASSEMBLY (printed by gen/asmgen.py): the law's switch and its loop -/
theorem scr {E : zE} {a : Int} (h0 : 0 ≤ a) (h1 : a < eL E) (hL : eL E ≤ 3072) : ∃ v, zR v ∧ zscr E (iI a) = some (iI v) := by
  obtain ⟨v, hv, e⟩ := iI_of (eX E a.toNat)
  refine ⟨v, hv, ?_⟩
  unfold zscr
  rw [if_pos (pi_ix h0 h1 (by omega)), iI_clamp h0 (by omega), e]
section
variable {n : Nat} {E : zE} {S : zS} {M : zH} {B : Nat} {x3 : Int32} {v1 v2 v3 v4 v5 : Int}
def nxt (n : Nat) (E : zE) (B : Nat) (x3 : Int32) (F : (Nat × Nat × Int32 × zS × zH → Option (Bool × zS × zH)) → Option (Bool × zS × zH)) : Prop := ∃ S' M', Inv S' M' B ∧ ∀ rec, F rec = rec (B + 0, B + 105, x3 + 6, S', M')
theorem k_c0 (hn : 100000 ≤ n) (h : Inv S M B) (r1 : zR v1) (e1 : zscr E (x3 + 1) = some (iI v1)) (r2 : zR v2) (e2 : zscr E (x3 + 2) = some (iI v2)) (r3 : zR v3) (e3 : zscr E (x3 + 3) = some (iI v3)) (r4 : zR v4) (e4 : zscr E (x3 + 4) = some (iI v4)) (r5 : zR v5) (e5 : zscr E (x3 + 5) = some (iI v5)) : nxt n E B x3 (fun rec => F_La_law_c0 n E rec (B + 0) (B + 105) x3 S M) := by
  obtain ⟨r, M1, M2, g1, g2, hI⟩ := c_hole (n := n) (E := E) h hn r1 r2 r3
  dsimp only at g1 g2
  refine ⟨S, M2, hI, fun rec => ?_⟩
  show F_La_law_c0 n E rec (B + 0) (B + 105) x3 S M = _
  unfold F_La_law_c0 F_La_law_b1286
  rw [e1, obs, e2, obs, e3, obs, h.1.ck0, obs, g1, obs, obs, obs, obs, h.1.ck105, obs, g2, obs, if_pos rfl]
theorem k_c1 (hn : 100000 ≤ n) (h : Inv S M B) (r1 : zR v1) (e1 : zscr E (x3 + 1) = some (iI v1)) (r2 : zR v2) (e2 : zscr E (x3 + 2) = some (iI v2)) (r3 : zR v3) (e3 : zscr E (x3 + 3) = some (iI v3)) (r4 : zR v4) (e4 : zscr E (x3 + 4) = some (iI v4)) (r5 : zR v5) (e5 : zscr E (x3 + 5) = some (iI v5)) : nxt n E B x3 (fun rec => F_La_law_c1 n E rec (B + 0) (B + 105) x3 S M) := by
  obtain ⟨r, M1, M2, g1, g2, hI⟩ := c_turn (n := n) (E := E) h r1 r2
  dsimp only at g1 g2
  refine ⟨S, M2, hI, fun rec => ?_⟩
  show F_La_law_c1 n E rec (B + 0) (B + 105) x3 S M = _
  unfold F_La_law_c1 F_La_law_b1286
  rw [e1, obs, e2, obs, h.1.ck0, obs, g1, obs, obs, obs, h.1.ck105, obs, g2, obs, if_pos rfl]
theorem k_c2 (hn : 100000 ≤ n) (h : Inv S M B) (r1 : zR v1) (e1 : zscr E (x3 + 1) = some (iI v1)) (r2 : zR v2) (e2 : zscr E (x3 + 2) = some (iI v2)) (r3 : zR v3) (e3 : zscr E (x3 + 3) = some (iI v3)) (r4 : zR v4) (e4 : zscr E (x3 + 4) = some (iI v4)) (r5 : zR v5) (e5 : zscr E (x3 + 5) = some (iI v5)) : nxt n E B x3 (fun rec => F_La_law_c2 n E rec (B + 0) (B + 105) x3 S M) := by
  obtain ⟨r, M1, M2, g1, g2, hI⟩ := c_bucket (n := n) (E := E) h hn r1 r2
  dsimp only at g1 g2
  refine ⟨S, M2, hI, fun rec => ?_⟩
  show F_La_law_c2 n E rec (B + 0) (B + 105) x3 S M = _
  unfold F_La_law_c2 F_La_law_b1286
  rw [e1, obs, e2, obs, h.1.ck0, obs, g1, obs, obs, obs, h.1.ck105, obs, g2, obs, if_pos rfl]
theorem k_c3 (hn : 100000 ≤ n) (h : Inv S M B) (r1 : zR v1) (e1 : zscr E (x3 + 1) = some (iI v1)) (r2 : zR v2) (e2 : zscr E (x3 + 2) = some (iI v2)) (r3 : zR v3) (e3 : zscr E (x3 + 3) = some (iI v3)) (r4 : zR v4) (e4 : zscr E (x3 + 4) = some (iI v4)) (r5 : zR v5) (e5 : zscr E (x3 + 5) = some (iI v5)) : nxt n E B x3 (fun rec => F_La_law_c3 n E rec (B + 0) (B + 105) x3 S M) := by
  obtain ⟨r, M1, M2, g1, g2, hI⟩ := c_of (n := n) (E := E) h hn r1 r2
  dsimp only at g1 g2
  refine ⟨S, M2, hI, fun rec => ?_⟩
  show F_La_law_c3 n E rec (B + 0) (B + 105) x3 S M = _
  unfold F_La_law_c3 F_La_law_b1286
  rw [e1, obs, e2, obs, h.1.ck0, obs, g1, obs, obs, obs, h.1.ck105, obs, g2, obs, if_pos rfl]
theorem k_c4 (hn : 100000 ≤ n) (h : Inv S M B) (r1 : zR v1) (e1 : zscr E (x3 + 1) = some (iI v1)) (r2 : zR v2) (e2 : zscr E (x3 + 2) = some (iI v2)) (r3 : zR v3) (e3 : zscr E (x3 + 3) = some (iI v3)) (r4 : zR v4) (e4 : zscr E (x3 + 4) = some (iI v4)) (r5 : zR v5) (e5 : zscr E (x3 + 5) = some (iI v5)) : nxt n E B x3 (fun rec => F_La_law_c4 n E rec (B + 0) (B + 105) x3 S M) := by
  obtain ⟨r, M1, M2, g1, g2, hI⟩ := c_wanted (n := n) (E := E) h r1 r2
  dsimp only at g1 g2
  refine ⟨S, M2, hI, fun rec => ?_⟩
  show F_La_law_c4 n E rec (B + 0) (B + 105) x3 S M = _
  unfold F_La_law_c4 F_La_law_b1286
  rw [e1, obs, e2, obs, h.1.ck0, obs, g1, obs, obs, obs, h.1.ck105, obs, g2, obs, if_pos rfl]
theorem k_c5 (hn : 100000 ≤ n) (h : Inv S M B) (r1 : zR v1) (e1 : zscr E (x3 + 1) = some (iI v1)) (r2 : zR v2) (e2 : zscr E (x3 + 2) = some (iI v2)) (r3 : zR v3) (e3 : zscr E (x3 + 3) = some (iI v3)) (r4 : zR v4) (e4 : zscr E (x3 + 4) = some (iI v4)) (r5 : zR v5) (e5 : zscr E (x3 + 5) = some (iI v5)) : nxt n E B x3 (fun rec => F_La_law_c5 n E rec (B + 0) (B + 105) x3 S M) := by
  obtain ⟨r, M1, M2, g1, g2, hI⟩ := c_flow (n := n) (E := E) h hn r1
  dsimp only at g1 g2
  refine ⟨S, M2, hI, fun rec => ?_⟩
  show F_La_law_c5 n E rec (B + 0) (B + 105) x3 S M = _
  unfold F_La_law_c5 F_La_law_b1286
  rw [e1, obs, h.1.ck0, obs, g1, obs, obs, h.1.ck105, obs, g2, obs, if_pos rfl]
theorem k_c6 (hn : 100000 ≤ n) (h : Inv S M B) (r1 : zR v1) (e1 : zscr E (x3 + 1) = some (iI v1)) (r2 : zR v2) (e2 : zscr E (x3 + 2) = some (iI v2)) (r3 : zR v3) (e3 : zscr E (x3 + 3) = some (iI v3)) (r4 : zR v4) (e4 : zscr E (x3 + 4) = some (iI v4)) (r5 : zR v5) (e5 : zscr E (x3 + 5) = some (iI v5)) : nxt n E B x3 (fun rec => F_La_law_c6 n E rec (B + 0) (B + 105) x3 S M) := by
  obtain ⟨r, M1, M2, g1, g2, hI⟩ := c_terms (n := n) (E := E) h r1 r2
  dsimp only at g1 g2
  refine ⟨S, M2, hI, fun rec => ?_⟩
  show F_La_law_c6 n E rec (B + 0) (B + 105) x3 S M = _
  unfold F_La_law_c6 F_La_law_b1286
  rw [e1, obs, e2, obs, h.1.ck0, obs, g1, obs, obs, obs, h.1.ck105, obs, g2, obs, if_pos rfl]
theorem k_c7 (hn : 100000 ≤ n) (h : Inv S M B) (r1 : zR v1) (e1 : zscr E (x3 + 1) = some (iI v1)) (r2 : zR v2) (e2 : zscr E (x3 + 2) = some (iI v2)) (r3 : zR v3) (e3 : zscr E (x3 + 3) = some (iI v3)) (r4 : zR v4) (e4 : zscr E (x3 + 4) = some (iI v4)) (r5 : zR v5) (e5 : zscr E (x3 + 5) = some (iI v5)) : nxt n E B x3 (fun rec => F_La_law_c7 n E rec (B + 0) (B + 105) x3 S M) := by
  obtain ⟨r, M1, M2, g1, g2, hI⟩ := c_feed (n := n) (E := E) h hn r1 r2 r3 r4 r5
  dsimp only at g1 g2
  refine ⟨S, M2, hI, fun rec => ?_⟩
  show F_La_law_c7 n E rec (B + 0) (B + 105) x3 S M = _
  unfold F_La_law_c7 F_La_law_b1286
  rw [e1, obs, e2, obs, e3, obs, e4, obs, e5, obs, h.1.ck0, obs, g1, obs, obs, obs, obs, obs, obs, h.1.ck105, obs, g2, obs, if_pos rfl]
theorem k_c8 (hn : 100000 ≤ n) (h : Inv S M B) (r1 : zR v1) (e1 : zscr E (x3 + 1) = some (iI v1)) (r2 : zR v2) (e2 : zscr E (x3 + 2) = some (iI v2)) (r3 : zR v3) (e3 : zscr E (x3 + 3) = some (iI v3)) (r4 : zR v4) (e4 : zscr E (x3 + 4) = some (iI v4)) (r5 : zR v5) (e5 : zscr E (x3 + 5) = some (iI v5)) : nxt n E B x3 (fun rec => F_La_law_c8 n E rec (B + 0) (B + 105) x3 S M) := by
  obtain ⟨r, M1, M2, g1, g2, hI⟩ := c_end (n := n) (E := E) h r1
  dsimp only at g1 g2
  refine ⟨S, M2, hI, fun rec => ?_⟩
  show F_La_law_c8 n E rec (B + 0) (B + 105) x3 S M = _
  unfold F_La_law_c8 F_La_law_b1286
  rw [e1, obs, h.1.ck0, obs, g1, obs, obs, h.1.ck105, obs, g2, obs, if_pos rfl]
theorem k_c9 (hn : 100000 ≤ n) (h : Inv S M B) (r1 : zR v1) (e1 : zscr E (x3 + 1) = some (iI v1)) (r2 : zR v2) (e2 : zscr E (x3 + 2) = some (iI v2)) (r3 : zR v3) (e3 : zscr E (x3 + 3) = some (iI v3)) (r4 : zR v4) (e4 : zscr E (x3 + 4) = some (iI v4)) (r5 : zR v5) (e5 : zscr E (x3 + 5) = some (iI v5)) : nxt n E B x3 (fun rec => F_La_law_c9 n E rec (B + 0) (B + 105) x3 S M) := by
  obtain ⟨r, M1, M2, g1, g2, hI⟩ := c_row (n := n) (E := E) h hn
  dsimp only at g1 g2
  refine ⟨S, M2, hI, fun rec => ?_⟩
  show F_La_law_c9 n E rec (B + 0) (B + 105) x3 S M = _
  unfold F_La_law_c9 F_La_law_b1286
  rw [h.1.ck0, obs, g1, obs, h.1.ck105, obs, g2, obs, if_pos rfl]
theorem k_c10 (hn : 100000 ≤ n) (h : Inv S M B) (r1 : zR v1) (e1 : zscr E (x3 + 1) = some (iI v1)) (r2 : zR v2) (e2 : zscr E (x3 + 2) = some (iI v2)) (r3 : zR v3) (e3 : zscr E (x3 + 3) = some (iI v3)) (r4 : zR v4) (e4 : zscr E (x3 + 4) = some (iI v4)) (r5 : zR v5) (e5 : zscr E (x3 + 5) = some (iI v5)) : nxt n E B x3 (fun rec => F_La_law_c10 n E rec (B + 0) (B + 105) x3 S M) := by
  obtain ⟨r, M1, M2, g1, g2, hI⟩ := c_peas (n := n) (E := E) h
  dsimp only at g1 g2
  refine ⟨S, M2, hI, fun rec => ?_⟩
  show F_La_law_c10 n E rec (B + 0) (B + 105) x3 S M = _
  unfold F_La_law_c10 F_La_law_b1286
  rw [h.1.ck0, obs, g1, obs, h.1.ck105, obs, g2, obs, if_pos rfl]
theorem k_c11 (hl : LawOK n E B) (h : Inv S M B) : nxt n E B x3 (fun rec => F_La_law_c11 n E rec (B + 0) (B + 105) x3 S M) := by
  obtain ⟨r, S1, M1, M2, g1, g2, hI⟩ := hl S M h
  refine ⟨S1, M2, hI, fun rec => ?_⟩
  show F_La_law_c11 n E rec (B + 0) (B + 105) x3 S M = _
  unfold F_La_law_c11 F_La_law_b1286
  rw [h.1.ck0, obs, g1, obs, hI.1.ck105, obs, g2, obs, if_pos rfl]
theorem k_c12 (ho : OrdOK n E B) (h : Inv S M B) : nxt n E B x3 (fun rec => F_La_law_c12 n E rec (B + 0) (B + 105) x3 S M) := by
  obtain ⟨r, M1, M2, g1, g2, hI⟩ := ho S M h
  dsimp only at g1 g2
  refine ⟨S, M2, hI, fun rec => ?_⟩
  show F_La_law_c12 n E rec (B + 0) (B + 105) x3 S M = _
  unfold F_La_law_c12 F_La_law_b1286
  rw [h.1.ck0, obs, g1, obs, h.1.ck105, obs, g2, obs, if_pos rfl]
theorem k_c13 (hn : 100000 ≤ n) (h : Inv S M B) (r1 : zR v1) (e1 : zscr E (x3 + 1) = some (iI v1)) (r2 : zR v2) (e2 : zscr E (x3 + 2) = some (iI v2)) (r3 : zR v3) (e3 : zscr E (x3 + 3) = some (iI v3)) (r4 : zR v4) (e4 : zscr E (x3 + 4) = some (iI v4)) (r5 : zR v5) (e5 : zscr E (x3 + 5) = some (iI v5)) : nxt n E B x3 (fun rec => F_La_law_c13 n E rec (B + 0) (B + 105) x3 S M) := by
  obtain ⟨r, M1, M2, g1, g2, hI⟩ := c_fault (n := n) (E := E) h
  dsimp only at g1 g2
  refine ⟨S, M2, hI, fun rec => ?_⟩
  show F_La_law_c13 n E rec (B + 0) (B + 105) x3 S M = _
  unfold F_La_law_c13 F_La_law_b1286
  rw [h.1.ck0, obs, g1, obs, h.1.ck105, obs, g2, obs, if_pos rfl]
theorem k_c14 (hn : 100000 ≤ n) (h : Inv S M B) (r1 : zR v1) (e1 : zscr E (x3 + 1) = some (iI v1)) (r2 : zR v2) (e2 : zscr E (x3 + 2) = some (iI v2)) (r3 : zR v3) (e3 : zscr E (x3 + 3) = some (iI v3)) (r4 : zR v4) (e4 : zscr E (x3 + 4) = some (iI v4)) (r5 : zR v5) (e5 : zscr E (x3 + 5) = some (iI v5)) : nxt n E B x3 (fun rec => F_La_law_c14 n E rec (B + 0) (B + 105) x3 S M) := by
  obtain ⟨r, M1, M2, g1, g2, hI⟩ := c_stopped (n := n) (E := E) h
  dsimp only at g1 g2
  refine ⟨S, M2, hI, fun rec => ?_⟩
  show F_La_law_c14 n E rec (B + 0) (B + 105) x3 S M = _
  unfold F_La_law_c14 F_La_law_b1286
  rw [h.1.ck0, obs, g1, obs, h.1.ck105, obs, g2, obs, if_pos rfl]
theorem k_c15 (hn : 100000 ≤ n) (h : Inv S M B) (r1 : zR v1) (e1 : zscr E (x3 + 1) = some (iI v1)) (r2 : zR v2) (e2 : zscr E (x3 + 2) = some (iI v2)) (r3 : zR v3) (e3 : zscr E (x3 + 3) = some (iI v3)) (r4 : zR v4) (e4 : zscr E (x3 + 4) = some (iI v4)) (r5 : zR v5) (e5 : zscr E (x3 + 5) = some (iI v5)) : nxt n E B x3 (fun rec => F_La_law_c15 n E rec (B + 0) (B + 105) x3 S M) := by
  obtain ⟨r, M1, M2, g1, g2, hI⟩ := c_force (n := n) (E := E) h r1
  dsimp only at g1 g2
  refine ⟨S, M2, hI, fun rec => ?_⟩
  show F_La_law_c15 n E rec (B + 0) (B + 105) x3 S M = _
  unfold F_La_law_c15 F_La_law_b1286
  rw [e1, obs, h.1.ck0, obs, g1, obs, obs, h.1.ck105, obs, g2, obs, if_pos rfl]
theorem k_c16 (hn : 100000 ≤ n) (h : Inv S M B) (r1 : zR v1) (e1 : zscr E (x3 + 1) = some (iI v1)) (r2 : zR v2) (e2 : zscr E (x3 + 2) = some (iI v2)) (r3 : zR v3) (e3 : zscr E (x3 + 3) = some (iI v3)) (r4 : zR v4) (e4 : zscr E (x3 + 4) = some (iI v4)) (r5 : zR v5) (e5 : zscr E (x3 + 5) = some (iI v5)) : nxt n E B x3 (fun rec => F_La_law_c16 n E rec (B + 0) (B + 105) x3 S M) := by
  obtain ⟨r, M1, M2, g1, g2, hI⟩ := c_block (n := n) (E := E) h hn r1 r2
  dsimp only at g1 g2
  refine ⟨S, M2, hI, fun rec => ?_⟩
  show F_La_law_c16 n E rec (B + 0) (B + 105) x3 S M = _
  unfold F_La_law_c16 F_La_law_b1286
  rw [e1, obs, e2, obs, h.1.ck0, obs, g1, obs, obs, obs, h.1.ck105, obs, g2, obs, if_pos rfl]
theorem k_c17 (hn : 100000 ≤ n) (h : Inv S M B) (r1 : zR v1) (e1 : zscr E (x3 + 1) = some (iI v1)) (r2 : zR v2) (e2 : zscr E (x3 + 2) = some (iI v2)) (r3 : zR v3) (e3 : zscr E (x3 + 3) = some (iI v3)) (r4 : zR v4) (e4 : zscr E (x3 + 4) = some (iI v4)) (r5 : zR v5) (e5 : zscr E (x3 + 5) = some (iI v5)) : nxt n E B x3 (fun rec => F_La_law_c17 n E rec (B + 0) (B + 105) x3 S M) := by
  obtain ⟨r, M1, M2, g1, g2, hI⟩ := c_ream (n := n) (E := E) h hn r1 r2
  dsimp only at g1 g2
  refine ⟨S, M2, hI, fun rec => ?_⟩
  show F_La_law_c17 n E rec (B + 0) (B + 105) x3 S M = _
  unfold F_La_law_c17 F_La_law_b1286
  rw [e1, obs, e2, obs, h.1.ck0, obs, g1, obs, obs, obs, h.1.ck105, obs, g2, obs, if_pos rfl]
theorem k_c18 (hn : 100000 ≤ n) (h : Inv S M B) (r1 : zR v1) (e1 : zscr E (x3 + 1) = some (iI v1)) (r2 : zR v2) (e2 : zscr E (x3 + 2) = some (iI v2)) (r3 : zR v3) (e3 : zscr E (x3 + 3) = some (iI v3)) (r4 : zR v4) (e4 : zscr E (x3 + 4) = some (iI v4)) (r5 : zR v5) (e5 : zscr E (x3 + 5) = some (iI v5)) : nxt n E B x3 (fun rec => F_La_law_c18 n E rec (B + 0) (B + 105) x3 S M) := by
  obtain ⟨r, M1, M2, g1, g2, hI⟩ := c_set (n := n) (E := E) h hn r1 r2
  dsimp only at g1 g2
  refine ⟨S, M2, hI, fun rec => ?_⟩
  show F_La_law_c18 n E rec (B + 0) (B + 105) x3 S M = _
  unfold F_La_law_c18 F_La_law_b1286
  rw [e1, obs, e2, obs, h.1.ck0, obs, g1, obs, obs, obs, h.1.ck105, obs, g2, obs, if_pos rfl]
theorem k_c19 (hn : 100000 ≤ n) (h : Inv S M B) (r1 : zR v1) (e1 : zscr E (x3 + 1) = some (iI v1)) (r2 : zR v2) (e2 : zscr E (x3 + 2) = some (iI v2)) (r3 : zR v3) (e3 : zscr E (x3 + 3) = some (iI v3)) (r4 : zR v4) (e4 : zscr E (x3 + 4) = some (iI v4)) (r5 : zR v5) (e5 : zscr E (x3 + 5) = some (iI v5)) : nxt n E B x3 (fun rec => F_La_law_c19 n E rec (B + 0) (B + 105) x3 S M) := by
  obtain ⟨r, M1, M2, g1, g2, hI⟩ := c_pass (n := n) (E := E) h hn
  dsimp only at g1 g2
  refine ⟨S, M2, hI, fun rec => ?_⟩
  show F_La_law_c19 n E rec (B + 0) (B + 105) x3 S M = _
  unfold F_La_law_c19 F_La_law_b1286
  rw [h.1.ck0, obs, g1, obs, h.1.ck105, obs, g2, obs, if_pos rfl]
theorem k_c20 (hn : 100000 ≤ n) (h : Inv S M B) (r1 : zR v1) (e1 : zscr E (x3 + 1) = some (iI v1)) (r2 : zR v2) (e2 : zscr E (x3 + 2) = some (iI v2)) (r3 : zR v3) (e3 : zscr E (x3 + 3) = some (iI v3)) (r4 : zR v4) (e4 : zscr E (x3 + 4) = some (iI v4)) (r5 : zR v5) (e5 : zscr E (x3 + 5) = some (iI v5)) : nxt n E B x3 (fun rec => F_La_law_c20 n E rec (B + 0) (B + 105) x3 S M) := by
  obtain ⟨r, M1, M2, g1, g2, hI⟩ := c_undo (n := n) (E := E) h hn
  dsimp only at g1 g2
  refine ⟨S, M2, hI, fun rec => ?_⟩
  show F_La_law_c20 n E rec (B + 0) (B + 105) x3 S M = _
  unfold F_La_law_c20 F_La_law_b1286
  rw [h.1.ck0, obs, g1, obs, h.1.ck105, obs, g2, obs, if_pos rfl]
theorem k_c21 (hn : 100000 ≤ n) (h : Inv S M B) (r1 : zR v1) (e1 : zscr E (x3 + 1) = some (iI v1)) (r2 : zR v2) (e2 : zscr E (x3 + 2) = some (iI v2)) (r3 : zR v3) (e3 : zscr E (x3 + 3) = some (iI v3)) (r4 : zR v4) (e4 : zscr E (x3 + 4) = some (iI v4)) (r5 : zR v5) (e5 : zscr E (x3 + 5) = some (iI v5)) : nxt n E B x3 (fun rec => F_La_law_c21 n E rec (B + 0) (B + 105) x3 S M) := by
  obtain ⟨r, M1, M2, g1, g2, hI⟩ := c_when (n := n) (E := E) h hn r1 r2
  dsimp only at g1 g2
  refine ⟨S, M2, hI, fun rec => ?_⟩
  show F_La_law_c21 n E rec (B + 0) (B + 105) x3 S M = _
  unfold F_La_law_c21 F_La_law_b1286
  rw [e1, obs, e2, obs, h.1.ck0, obs, g1, obs, obs, obs, h.1.ck105, obs, g2, obs, if_pos rfl]
theorem k_c22 (hn : 100000 ≤ n) (h : Inv S M B) (r1 : zR v1) (e1 : zscr E (x3 + 1) = some (iI v1)) (r2 : zR v2) (e2 : zscr E (x3 + 2) = some (iI v2)) (r3 : zR v3) (e3 : zscr E (x3 + 3) = some (iI v3)) (r4 : zR v4) (e4 : zscr E (x3 + 4) = some (iI v4)) (r5 : zR v5) (e5 : zscr E (x3 + 5) = some (iI v5)) : nxt n E B x3 (fun rec => F_La_law_c22 n E rec (B + 0) (B + 105) x3 S M) := by
  obtain ⟨r, M1, M2, g1, g2, hI⟩ := c_placed (n := n) (E := E) h hn r1 r2
  dsimp only at g1 g2
  refine ⟨S, M2, hI, fun rec => ?_⟩
  show F_La_law_c22 n E rec (B + 0) (B + 105) x3 S M = _
  unfold F_La_law_c22 F_La_law_b1286
  rw [e1, obs, e2, obs, h.1.ck0, obs, g1, obs, obs, obs, h.1.ck105, obs, g2, obs, if_pos rfl]
theorem k_c23 (hn : 100000 ≤ n) (h : Inv S M B) (r1 : zR v1) (e1 : zscr E (x3 + 1) = some (iI v1)) (r2 : zR v2) (e2 : zscr E (x3 + 2) = some (iI v2)) (r3 : zR v3) (e3 : zscr E (x3 + 3) = some (iI v3)) (r4 : zR v4) (e4 : zscr E (x3 + 4) = some (iI v4)) (r5 : zR v5) (e5 : zscr E (x3 + 5) = some (iI v5)) : nxt n E B x3 (fun rec => F_La_law_c23 n E rec (B + 0) (B + 105) x3 S M) := by
  obtain ⟨r, M1, M2, g1, g2, hI⟩ := c_seen (n := n) (E := E) h r1 r2
  dsimp only at g1 g2
  refine ⟨S, M2, hI, fun rec => ?_⟩
  show F_La_law_c23 n E rec (B + 0) (B + 105) x3 S M = _
  unfold F_La_law_c23 F_La_law_b1286
  rw [e1, obs, e2, obs, h.1.ck0, obs, g1, obs, obs, obs, h.1.ck105, obs, g2, obs, if_pos rfl]
theorem k_c24 (hn : 100000 ≤ n) (h : Inv S M B) (r1 : zR v1) (e1 : zscr E (x3 + 1) = some (iI v1)) (r2 : zR v2) (e2 : zscr E (x3 + 2) = some (iI v2)) (r3 : zR v3) (e3 : zscr E (x3 + 3) = some (iI v3)) (r4 : zR v4) (e4 : zscr E (x3 + 4) = some (iI v4)) (r5 : zR v5) (e5 : zscr E (x3 + 5) = some (iI v5)) : nxt n E B x3 (fun rec => F_La_law_c24 n E rec (B + 0) (B + 105) x3 S M) := by
  obtain ⟨r, M1, M2, g1, g2, hI⟩ := c_forget (n := n) (E := E) h
  dsimp only at g1 g2
  refine ⟨S, M2, hI, fun rec => ?_⟩
  show F_La_law_c24 n E rec (B + 0) (B + 105) x3 S M = _
  unfold F_La_law_c24 F_La_law_b1286
  rw [h.1.ck0, obs, g1, obs, h.1.ck105, obs, g2, obs, if_pos rfl]
theorem k_c25 (hn : 100000 ≤ n) (h : Inv S M B) (r1 : zR v1) (e1 : zscr E (x3 + 1) = some (iI v1)) (r2 : zR v2) (e2 : zscr E (x3 + 2) = some (iI v2)) (r3 : zR v3) (e3 : zscr E (x3 + 3) = some (iI v3)) (r4 : zR v4) (e4 : zscr E (x3 + 4) = some (iI v4)) (r5 : zR v5) (e5 : zscr E (x3 + 5) = some (iI v5)) : nxt n E B x3 (fun rec => F_La_law_c25 n E rec (B + 0) (B + 105) x3 S M) := by
  obtain ⟨r, M1, M2, g1, g2, hI⟩ := c_settings (n := n) (E := E) h hn r1
  dsimp only at g1 g2
  refine ⟨S, M2, hI, fun rec => ?_⟩
  show F_La_law_c25 n E rec (B + 0) (B + 105) x3 S M = _
  unfold F_La_law_c25 F_La_law_b1286
  rw [e1, obs, h.1.ck0, obs, g1, obs, obs, h.1.ck105, obs, g2, obs, if_pos rfl]
theorem k_c26 (hn : 100000 ≤ n) (h : Inv S M B) (r1 : zR v1) (e1 : zscr E (x3 + 1) = some (iI v1)) (r2 : zR v2) (e2 : zscr E (x3 + 2) = some (iI v2)) (r3 : zR v3) (e3 : zscr E (x3 + 3) = some (iI v3)) (r4 : zR v4) (e4 : zscr E (x3 + 4) = some (iI v4)) (r5 : zR v5) (e5 : zscr E (x3 + 5) = some (iI v5)) : nxt n E B x3 (fun rec => F_La_law_c26 n E rec (B + 0) (B + 105) x3 S M) := by
  obtain ⟨r, M1, M2, g1, g2, hI⟩ := c_look (n := n) (E := E) h hn r1
  dsimp only at g1 g2
  refine ⟨S, M2, hI, fun rec => ?_⟩
  show F_La_law_c26 n E rec (B + 0) (B + 105) x3 S M = _
  unfold F_La_law_c26 F_La_law_b1286
  rw [e1, obs, h.1.ck0, obs, g1, obs, obs, h.1.ck105, obs, g2, obs, if_pos rfl]
theorem k_c27 (hn : 100000 ≤ n) (h : Inv S M B) (r1 : zR v1) (e1 : zscr E (x3 + 1) = some (iI v1)) (r2 : zR v2) (e2 : zscr E (x3 + 2) = some (iI v2)) (r3 : zR v3) (e3 : zscr E (x3 + 3) = some (iI v3)) (r4 : zR v4) (e4 : zscr E (x3 + 4) = some (iI v4)) (r5 : zR v5) (e5 : zscr E (x3 + 5) = some (iI v5)) : nxt n E B x3 (fun rec => F_La_law_c27 n E rec (B + 0) (B + 105) x3 S M) := by
  obtain ⟨r, M1, M2, g1, g2, hI⟩ := c_turned (n := n) (E := E) h hn r1
  dsimp only at g1 g2
  refine ⟨S, M2, hI, fun rec => ?_⟩
  show F_La_law_c27 n E rec (B + 0) (B + 105) x3 S M = _
  unfold F_La_law_c27 F_La_law_b1286
  rw [e1, obs, h.1.ck0, obs, g1, obs, obs, h.1.ck105, obs, g2, obs, if_pos rfl]
theorem k_c28 (hn : 100000 ≤ n) (h : Inv S M B) (r1 : zR v1) (e1 : zscr E (x3 + 1) = some (iI v1)) (r2 : zR v2) (e2 : zscr E (x3 + 2) = some (iI v2)) (r3 : zR v3) (e3 : zscr E (x3 + 3) = some (iI v3)) (r4 : zR v4) (e4 : zscr E (x3 + 4) = some (iI v4)) (r5 : zR v5) (e5 : zscr E (x3 + 5) = some (iI v5)) : nxt n E B x3 (fun rec => F_La_law_c28 n E rec (B + 0) (B + 105) x3 S M) := by
  obtain ⟨r, M1, M2, g1, g2, hI⟩ := c_cleared (n := n) (E := E) h hn r1 r2 r3
  dsimp only at g1 g2
  refine ⟨S, M2, hI, fun rec => ?_⟩
  show F_La_law_c28 n E rec (B + 0) (B + 105) x3 S M = _
  unfold F_La_law_c28 F_La_law_b1286
  rw [e1, obs, e2, obs, e3, obs, h.1.ck0, obs, g1, obs, obs, obs, obs, h.1.ck105, obs, g2, obs, if_pos rfl]
theorem k_c29 (hn : 100000 ≤ n) (h : Inv S M B) (r1 : zR v1) (e1 : zscr E (x3 + 1) = some (iI v1)) (r2 : zR v2) (e2 : zscr E (x3 + 2) = some (iI v2)) (r3 : zR v3) (e3 : zscr E (x3 + 3) = some (iI v3)) (r4 : zR v4) (e4 : zscr E (x3 + 4) = some (iI v4)) (r5 : zR v5) (e5 : zscr E (x3 + 5) = some (iI v5)) : nxt n E B x3 (fun rec => F_La_law_c29 n E rec (B + 0) (B + 105) x3 S M) := by
  obtain ⟨r, M1, M2, g1, g2, hI⟩ := c_drought (n := n) (E := E) h hn r1
  dsimp only at g1 g2
  refine ⟨S, M2, hI, fun rec => ?_⟩
  show F_La_law_c29 n E rec (B + 0) (B + 105) x3 S M = _
  unfold F_La_law_c29 F_La_law_b1286
  rw [e1, obs, h.1.ck0, obs, g1, obs, obs, h.1.ck105, obs, g2, obs, if_pos rfl]
theorem k_c30 (hn : 100000 ≤ n) (h : Inv S M B) (r1 : zR v1) (e1 : zscr E (x3 + 1) = some (iI v1)) (r2 : zR v2) (e2 : zscr E (x3 + 2) = some (iI v2)) (r3 : zR v3) (e3 : zscr E (x3 + 3) = some (iI v3)) (r4 : zR v4) (e4 : zscr E (x3 + 4) = some (iI v4)) (r5 : zR v5) (e5 : zscr E (x3 + 5) = some (iI v5)) : nxt n E B x3 (fun rec => F_La_law_c30 n E rec (B + 0) (B + 105) x3 S M) := by
  obtain ⟨r, M1, M2, g1, g2, hI⟩ := c_luck (n := n) (E := E) h hn r1
  dsimp only at g1 g2
  refine ⟨S, M2, hI, fun rec => ?_⟩
  show F_La_law_c30 n E rec (B + 0) (B + 105) x3 S M = _
  unfold F_La_law_c30 F_La_law_b1286
  rw [e1, obs, h.1.ck0, obs, g1, obs, obs, h.1.ck105, obs, g2, obs, if_pos rfl]
theorem k_c31 (hn : 100000 ≤ n) (h : Inv S M B) (r1 : zR v1) (e1 : zscr E (x3 + 1) = some (iI v1)) (r2 : zR v2) (e2 : zscr E (x3 + 2) = some (iI v2)) (r3 : zR v3) (e3 : zscr E (x3 + 3) = some (iI v3)) (r4 : zR v4) (e4 : zscr E (x3 + 4) = some (iI v4)) (r5 : zR v5) (e5 : zscr E (x3 + 5) = some (iI v5)) : nxt n E B x3 (fun rec => F_La_law_c31 n E rec (B + 0) (B + 105) x3 S M) := by
  obtain ⟨r, M1, M2, g1, g2, hI⟩ := c_together (n := n) (E := E) h hn r1 r2
  dsimp only at g1 g2
  refine ⟨S, M2, hI, fun rec => ?_⟩
  show F_La_law_c31 n E rec (B + 0) (B + 105) x3 S M = _
  unfold F_La_law_c31 F_La_law_b1286
  rw [e1, obs, e2, obs, h.1.ck0, obs, g1, obs, obs, obs, h.1.ck105, obs, g2, obs, if_pos rfl]
theorem k_c32 (hn : 100000 ≤ n) (h : Inv S M B) (r1 : zR v1) (e1 : zscr E (x3 + 1) = some (iI v1)) (r2 : zR v2) (e2 : zscr E (x3 + 2) = some (iI v2)) (r3 : zR v3) (e3 : zscr E (x3 + 3) = some (iI v3)) (r4 : zR v4) (e4 : zscr E (x3 + 4) = some (iI v4)) (r5 : zR v5) (e5 : zscr E (x3 + 5) = some (iI v5)) : nxt n E B x3 (fun rec => F_La_law_c32 n E rec (B + 0) (B + 105) x3 S M) := by
  obtain ⟨r, M1, M2, g1, g2, hI⟩ := c_settled (n := n) (E := E) h hn r1
  dsimp only at g1 g2
  refine ⟨S, M2, hI, fun rec => ?_⟩
  show F_La_law_c32 n E rec (B + 0) (B + 105) x3 S M = _
  unfold F_La_law_c32 F_La_law_b1286
  rw [e1, obs, h.1.ck0, obs, g1, obs, obs, h.1.ck105, obs, g2, obs, if_pos rfl]
theorem k_c33 (hn : 100000 ≤ n) (h : Inv S M B) (r1 : zR v1) (e1 : zscr E (x3 + 1) = some (iI v1)) (r2 : zR v2) (e2 : zscr E (x3 + 2) = some (iI v2)) (r3 : zR v3) (e3 : zscr E (x3 + 3) = some (iI v3)) (r4 : zR v4) (e4 : zscr E (x3 + 4) = some (iI v4)) (r5 : zR v5) (e5 : zscr E (x3 + 5) = some (iI v5)) : nxt n E B x3 (fun rec => F_La_law_c33 n E rec (B + 0) (B + 105) x3 S M) := by
  obtain ⟨r, M1, M2, g1, g2, hI⟩ := c_few (n := n) (E := E) h hn r1 r2
  dsimp only at g1 g2
  refine ⟨S, M2, hI, fun rec => ?_⟩
  show F_La_law_c33 n E rec (B + 0) (B + 105) x3 S M = _
  unfold F_La_law_c33 F_La_law_b1286
  rw [e1, obs, e2, obs, h.1.ck0, obs, g1, obs, obs, obs, h.1.ck105, obs, g2, obs, if_pos rfl]
theorem k_c34 (hn : 100000 ≤ n) (h : Inv S M B) (r1 : zR v1) (e1 : zscr E (x3 + 1) = some (iI v1)) (r2 : zR v2) (e2 : zscr E (x3 + 2) = some (iI v2)) (r3 : zR v3) (e3 : zscr E (x3 + 3) = some (iI v3)) (r4 : zR v4) (e4 : zscr E (x3 + 4) = some (iI v4)) (r5 : zR v5) (e5 : zscr E (x3 + 5) = some (iI v5)) : nxt n E B x3 (fun rec => F_La_law_c34 n E rec (B + 0) (B + 105) x3 S M) := by
  obtain ⟨r, M1, M2, g1, g2, hI⟩ := c_worth (n := n) (E := E) h hn r1
  dsimp only at g1 g2
  refine ⟨S, M2, hI, fun rec => ?_⟩
  show F_La_law_c34 n E rec (B + 0) (B + 105) x3 S M = _
  unfold F_La_law_c34 F_La_law_b1286
  rw [e1, obs, h.1.ck0, obs, g1, obs, obs, h.1.ck105, obs, g2, obs, if_pos rfl]
theorem k_c35 (hn : 100000 ≤ n) (h : Inv S M B) (r1 : zR v1) (e1 : zscr E (x3 + 1) = some (iI v1)) (r2 : zR v2) (e2 : zscr E (x3 + 2) = some (iI v2)) (r3 : zR v3) (e3 : zscr E (x3 + 3) = some (iI v3)) (r4 : zR v4) (e4 : zscr E (x3 + 4) = some (iI v4)) (r5 : zR v5) (e5 : zscr E (x3 + 5) = some (iI v5)) : nxt n E B x3 (fun rec => F_La_law_c35 n E rec (B + 0) (B + 105) x3 S M) := by
  obtain ⟨r, M1, M2, g1, g2, hI⟩ := c_years (n := n) (E := E) h hn r1 r2
  dsimp only at g1 g2
  refine ⟨S, M2, hI, fun rec => ?_⟩
  show F_La_law_c35 n E rec (B + 0) (B + 105) x3 S M = _
  unfold F_La_law_c35 F_La_law_b1286
  rw [e1, obs, e2, obs, h.1.ck0, obs, g1, obs, obs, obs, h.1.ck105, obs, g2, obs, if_pos rfl]
theorem k_c36 (hn : 100000 ≤ n) (h : Inv S M B) (r1 : zR v1) (e1 : zscr E (x3 + 1) = some (iI v1)) (r2 : zR v2) (e2 : zscr E (x3 + 2) = some (iI v2)) (r3 : zR v3) (e3 : zscr E (x3 + 3) = some (iI v3)) (r4 : zR v4) (e4 : zscr E (x3 + 4) = some (iI v4)) (r5 : zR v5) (e5 : zscr E (x3 + 5) = some (iI v5)) : nxt n E B x3 (fun rec => F_La_law_c36 n E rec (B + 0) (B + 105) x3 S M) := by
  obtain ⟨r, M1, M2, g1, g2, hI⟩ := c_drawn (n := n) (E := E) h hn r1 r2
  dsimp only at g1 g2
  refine ⟨S, M2, hI, fun rec => ?_⟩
  show F_La_law_c36 n E rec (B + 0) (B + 105) x3 S M = _
  unfold F_La_law_c36 F_La_law_b1286
  rw [e1, obs, e2, obs, h.1.ck0, obs, g1, obs, obs, obs, h.1.ck105, obs, g2, obs, if_pos rfl]
theorem k_c37 (hn : 100000 ≤ n) (h : Inv S M B) (r1 : zR v1) (e1 : zscr E (x3 + 1) = some (iI v1)) (r2 : zR v2) (e2 : zscr E (x3 + 2) = some (iI v2)) (r3 : zR v3) (e3 : zscr E (x3 + 3) = some (iI v3)) (r4 : zR v4) (e4 : zscr E (x3 + 4) = some (iI v4)) (r5 : zR v5) (e5 : zscr E (x3 + 5) = some (iI v5)) : nxt n E B x3 (fun rec => F_La_law_c37 n E rec (B + 0) (B + 105) x3 S M) := by
  obtain ⟨r, M1, M2, g1, g2, hI⟩ := c_image (n := n) (E := E) h hn r1
  dsimp only at g1 g2
  refine ⟨S, M2, hI, fun rec => ?_⟩
  show F_La_law_c37 n E rec (B + 0) (B + 105) x3 S M = _
  unfold F_La_law_c37 F_La_law_b1286
  rw [e1, obs, h.1.ck0, obs, g1, obs, obs, h.1.ck105, obs, g2, obs, if_pos rfl]
theorem k_c38 (hn : 100000 ≤ n) (h : Inv S M B) (r1 : zR v1) (e1 : zscr E (x3 + 1) = some (iI v1)) (r2 : zR v2) (e2 : zscr E (x3 + 2) = some (iI v2)) (r3 : zR v3) (e3 : zscr E (x3 + 3) = some (iI v3)) (r4 : zR v4) (e4 : zscr E (x3 + 4) = some (iI v4)) (r5 : zR v5) (e5 : zscr E (x3 + 5) = some (iI v5)) : nxt n E B x3 (fun rec => F_La_law_c38 n E rec (B + 0) (B + 105) x3 S M) := by
  obtain ⟨r, M1, M2, g1, g2, hI⟩ := c_back (n := n) (E := E) h hn r1
  dsimp only at g1 g2
  refine ⟨S, M2, hI, fun rec => ?_⟩
  show F_La_law_c38 n E rec (B + 0) (B + 105) x3 S M = _
  unfold F_La_law_c38 F_La_law_b1286
  rw [e1, obs, h.1.ck0, obs, g1, obs, obs, h.1.ck105, obs, g2, obs, if_pos rfl]
theorem k_c39 (hn : 100000 ≤ n) (h : Inv S M B) (r1 : zR v1) (e1 : zscr E (x3 + 1) = some (iI v1)) (r2 : zR v2) (e2 : zscr E (x3 + 2) = some (iI v2)) (r3 : zR v3) (e3 : zscr E (x3 + 3) = some (iI v3)) (r4 : zR v4) (e4 : zscr E (x3 + 4) = some (iI v4)) (r5 : zR v5) (e5 : zscr E (x3 + 5) = some (iI v5)) : nxt n E B x3 (fun rec => F_La_law_c39 n E rec (B + 0) (B + 105) x3 S M) := by
  obtain ⟨r, M1, M2, g1, g2, hI⟩ := c_count (n := n) (E := E) h hn r1
  dsimp only at g1 g2
  refine ⟨S, M2, hI, fun rec => ?_⟩
  show F_La_law_c39 n E rec (B + 0) (B + 105) x3 S M = _
  unfold F_La_law_c39 F_La_law_b1286
  rw [e1, obs, h.1.ck0, obs, g1, obs, obs, h.1.ck105, obs, g2, obs, if_pos rfl]
theorem k_c40 (hn : 100000 ≤ n) (h : Inv S M B) (r1 : zR v1) (e1 : zscr E (x3 + 1) = some (iI v1)) (r2 : zR v2) (e2 : zscr E (x3 + 2) = some (iI v2)) (r3 : zR v3) (e3 : zscr E (x3 + 3) = some (iI v3)) (r4 : zR v4) (e4 : zscr E (x3 + 4) = some (iI v4)) (r5 : zR v5) (e5 : zscr E (x3 + 5) = some (iI v5)) : nxt n E B x3 (fun rec => F_La_law_c40 n E rec (B + 0) (B + 105) x3 S M) := by
  obtain ⟨r, M1, M2, g1, g2, hI⟩ := c_status (n := n) (E := E) h
  dsimp only at g1 g2
  refine ⟨S, M2, hI, fun rec => ?_⟩
  show F_La_law_c40 n E rec (B + 0) (B + 105) x3 S M = _
  unfold F_La_law_c40 F_La_law_b1286
  rw [h.1.ck0, obs, g1, obs, h.1.ck105, obs, g2, obs, if_pos rfl]
theorem law_step (hn : 100000 ≤ n) (hl : LawOK n E B) (ho : OrdOK n E B) (hL : eL E ≤ 3072) {i : Nat} (hi : 6 * i + 6 ≤ eL E) (h : Inv S M B) : nxt n E B (iI ((6 * i : Nat) : Int)) (fun rec => F_La_law_L18 n E rec (B + 0) (B + 105) (iI ((6 * i : Nat) : Int)) S M) := by
  have hx3 : (6 * i : Nat) = (6 * i : Nat) := rfl
  obtain ⟨v0, r0, e0⟩ := scr (E := E) (a := ((6 * i : Nat) : Int)) (by omega) (by omega) hL
  obtain ⟨v1, r1, e1⟩ := scr (E := E) (a := ((6 * i : Nat) : Int) + 1) (by omega) (by omega) hL
  rw [← iI_add, show iI 1 = (1 : Int32) from rfl] at e1
  obtain ⟨v2, r2, e2⟩ := scr (E := E) (a := ((6 * i : Nat) : Int) + 2) (by omega) (by omega) hL
  rw [← iI_add, show iI 2 = (2 : Int32) from rfl] at e2
  obtain ⟨v3, r3, e3⟩ := scr (E := E) (a := ((6 * i : Nat) : Int) + 3) (by omega) (by omega) hL
  rw [← iI_add, show iI 3 = (3 : Int32) from rfl] at e3
  obtain ⟨v4, r4, e4⟩ := scr (E := E) (a := ((6 * i : Nat) : Int) + 4) (by omega) (by omega) hL
  rw [← iI_add, show iI 4 = (4 : Int32) from rfl] at e4
  obtain ⟨v5, r5, e5⟩ := scr (E := E) (a := ((6 * i : Nat) : Int) + 5) (by omega) (by omega) hL
  rw [← iI_add, show iI 5 = (5 : Int32) from rfl] at e5
  have c0 : ¬ nI (eL E) - 6 < iI ((6 * i : Nat) : Int) := by
    rw [← iI_nat, show (6 : Int32) = iI 6 from rfl, iI_sub]
    exact cltF (by omega) (by omega) (by omega)
  generalize iI ((6 * i : Nat) : Int) = x3 at e0 e1 e2 e3 e4 e5 c0 ⊢
  have red : ∀ rec, F_La_law_L18 n E rec (B + 0) (B + 105) x3 S M = (zscr E x3).bind (fun v_2 => F_La_law_L18 n E rec (B + 0) (B + 105) x3 S M) := fun rec => by rw [e0, obs]
  clear red
  unfold F_La_law_L18
  simp only [if_neg c0, e0, obs]
  by_cases q0 : (iI v0 &&& (63 : Int32)) = 0
  · simp only [if_pos q0]; exact k_c0 hn h r1 e1 r2 e2 r3 e3 r4 e4 r5 e5
  simp only [if_neg q0]
  by_cases q1 : (iI v0 &&& (63 : Int32)) = 1
  · simp only [if_pos q1]; exact k_c1 hn h r1 e1 r2 e2 r3 e3 r4 e4 r5 e5
  simp only [if_neg q1]
  by_cases q2 : (iI v0 &&& (63 : Int32)) = 2
  · simp only [if_pos q2]; exact k_c2 hn h r1 e1 r2 e2 r3 e3 r4 e4 r5 e5
  simp only [if_neg q2]
  by_cases q3 : (iI v0 &&& (63 : Int32)) = 3
  · simp only [if_pos q3]; exact k_c3 hn h r1 e1 r2 e2 r3 e3 r4 e4 r5 e5
  simp only [if_neg q3]
  by_cases q4 : (iI v0 &&& (63 : Int32)) = 4
  · simp only [if_pos q4]; exact k_c4 hn h r1 e1 r2 e2 r3 e3 r4 e4 r5 e5
  simp only [if_neg q4]
  by_cases q5 : (iI v0 &&& (63 : Int32)) = 5
  · simp only [if_pos q5]; exact k_c5 hn h r1 e1 r2 e2 r3 e3 r4 e4 r5 e5
  simp only [if_neg q5]
  by_cases q6 : (iI v0 &&& (63 : Int32)) = 6
  · simp only [if_pos q6]; exact k_c6 hn h r1 e1 r2 e2 r3 e3 r4 e4 r5 e5
  simp only [if_neg q6]
  by_cases q7 : (iI v0 &&& (63 : Int32)) = 7
  · simp only [if_pos q7]; exact k_c7 hn h r1 e1 r2 e2 r3 e3 r4 e4 r5 e5
  simp only [if_neg q7]
  by_cases q8 : (iI v0 &&& (63 : Int32)) = 8
  · simp only [if_pos q8]; exact k_c8 hn h r1 e1 r2 e2 r3 e3 r4 e4 r5 e5
  simp only [if_neg q8]
  by_cases q9 : (iI v0 &&& (63 : Int32)) = 9
  · simp only [if_pos q9]; exact k_c9 hn h r1 e1 r2 e2 r3 e3 r4 e4 r5 e5
  simp only [if_neg q9]
  by_cases q10 : (iI v0 &&& (63 : Int32)) = 10
  · simp only [if_pos q10]; exact k_c10 hn h r1 e1 r2 e2 r3 e3 r4 e4 r5 e5
  simp only [if_neg q10]
  by_cases q11 : (iI v0 &&& (63 : Int32)) = 11
  · simp only [if_pos q11]; exact k_c11 hl h
  simp only [if_neg q11]
  by_cases q12 : (iI v0 &&& (63 : Int32)) = 12
  · simp only [if_pos q12]; exact k_c12 ho h
  simp only [if_neg q12]
  by_cases q13 : (iI v0 &&& (63 : Int32)) = 13
  · simp only [if_pos q13]; exact k_c13 hn h r1 e1 r2 e2 r3 e3 r4 e4 r5 e5
  simp only [if_neg q13]
  by_cases q14 : (iI v0 &&& (63 : Int32)) = 14
  · simp only [if_pos q14]; exact k_c14 hn h r1 e1 r2 e2 r3 e3 r4 e4 r5 e5
  simp only [if_neg q14]
  by_cases q15 : (iI v0 &&& (63 : Int32)) = 15
  · simp only [if_pos q15]; exact k_c15 hn h r1 e1 r2 e2 r3 e3 r4 e4 r5 e5
  simp only [if_neg q15]
  by_cases q16 : (iI v0 &&& (63 : Int32)) = 16
  · simp only [if_pos q16]; exact k_c16 hn h r1 e1 r2 e2 r3 e3 r4 e4 r5 e5
  simp only [if_neg q16]
  by_cases q17 : (iI v0 &&& (63 : Int32)) = 17
  · simp only [if_pos q17]; exact k_c17 hn h r1 e1 r2 e2 r3 e3 r4 e4 r5 e5
  simp only [if_neg q17]
  by_cases q18 : (iI v0 &&& (63 : Int32)) = 18
  · simp only [if_pos q18]; exact k_c18 hn h r1 e1 r2 e2 r3 e3 r4 e4 r5 e5
  simp only [if_neg q18]
  by_cases q19 : (iI v0 &&& (63 : Int32)) = 19
  · simp only [if_pos q19]; exact k_c19 hn h r1 e1 r2 e2 r3 e3 r4 e4 r5 e5
  simp only [if_neg q19]
  by_cases q20 : (iI v0 &&& (63 : Int32)) = 20
  · simp only [if_pos q20]; exact k_c20 hn h r1 e1 r2 e2 r3 e3 r4 e4 r5 e5
  simp only [if_neg q20]
  by_cases q21 : (iI v0 &&& (63 : Int32)) = 21
  · simp only [if_pos q21]; exact k_c21 hn h r1 e1 r2 e2 r3 e3 r4 e4 r5 e5
  simp only [if_neg q21]
  by_cases q22 : (iI v0 &&& (63 : Int32)) = 22
  · simp only [if_pos q22]; exact k_c22 hn h r1 e1 r2 e2 r3 e3 r4 e4 r5 e5
  simp only [if_neg q22]
  by_cases q23 : (iI v0 &&& (63 : Int32)) = 23
  · simp only [if_pos q23]; exact k_c23 hn h r1 e1 r2 e2 r3 e3 r4 e4 r5 e5
  simp only [if_neg q23]
  by_cases q24 : (iI v0 &&& (63 : Int32)) = 24
  · simp only [if_pos q24]; exact k_c24 hn h r1 e1 r2 e2 r3 e3 r4 e4 r5 e5
  simp only [if_neg q24]
  by_cases q25 : (iI v0 &&& (63 : Int32)) = 25
  · simp only [if_pos q25]; exact k_c25 hn h r1 e1 r2 e2 r3 e3 r4 e4 r5 e5
  simp only [if_neg q25]
  by_cases q26 : (iI v0 &&& (63 : Int32)) = 26
  · simp only [if_pos q26]; exact k_c26 hn h r1 e1 r2 e2 r3 e3 r4 e4 r5 e5
  simp only [if_neg q26]
  by_cases q27 : (iI v0 &&& (63 : Int32)) = 27
  · simp only [if_pos q27]; exact k_c27 hn h r1 e1 r2 e2 r3 e3 r4 e4 r5 e5
  simp only [if_neg q27]
  by_cases q28 : (iI v0 &&& (63 : Int32)) = 28
  · simp only [if_pos q28]; exact k_c28 hn h r1 e1 r2 e2 r3 e3 r4 e4 r5 e5
  simp only [if_neg q28]
  by_cases q29 : (iI v0 &&& (63 : Int32)) = 29
  · simp only [if_pos q29]; exact k_c29 hn h r1 e1 r2 e2 r3 e3 r4 e4 r5 e5
  simp only [if_neg q29]
  by_cases q30 : (iI v0 &&& (63 : Int32)) = 30
  · simp only [if_pos q30]; exact k_c30 hn h r1 e1 r2 e2 r3 e3 r4 e4 r5 e5
  simp only [if_neg q30]
  by_cases q31 : (iI v0 &&& (63 : Int32)) = 31
  · simp only [if_pos q31]; exact k_c31 hn h r1 e1 r2 e2 r3 e3 r4 e4 r5 e5
  simp only [if_neg q31]
  by_cases q32 : (iI v0 &&& (63 : Int32)) = 32
  · simp only [if_pos q32]; exact k_c32 hn h r1 e1 r2 e2 r3 e3 r4 e4 r5 e5
  simp only [if_neg q32]
  by_cases q33 : (iI v0 &&& (63 : Int32)) = 33
  · simp only [if_pos q33]; exact k_c33 hn h r1 e1 r2 e2 r3 e3 r4 e4 r5 e5
  simp only [if_neg q33]
  by_cases q34 : (iI v0 &&& (63 : Int32)) = 34
  · simp only [if_pos q34]; exact k_c34 hn h r1 e1 r2 e2 r3 e3 r4 e4 r5 e5
  simp only [if_neg q34]
  by_cases q35 : (iI v0 &&& (63 : Int32)) = 35
  · simp only [if_pos q35]; exact k_c35 hn h r1 e1 r2 e2 r3 e3 r4 e4 r5 e5
  simp only [if_neg q35]
  by_cases q36 : (iI v0 &&& (63 : Int32)) = 36
  · simp only [if_pos q36]; exact k_c36 hn h r1 e1 r2 e2 r3 e3 r4 e4 r5 e5
  simp only [if_neg q36]
  by_cases q37 : (iI v0 &&& (63 : Int32)) = 37
  · simp only [if_pos q37]; exact k_c37 hn h r1 e1 r2 e2 r3 e3 r4 e4 r5 e5
  simp only [if_neg q37]
  by_cases q38 : (iI v0 &&& (63 : Int32)) = 38
  · simp only [if_pos q38]; exact k_c38 hn h r1 e1 r2 e2 r3 e3 r4 e4 r5 e5
  simp only [if_neg q38]
  by_cases q39 : (iI v0 &&& (63 : Int32)) = 39
  · simp only [if_pos q39]; exact k_c39 hn h r1 e1 r2 e2 r3 e3 r4 e4 r5 e5
  simp only [if_neg q39]
  by_cases q40 : (iI v0 &&& (63 : Int32)) = 40
  · simp only [if_pos q40]; exact k_c40 hn h r1 e1 r2 e2 r3 e3 r4 e4 r5 e5
  simp only [if_neg q40]
  exact ⟨S, M, h, fun rec => rfl⟩
theorem law_loop (hn : 100000 ≤ n) (hl : LawOK n E B) (ho : OrdOK n E B) (hL : eL E ≤ 3072) : ∀ (r i k : Nat) (S : zS) (M : zH), eL E / 6 ≤ i + r → r < k → i ≤ 512 → Inv S M B → ∃ S' M', zfix (fun r18 s => F_La_law_L18 n E r18 s.1 s.2.1 s.2.2.1 s.2.2.2.1 s.2.2.2.2) k (B + 0, B + 105, iI ((6 * i : Nat) : Int), S, M) = some (true, S', M') := by
  intro r
  induction r with
  | zero =>
    intro i k S M hr hk hi h
    obtain ⟨k, rfl⟩ : ∃ k', k = k' + 1 := ⟨k - 1, by omega⟩
    refine ⟨S, M, ?_⟩
    show F_La_law_L18 n E _ (B + 0) (B + 105) (iI ((6 * i : Nat) : Int)) S M = _
    unfold F_La_law_L18
    rw [if_pos (by
      rw [← iI_nat, show (6 : Int32) = iI 6 from rfl, iI_sub]
      exact cltT (by omega) (by omega) (by omega))]
  | succ r ih =>
    intro i k S M hr hk hi h
    obtain ⟨k, rfl⟩ : ∃ k', k = k' + 1 := ⟨k - 1, by omega⟩
    by_cases c : 6 * i + 6 ≤ eL E
    · obtain ⟨S1, M1, h1, e1⟩ := law_step (n := n) (E := E) hn hl ho hL c h
      obtain ⟨S2, M2, e2⟩ := ih (i + 1) k S1 M1 (by omega) (by omega) (by omega) h1
      refine ⟨S2, M2, ?_⟩
      show F_La_law_L18 n E _ (B + 0) (B + 105) (iI ((6 * i : Nat) : Int)) S M = _
      refine (e1 _).trans ?_
      rw [show (6 : Int32) = iI 6 from rfl, iI_add, show ((6 * i : Nat) : Int) + 6 = ((6 * (i + 1) : Nat) : Int) by omega]
      exact e2
    · refine ⟨S, M, ?_⟩
      show F_La_law_L18 n E _ (B + 0) (B + 105) (iI ((6 * i : Nat) : Int)) S M = _
      unfold F_La_law_L18
      rw [if_pos (by
        rw [← iI_nat, show (6 : Int32) = iI 6 from rfl, iI_sub]
        exact cltT (by omega) (by omega) (by omega))]
end
theorem pure_of (hl : ∀ E B, LawOK zN E B) (ho : ∀ E B, OrdOK zN E B) : zPure := by
  intro E hL
  refine law_start (n := zN) (E := E) (B := eB E) (P := fun x => ∃ (S' : zS) (M' : zH), x = some (true, S', M')) (by decide) (fun S M h => ?_)
  unfold F_La_law_b18
  exact law_loop (n := zN) (E := E) (by decide) (hl E (eB E)) (ho E (eB E)) hL 512 0 513 S M (by omega) (by decide) (by decide) h
