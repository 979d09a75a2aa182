/-! WRITING the model's row (printed by gen/rowset.py) -/
section
variable {M : zH} {q : Nat} {N : Nt}
theorem bmask_c {c k : Nat} {v : Int} (h : c ≠ 1) (r : Nat) : bmask (nset N c k v) r = bmask N r := by
  have e : ∀ i, nset N c k v 1 i = N 1 i := fun i => nset_c (fun q => h q.symm)
  unfold bmask
  simp only [e]
theorem RwN.s_nb (h : RwN (mI M q) N) (v : Int) : RwN (mI (setI M q 0 (iI v)) q) (nset N 11 0 v) := by
  obtain ⟨⟨h1, h2, h3, h4⟩, h5, h6, h7, h8, h9⟩ := h
  refine ⟨⟨?_, ?_, ?_, ?_⟩, fun j hj => ⟨?_, ?_, ?_⟩, fun j hj => ?_, fun j hj => ⟨?_, ?_, ?_⟩, fun j hj => ?_, fun j hj => ⟨?_, ?_⟩⟩
  · rw [mI_ite]
    unfold nset
    split <;> split
    · rfl
    · exfalso; omega
    · exfalso; omega
    · exact h1
  · rw [mI_ite]
    unfold nset
    split <;> split
    · rfl
    · exfalso; omega
    · exfalso; omega
    · exact h2
  · rw [mI_ite]
    unfold nset
    split <;> split
    · rfl
    · exfalso; omega
    · exfalso; omega
    · exact h3
  · rw [mI_ite]
    unfold nset
    split <;> split
    · rfl
    · exfalso; omega
    · exfalso; omega
    · exact h4
  · rw [mI_ite]
    unfold nset
    split <;> split
    · rfl
    · exfalso; omega
    · exfalso; omega
    · exact (h5 j hj).1
  · rw [mI_ite]
    unfold nset
    split <;> split
    · rfl
    · exfalso; omega
    · exfalso; omega
    · exact (h5 j hj).2.1
  · rw [bmask_c (by decide), mI_ite, if_neg (fun z => by omega)]; exact (h5 j hj).2.2
  · rw [mI_ite]
    unfold nset
    split <;> split
    · rfl
    · exfalso; omega
    · exfalso; omega
    · exact h6 j hj
  · rw [mI_ite]
    unfold nset
    split <;> split
    · rfl
    · exfalso; omega
    · exfalso; omega
    · exact (h7 j hj).1
  · rw [mI_ite]
    unfold nset
    split <;> split
    · rfl
    · exfalso; omega
    · exfalso; omega
    · exact (h7 j hj).2.1
  · rw [mI_ite]
    unfold nset
    split <;> split
    · rfl
    · exfalso; omega
    · exfalso; omega
    · exact (h7 j hj).2.2
  · rw [mI_ite]
    unfold nset
    split <;> split
    · rfl
    · exfalso; omega
    · exfalso; omega
    · exact h8 j hj
  · rw [mI_ite]
    unfold nset
    split <;> split
    · rfl
    · exfalso; omega
    · exfalso; omega
    · exact (h9 j hj).1
  · rw [mI_ite]
    unfold nset
    split <;> split
    · rfl
    · exfalso; omega
    · exfalso; omega
    · exact (h9 j hj).2
theorem RwN.s_ns (h : RwN (mI M q) N) (v : Int) : RwN (mI (setI M q 1 (iI v)) q) (nset N 12 0 v) := by
  obtain ⟨⟨h1, h2, h3, h4⟩, h5, h6, h7, h8, h9⟩ := h
  refine ⟨⟨?_, ?_, ?_, ?_⟩, fun j hj => ⟨?_, ?_, ?_⟩, fun j hj => ?_, fun j hj => ⟨?_, ?_, ?_⟩, fun j hj => ?_, fun j hj => ⟨?_, ?_⟩⟩
  · rw [mI_ite]
    unfold nset
    split <;> split
    · rfl
    · exfalso; omega
    · exfalso; omega
    · exact h1
  · rw [mI_ite]
    unfold nset
    split <;> split
    · rfl
    · exfalso; omega
    · exfalso; omega
    · exact h2
  · rw [mI_ite]
    unfold nset
    split <;> split
    · rfl
    · exfalso; omega
    · exfalso; omega
    · exact h3
  · rw [mI_ite]
    unfold nset
    split <;> split
    · rfl
    · exfalso; omega
    · exfalso; omega
    · exact h4
  · rw [mI_ite]
    unfold nset
    split <;> split
    · rfl
    · exfalso; omega
    · exfalso; omega
    · exact (h5 j hj).1
  · rw [mI_ite]
    unfold nset
    split <;> split
    · rfl
    · exfalso; omega
    · exfalso; omega
    · exact (h5 j hj).2.1
  · rw [bmask_c (by decide), mI_ite, if_neg (fun z => by omega)]; exact (h5 j hj).2.2
  · rw [mI_ite]
    unfold nset
    split <;> split
    · rfl
    · exfalso; omega
    · exfalso; omega
    · exact h6 j hj
  · rw [mI_ite]
    unfold nset
    split <;> split
    · rfl
    · exfalso; omega
    · exfalso; omega
    · exact (h7 j hj).1
  · rw [mI_ite]
    unfold nset
    split <;> split
    · rfl
    · exfalso; omega
    · exfalso; omega
    · exact (h7 j hj).2.1
  · rw [mI_ite]
    unfold nset
    split <;> split
    · rfl
    · exfalso; omega
    · exfalso; omega
    · exact (h7 j hj).2.2
  · rw [mI_ite]
    unfold nset
    split <;> split
    · rfl
    · exfalso; omega
    · exfalso; omega
    · exact h8 j hj
  · rw [mI_ite]
    unfold nset
    split <;> split
    · rfl
    · exfalso; omega
    · exfalso; omega
    · exact (h9 j hj).1
  · rw [mI_ite]
    unfold nset
    split <;> split
    · rfl
    · exfalso; omega
    · exfalso; omega
    · exact (h9 j hj).2
theorem RwN.s_nl (h : RwN (mI M q) N) (v : Int) : RwN (mI (setI M q 2 (iI v)) q) (nset N 13 0 v) := by
  obtain ⟨⟨h1, h2, h3, h4⟩, h5, h6, h7, h8, h9⟩ := h
  refine ⟨⟨?_, ?_, ?_, ?_⟩, fun j hj => ⟨?_, ?_, ?_⟩, fun j hj => ?_, fun j hj => ⟨?_, ?_, ?_⟩, fun j hj => ?_, fun j hj => ⟨?_, ?_⟩⟩
  · rw [mI_ite]
    unfold nset
    split <;> split
    · rfl
    · exfalso; omega
    · exfalso; omega
    · exact h1
  · rw [mI_ite]
    unfold nset
    split <;> split
    · rfl
    · exfalso; omega
    · exfalso; omega
    · exact h2
  · rw [mI_ite]
    unfold nset
    split <;> split
    · rfl
    · exfalso; omega
    · exfalso; omega
    · exact h3
  · rw [mI_ite]
    unfold nset
    split <;> split
    · rfl
    · exfalso; omega
    · exfalso; omega
    · exact h4
  · rw [mI_ite]
    unfold nset
    split <;> split
    · rfl
    · exfalso; omega
    · exfalso; omega
    · exact (h5 j hj).1
  · rw [mI_ite]
    unfold nset
    split <;> split
    · rfl
    · exfalso; omega
    · exfalso; omega
    · exact (h5 j hj).2.1
  · rw [bmask_c (by decide), mI_ite, if_neg (fun z => by omega)]; exact (h5 j hj).2.2
  · rw [mI_ite]
    unfold nset
    split <;> split
    · rfl
    · exfalso; omega
    · exfalso; omega
    · exact h6 j hj
  · rw [mI_ite]
    unfold nset
    split <;> split
    · rfl
    · exfalso; omega
    · exfalso; omega
    · exact (h7 j hj).1
  · rw [mI_ite]
    unfold nset
    split <;> split
    · rfl
    · exfalso; omega
    · exfalso; omega
    · exact (h7 j hj).2.1
  · rw [mI_ite]
    unfold nset
    split <;> split
    · rfl
    · exfalso; omega
    · exfalso; omega
    · exact (h7 j hj).2.2
  · rw [mI_ite]
    unfold nset
    split <;> split
    · rfl
    · exfalso; omega
    · exfalso; omega
    · exact h8 j hj
  · rw [mI_ite]
    unfold nset
    split <;> split
    · rfl
    · exfalso; omega
    · exfalso; omega
    · exact (h9 j hj).1
  · rw [mI_ite]
    unfold nset
    split <;> split
    · rfl
    · exfalso; omega
    · exfalso; omega
    · exact (h9 j hj).2
theorem RwN.s_fo (h : RwN (mI M q) N) (v : Int) : RwN (mI (setI M q 3 (iI v)) q) (nset N 14 0 v) := by
  obtain ⟨⟨h1, h2, h3, h4⟩, h5, h6, h7, h8, h9⟩ := h
  refine ⟨⟨?_, ?_, ?_, ?_⟩, fun j hj => ⟨?_, ?_, ?_⟩, fun j hj => ?_, fun j hj => ⟨?_, ?_, ?_⟩, fun j hj => ?_, fun j hj => ⟨?_, ?_⟩⟩
  · rw [mI_ite]
    unfold nset
    split <;> split
    · rfl
    · exfalso; omega
    · exfalso; omega
    · exact h1
  · rw [mI_ite]
    unfold nset
    split <;> split
    · rfl
    · exfalso; omega
    · exfalso; omega
    · exact h2
  · rw [mI_ite]
    unfold nset
    split <;> split
    · rfl
    · exfalso; omega
    · exfalso; omega
    · exact h3
  · rw [mI_ite]
    unfold nset
    split <;> split
    · rfl
    · exfalso; omega
    · exfalso; omega
    · exact h4
  · rw [mI_ite]
    unfold nset
    split <;> split
    · rfl
    · exfalso; omega
    · exfalso; omega
    · exact (h5 j hj).1
  · rw [mI_ite]
    unfold nset
    split <;> split
    · rfl
    · exfalso; omega
    · exfalso; omega
    · exact (h5 j hj).2.1
  · rw [bmask_c (by decide), mI_ite, if_neg (fun z => by omega)]; exact (h5 j hj).2.2
  · rw [mI_ite]
    unfold nset
    split <;> split
    · rfl
    · exfalso; omega
    · exfalso; omega
    · exact h6 j hj
  · rw [mI_ite]
    unfold nset
    split <;> split
    · rfl
    · exfalso; omega
    · exfalso; omega
    · exact (h7 j hj).1
  · rw [mI_ite]
    unfold nset
    split <;> split
    · rfl
    · exfalso; omega
    · exfalso; omega
    · exact (h7 j hj).2.1
  · rw [mI_ite]
    unfold nset
    split <;> split
    · rfl
    · exfalso; omega
    · exfalso; omega
    · exact (h7 j hj).2.2
  · rw [mI_ite]
    unfold nset
    split <;> split
    · rfl
    · exfalso; omega
    · exfalso; omega
    · exact h8 j hj
  · rw [mI_ite]
    unfold nset
    split <;> split
    · rfl
    · exfalso; omega
    · exfalso; omega
    · exact (h9 j hj).1
  · rw [mI_ite]
    unfold nset
    split <;> split
    · rfl
    · exfalso; omega
    · exfalso; omega
    · exact (h9 j hj).2
theorem RwN.s_term (h : RwN (mI M q) N) {k : Nat} (hk : k < 4) (v : Int) : RwN (mI (setI M q (4 + k) (iI v)) q) (nset N 9 k v) := by
  obtain ⟨⟨h1, h2, h3, h4⟩, h5, h6, h7, h8, h9⟩ := h
  refine ⟨⟨?_, ?_, ?_, ?_⟩, fun j hj => ⟨?_, ?_, ?_⟩, fun j hj => ?_, fun j hj => ⟨?_, ?_, ?_⟩, fun j hj => ?_, fun j hj => ⟨?_, ?_⟩⟩
  · rw [mI_ite]
    unfold nset
    split <;> split
    · rfl
    · exfalso; omega
    · exfalso; omega
    · exact h1
  · rw [mI_ite]
    unfold nset
    split <;> split
    · rfl
    · exfalso; omega
    · exfalso; omega
    · exact h2
  · rw [mI_ite]
    unfold nset
    split <;> split
    · rfl
    · exfalso; omega
    · exfalso; omega
    · exact h3
  · rw [mI_ite]
    unfold nset
    split <;> split
    · rfl
    · exfalso; omega
    · exfalso; omega
    · exact h4
  · rw [mI_ite]
    unfold nset
    split <;> split
    · rfl
    · exfalso; omega
    · exfalso; omega
    · exact (h5 j hj).1
  · rw [mI_ite]
    unfold nset
    split <;> split
    · rfl
    · exfalso; omega
    · exfalso; omega
    · exact (h5 j hj).2.1
  · rw [bmask_c (by decide), mI_ite, if_neg (fun z => by omega)]; exact (h5 j hj).2.2
  · rw [mI_ite]
    unfold nset
    split <;> split
    · rfl
    · exfalso; omega
    · exfalso; omega
    · exact h6 j hj
  · rw [mI_ite]
    unfold nset
    split <;> split
    · rfl
    · exfalso; omega
    · exfalso; omega
    · exact (h7 j hj).1
  · rw [mI_ite]
    unfold nset
    split <;> split
    · rfl
    · exfalso; omega
    · exfalso; omega
    · exact (h7 j hj).2.1
  · rw [mI_ite]
    unfold nset
    split <;> split
    · rfl
    · exfalso; omega
    · exfalso; omega
    · exact (h7 j hj).2.2
  · rw [mI_ite]
    unfold nset
    split <;> split
    · rfl
    · exfalso; omega
    · exfalso; omega
    · exact h8 j hj
  · rw [mI_ite]
    unfold nset
    split <;> split
    · rfl
    · exfalso; omega
    · exfalso; omega
    · exact (h9 j hj).1
  · rw [mI_ite]
    unfold nset
    split <;> split
    · rfl
    · exfalso; omega
    · exfalso; omega
    · exact (h9 j hj).2
theorem RwN.s_turn (h : RwN (mI M q) N) {k : Nat} (hk : k < 4) (v : Int) : RwN (mI (setI M q (8 + k) (iI v)) q) (nset N 2 k v) := by
  obtain ⟨⟨h1, h2, h3, h4⟩, h5, h6, h7, h8, h9⟩ := h
  refine ⟨⟨?_, ?_, ?_, ?_⟩, fun j hj => ⟨?_, ?_, ?_⟩, fun j hj => ?_, fun j hj => ⟨?_, ?_, ?_⟩, fun j hj => ?_, fun j hj => ⟨?_, ?_⟩⟩
  · rw [mI_ite]
    unfold nset
    split <;> split
    · rfl
    · exfalso; omega
    · exfalso; omega
    · exact h1
  · rw [mI_ite]
    unfold nset
    split <;> split
    · rfl
    · exfalso; omega
    · exfalso; omega
    · exact h2
  · rw [mI_ite]
    unfold nset
    split <;> split
    · rfl
    · exfalso; omega
    · exfalso; omega
    · exact h3
  · rw [mI_ite]
    unfold nset
    split <;> split
    · rfl
    · exfalso; omega
    · exfalso; omega
    · exact h4
  · rw [mI_ite]
    unfold nset
    split <;> split
    · rfl
    · exfalso; omega
    · exfalso; omega
    · exact (h5 j hj).1
  · rw [mI_ite]
    unfold nset
    split <;> split
    · rfl
    · exfalso; omega
    · exfalso; omega
    · exact (h5 j hj).2.1
  · rw [bmask_c (by decide), mI_ite, if_neg (fun z => by omega)]; exact (h5 j hj).2.2
  · rw [mI_ite]
    unfold nset
    split <;> split
    · rfl
    · exfalso; omega
    · exfalso; omega
    · exact h6 j hj
  · rw [mI_ite]
    unfold nset
    split <;> split
    · rfl
    · exfalso; omega
    · exfalso; omega
    · exact (h7 j hj).1
  · rw [mI_ite]
    unfold nset
    split <;> split
    · rfl
    · exfalso; omega
    · exfalso; omega
    · exact (h7 j hj).2.1
  · rw [mI_ite]
    unfold nset
    split <;> split
    · rfl
    · exfalso; omega
    · exfalso; omega
    · exact (h7 j hj).2.2
  · rw [mI_ite]
    unfold nset
    split <;> split
    · rfl
    · exfalso; omega
    · exfalso; omega
    · exact h8 j hj
  · rw [mI_ite]
    unfold nset
    split <;> split
    · rfl
    · exfalso; omega
    · exfalso; omega
    · exact (h9 j hj).1
  · rw [mI_ite]
    unfold nset
    split <;> split
    · rfl
    · exfalso; omega
    · exfalso; omega
    · exact (h9 j hj).2
theorem RwN.s_bore (h : RwN (mI M q) N) {k : Nat} (hk : k < 32) (v : Int) : RwN (mI (setI M q (12 + k) (iI v)) q) (nset N 0 k v) := by
  obtain ⟨⟨h1, h2, h3, h4⟩, h5, h6, h7, h8, h9⟩ := h
  refine ⟨⟨?_, ?_, ?_, ?_⟩, fun j hj => ⟨?_, ?_, ?_⟩, fun j hj => ?_, fun j hj => ⟨?_, ?_, ?_⟩, fun j hj => ?_, fun j hj => ⟨?_, ?_⟩⟩
  · rw [mI_ite]
    unfold nset
    split <;> split
    · rfl
    · exfalso; omega
    · exfalso; omega
    · exact h1
  · rw [mI_ite]
    unfold nset
    split <;> split
    · rfl
    · exfalso; omega
    · exfalso; omega
    · exact h2
  · rw [mI_ite]
    unfold nset
    split <;> split
    · rfl
    · exfalso; omega
    · exfalso; omega
    · exact h3
  · rw [mI_ite]
    unfold nset
    split <;> split
    · rfl
    · exfalso; omega
    · exfalso; omega
    · exact h4
  · rw [mI_ite]
    unfold nset
    split <;> split
    · rfl
    · exfalso; omega
    · exfalso; omega
    · exact (h5 j hj).1
  · rw [mI_ite]
    unfold nset
    split <;> split
    · rfl
    · exfalso; omega
    · exfalso; omega
    · exact (h5 j hj).2.1
  · rw [bmask_c (by decide), mI_ite, if_neg (fun z => by omega)]; exact (h5 j hj).2.2
  · rw [mI_ite]
    unfold nset
    split <;> split
    · rfl
    · exfalso; omega
    · exfalso; omega
    · exact h6 j hj
  · rw [mI_ite]
    unfold nset
    split <;> split
    · rfl
    · exfalso; omega
    · exfalso; omega
    · exact (h7 j hj).1
  · rw [mI_ite]
    unfold nset
    split <;> split
    · rfl
    · exfalso; omega
    · exfalso; omega
    · exact (h7 j hj).2.1
  · rw [mI_ite]
    unfold nset
    split <;> split
    · rfl
    · exfalso; omega
    · exfalso; omega
    · exact (h7 j hj).2.2
  · rw [mI_ite]
    unfold nset
    split <;> split
    · rfl
    · exfalso; omega
    · exfalso; omega
    · exact h8 j hj
  · rw [mI_ite]
    unfold nset
    split <;> split
    · rfl
    · exfalso; omega
    · exfalso; omega
    · exact (h9 j hj).1
  · rw [mI_ite]
    unfold nset
    split <;> split
    · rfl
    · exfalso; omega
    · exfalso; omega
    · exact (h9 j hj).2
theorem RwN.s_lev (h : RwN (mI M q) N) {k : Nat} (hk : k < 3) (v : Int) : RwN (mI (setI M q (48 + k) (iI v)) q) (nset N 4 k v) := by
  obtain ⟨⟨h1, h2, h3, h4⟩, h5, h6, h7, h8, h9⟩ := h
  refine ⟨⟨?_, ?_, ?_, ?_⟩, fun j hj => ⟨?_, ?_, ?_⟩, fun j hj => ?_, fun j hj => ⟨?_, ?_, ?_⟩, fun j hj => ?_, fun j hj => ⟨?_, ?_⟩⟩
  · rw [mI_ite]
    unfold nset
    split <;> split
    · rfl
    · exfalso; omega
    · exfalso; omega
    · exact h1
  · rw [mI_ite]
    unfold nset
    split <;> split
    · rfl
    · exfalso; omega
    · exfalso; omega
    · exact h2
  · rw [mI_ite]
    unfold nset
    split <;> split
    · rfl
    · exfalso; omega
    · exfalso; omega
    · exact h3
  · rw [mI_ite]
    unfold nset
    split <;> split
    · rfl
    · exfalso; omega
    · exfalso; omega
    · exact h4
  · rw [mI_ite]
    unfold nset
    split <;> split
    · rfl
    · exfalso; omega
    · exfalso; omega
    · exact (h5 j hj).1
  · rw [mI_ite]
    unfold nset
    split <;> split
    · rfl
    · exfalso; omega
    · exfalso; omega
    · exact (h5 j hj).2.1
  · rw [bmask_c (by decide), mI_ite, if_neg (fun z => by omega)]; exact (h5 j hj).2.2
  · rw [mI_ite]
    unfold nset
    split <;> split
    · rfl
    · exfalso; omega
    · exfalso; omega
    · exact h6 j hj
  · rw [mI_ite]
    unfold nset
    split <;> split
    · rfl
    · exfalso; omega
    · exfalso; omega
    · exact (h7 j hj).1
  · rw [mI_ite]
    unfold nset
    split <;> split
    · rfl
    · exfalso; omega
    · exfalso; omega
    · exact (h7 j hj).2.1
  · rw [mI_ite]
    unfold nset
    split <;> split
    · rfl
    · exfalso; omega
    · exfalso; omega
    · exact (h7 j hj).2.2
  · rw [mI_ite]
    unfold nset
    split <;> split
    · rfl
    · exfalso; omega
    · exfalso; omega
    · exact h8 j hj
  · rw [mI_ite]
    unfold nset
    split <;> split
    · rfl
    · exfalso; omega
    · exfalso; omega
    · exact (h9 j hj).1
  · rw [mI_ite]
    unfold nset
    split <;> split
    · rfl
    · exfalso; omega
    · exfalso; omega
    · exact (h9 j hj).2
theorem RwN.s_fie (h : RwN (mI M q) N) {k : Nat} (hk : k < 3) (v : Int) : RwN (mI (setI M q (51 + k) (iI v)) q) (nset N 5 k v) := by
  obtain ⟨⟨h1, h2, h3, h4⟩, h5, h6, h7, h8, h9⟩ := h
  refine ⟨⟨?_, ?_, ?_, ?_⟩, fun j hj => ⟨?_, ?_, ?_⟩, fun j hj => ?_, fun j hj => ⟨?_, ?_, ?_⟩, fun j hj => ?_, fun j hj => ⟨?_, ?_⟩⟩
  · rw [mI_ite]
    unfold nset
    split <;> split
    · rfl
    · exfalso; omega
    · exfalso; omega
    · exact h1
  · rw [mI_ite]
    unfold nset
    split <;> split
    · rfl
    · exfalso; omega
    · exfalso; omega
    · exact h2
  · rw [mI_ite]
    unfold nset
    split <;> split
    · rfl
    · exfalso; omega
    · exfalso; omega
    · exact h3
  · rw [mI_ite]
    unfold nset
    split <;> split
    · rfl
    · exfalso; omega
    · exfalso; omega
    · exact h4
  · rw [mI_ite]
    unfold nset
    split <;> split
    · rfl
    · exfalso; omega
    · exfalso; omega
    · exact (h5 j hj).1
  · rw [mI_ite]
    unfold nset
    split <;> split
    · rfl
    · exfalso; omega
    · exfalso; omega
    · exact (h5 j hj).2.1
  · rw [bmask_c (by decide), mI_ite, if_neg (fun z => by omega)]; exact (h5 j hj).2.2
  · rw [mI_ite]
    unfold nset
    split <;> split
    · rfl
    · exfalso; omega
    · exfalso; omega
    · exact h6 j hj
  · rw [mI_ite]
    unfold nset
    split <;> split
    · rfl
    · exfalso; omega
    · exfalso; omega
    · exact (h7 j hj).1
  · rw [mI_ite]
    unfold nset
    split <;> split
    · rfl
    · exfalso; omega
    · exfalso; omega
    · exact (h7 j hj).2.1
  · rw [mI_ite]
    unfold nset
    split <;> split
    · rfl
    · exfalso; omega
    · exfalso; omega
    · exact (h7 j hj).2.2
  · rw [mI_ite]
    unfold nset
    split <;> split
    · rfl
    · exfalso; omega
    · exfalso; omega
    · exact h8 j hj
  · rw [mI_ite]
    unfold nset
    split <;> split
    · rfl
    · exfalso; omega
    · exfalso; omega
    · exact (h9 j hj).1
  · rw [mI_ite]
    unfold nset
    split <;> split
    · rfl
    · exfalso; omega
    · exfalso; omega
    · exact (h9 j hj).2
theorem RwN.s_siz (h : RwN (mI M q) N) {k : Nat} (hk : k < 3) (v : Int) : RwN (mI (setI M q (54 + k) (iI v)) q) (nset N 3 k v) := by
  obtain ⟨⟨h1, h2, h3, h4⟩, h5, h6, h7, h8, h9⟩ := h
  refine ⟨⟨?_, ?_, ?_, ?_⟩, fun j hj => ⟨?_, ?_, ?_⟩, fun j hj => ?_, fun j hj => ⟨?_, ?_, ?_⟩, fun j hj => ?_, fun j hj => ⟨?_, ?_⟩⟩
  · rw [mI_ite]
    unfold nset
    split <;> split
    · rfl
    · exfalso; omega
    · exfalso; omega
    · exact h1
  · rw [mI_ite]
    unfold nset
    split <;> split
    · rfl
    · exfalso; omega
    · exfalso; omega
    · exact h2
  · rw [mI_ite]
    unfold nset
    split <;> split
    · rfl
    · exfalso; omega
    · exfalso; omega
    · exact h3
  · rw [mI_ite]
    unfold nset
    split <;> split
    · rfl
    · exfalso; omega
    · exfalso; omega
    · exact h4
  · rw [mI_ite]
    unfold nset
    split <;> split
    · rfl
    · exfalso; omega
    · exfalso; omega
    · exact (h5 j hj).1
  · rw [mI_ite]
    unfold nset
    split <;> split
    · rfl
    · exfalso; omega
    · exfalso; omega
    · exact (h5 j hj).2.1
  · rw [bmask_c (by decide), mI_ite, if_neg (fun z => by omega)]; exact (h5 j hj).2.2
  · rw [mI_ite]
    unfold nset
    split <;> split
    · rfl
    · exfalso; omega
    · exfalso; omega
    · exact h6 j hj
  · rw [mI_ite]
    unfold nset
    split <;> split
    · rfl
    · exfalso; omega
    · exfalso; omega
    · exact (h7 j hj).1
  · rw [mI_ite]
    unfold nset
    split <;> split
    · rfl
    · exfalso; omega
    · exfalso; omega
    · exact (h7 j hj).2.1
  · rw [mI_ite]
    unfold nset
    split <;> split
    · rfl
    · exfalso; omega
    · exfalso; omega
    · exact (h7 j hj).2.2
  · rw [mI_ite]
    unfold nset
    split <;> split
    · rfl
    · exfalso; omega
    · exfalso; omega
    · exact h8 j hj
  · rw [mI_ite]
    unfold nset
    split <;> split
    · rfl
    · exfalso; omega
    · exfalso; omega
    · exact (h9 j hj).1
  · rw [mI_ite]
    unfold nset
    split <;> split
    · rfl
    · exfalso; omega
    · exfalso; omega
    · exact (h9 j hj).2
theorem RwN.s_want (h : RwN (mI M q) N) {k : Nat} (hk : k < 8) (v : Int) : RwN (mI (setI M q (57 + k) (iI v)) q) (nset N 6 k v) := by
  obtain ⟨⟨h1, h2, h3, h4⟩, h5, h6, h7, h8, h9⟩ := h
  refine ⟨⟨?_, ?_, ?_, ?_⟩, fun j hj => ⟨?_, ?_, ?_⟩, fun j hj => ?_, fun j hj => ⟨?_, ?_, ?_⟩, fun j hj => ?_, fun j hj => ⟨?_, ?_⟩⟩
  · rw [mI_ite]
    unfold nset
    split <;> split
    · rfl
    · exfalso; omega
    · exfalso; omega
    · exact h1
  · rw [mI_ite]
    unfold nset
    split <;> split
    · rfl
    · exfalso; omega
    · exfalso; omega
    · exact h2
  · rw [mI_ite]
    unfold nset
    split <;> split
    · rfl
    · exfalso; omega
    · exfalso; omega
    · exact h3
  · rw [mI_ite]
    unfold nset
    split <;> split
    · rfl
    · exfalso; omega
    · exfalso; omega
    · exact h4
  · rw [mI_ite]
    unfold nset
    split <;> split
    · rfl
    · exfalso; omega
    · exfalso; omega
    · exact (h5 j hj).1
  · rw [mI_ite]
    unfold nset
    split <;> split
    · rfl
    · exfalso; omega
    · exfalso; omega
    · exact (h5 j hj).2.1
  · rw [bmask_c (by decide), mI_ite, if_neg (fun z => by omega)]; exact (h5 j hj).2.2
  · rw [mI_ite]
    unfold nset
    split <;> split
    · rfl
    · exfalso; omega
    · exfalso; omega
    · exact h6 j hj
  · rw [mI_ite]
    unfold nset
    split <;> split
    · rfl
    · exfalso; omega
    · exfalso; omega
    · exact (h7 j hj).1
  · rw [mI_ite]
    unfold nset
    split <;> split
    · rfl
    · exfalso; omega
    · exfalso; omega
    · exact (h7 j hj).2.1
  · rw [mI_ite]
    unfold nset
    split <;> split
    · rfl
    · exfalso; omega
    · exfalso; omega
    · exact (h7 j hj).2.2
  · rw [mI_ite]
    unfold nset
    split <;> split
    · rfl
    · exfalso; omega
    · exfalso; omega
    · exact h8 j hj
  · rw [mI_ite]
    unfold nset
    split <;> split
    · rfl
    · exfalso; omega
    · exfalso; omega
    · exact (h9 j hj).1
  · rw [mI_ite]
    unfold nset
    split <;> split
    · rfl
    · exfalso; omega
    · exfalso; omega
    · exact (h9 j hj).2
theorem RwN.s_sf (h : RwN (mI M q) N) {k : Nat} (hk : k < 6) (v : Int) : RwN (mI (setI M q (65 + 2 * k) (iI v)) q) (nset N 7 k v) := by
  obtain ⟨⟨h1, h2, h3, h4⟩, h5, h6, h7, h8, h9⟩ := h
  refine ⟨⟨?_, ?_, ?_, ?_⟩, fun j hj => ⟨?_, ?_, ?_⟩, fun j hj => ?_, fun j hj => ⟨?_, ?_, ?_⟩, fun j hj => ?_, fun j hj => ⟨?_, ?_⟩⟩
  · rw [mI_ite]
    unfold nset
    split <;> split
    · rfl
    · exfalso; omega
    · exfalso; omega
    · exact h1
  · rw [mI_ite]
    unfold nset
    split <;> split
    · rfl
    · exfalso; omega
    · exfalso; omega
    · exact h2
  · rw [mI_ite]
    unfold nset
    split <;> split
    · rfl
    · exfalso; omega
    · exfalso; omega
    · exact h3
  · rw [mI_ite]
    unfold nset
    split <;> split
    · rfl
    · exfalso; omega
    · exfalso; omega
    · exact h4
  · rw [mI_ite]
    unfold nset
    split <;> split
    · rfl
    · exfalso; omega
    · exfalso; omega
    · exact (h5 j hj).1
  · rw [mI_ite]
    unfold nset
    split <;> split
    · rfl
    · exfalso; omega
    · exfalso; omega
    · exact (h5 j hj).2.1
  · rw [bmask_c (by decide), mI_ite, if_neg (fun z => by omega)]; exact (h5 j hj).2.2
  · rw [mI_ite]
    unfold nset
    split <;> split
    · rfl
    · exfalso; omega
    · exfalso; omega
    · exact h6 j hj
  · rw [mI_ite]
    unfold nset
    split <;> split
    · rfl
    · exfalso; omega
    · exfalso; omega
    · exact (h7 j hj).1
  · rw [mI_ite]
    unfold nset
    split <;> split
    · rfl
    · exfalso; omega
    · exfalso; omega
    · exact (h7 j hj).2.1
  · rw [mI_ite]
    unfold nset
    split <;> split
    · rfl
    · exfalso; omega
    · exfalso; omega
    · exact (h7 j hj).2.2
  · rw [mI_ite]
    unfold nset
    split <;> split
    · rfl
    · exfalso; omega
    · exfalso; omega
    · exact h8 j hj
  · rw [mI_ite]
    unfold nset
    split <;> split
    · rfl
    · exfalso; omega
    · exfalso; omega
    · exact (h9 j hj).1
  · rw [mI_ite]
    unfold nset
    split <;> split
    · rfl
    · exfalso; omega
    · exfalso; omega
    · exact (h9 j hj).2
theorem RwN.s_st (h : RwN (mI M q) N) {k : Nat} (hk : k < 6) (v : Int) : RwN (mI (setI M q (65 + 2 * k + 1) (iI v)) q) (nset N 8 k v) := by
  obtain ⟨⟨h1, h2, h3, h4⟩, h5, h6, h7, h8, h9⟩ := h
  refine ⟨⟨?_, ?_, ?_, ?_⟩, fun j hj => ⟨?_, ?_, ?_⟩, fun j hj => ?_, fun j hj => ⟨?_, ?_, ?_⟩, fun j hj => ?_, fun j hj => ⟨?_, ?_⟩⟩
  · rw [mI_ite]
    unfold nset
    split <;> split
    · rfl
    · exfalso; omega
    · exfalso; omega
    · exact h1
  · rw [mI_ite]
    unfold nset
    split <;> split
    · rfl
    · exfalso; omega
    · exfalso; omega
    · exact h2
  · rw [mI_ite]
    unfold nset
    split <;> split
    · rfl
    · exfalso; omega
    · exfalso; omega
    · exact h3
  · rw [mI_ite]
    unfold nset
    split <;> split
    · rfl
    · exfalso; omega
    · exfalso; omega
    · exact h4
  · rw [mI_ite]
    unfold nset
    split <;> split
    · rfl
    · exfalso; omega
    · exfalso; omega
    · exact (h5 j hj).1
  · rw [mI_ite]
    unfold nset
    split <;> split
    · rfl
    · exfalso; omega
    · exfalso; omega
    · exact (h5 j hj).2.1
  · rw [bmask_c (by decide), mI_ite, if_neg (fun z => by omega)]; exact (h5 j hj).2.2
  · rw [mI_ite]
    unfold nset
    split <;> split
    · rfl
    · exfalso; omega
    · exfalso; omega
    · exact h6 j hj
  · rw [mI_ite]
    unfold nset
    split <;> split
    · rfl
    · exfalso; omega
    · exfalso; omega
    · exact (h7 j hj).1
  · rw [mI_ite]
    unfold nset
    split <;> split
    · rfl
    · exfalso; omega
    · exfalso; omega
    · exact (h7 j hj).2.1
  · rw [mI_ite]
    unfold nset
    split <;> split
    · rfl
    · exfalso; omega
    · exfalso; omega
    · exact (h7 j hj).2.2
  · rw [mI_ite]
    unfold nset
    split <;> split
    · rfl
    · exfalso; omega
    · exfalso; omega
    · exact h8 j hj
  · rw [mI_ite]
    unfold nset
    split <;> split
    · rfl
    · exfalso; omega
    · exfalso; omega
    · exact (h9 j hj).1
  · rw [mI_ite]
    unfold nset
    split <;> split
    · rfl
    · exfalso; omega
    · exfalso; omega
    · exact (h9 j hj).2
end
