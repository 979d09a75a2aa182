/-! ROWS over arrays (printed by hand) -/
section
variable {E : zE} {Y : zY} {t : zTau} {pc : Nat} {lo : List (Nat × Value)} {sk : List Value} {S : zS} {M : zH} {k n : Nat} {a : Nat} {i : Int32}
theorem zi_iald (hd : decode (yB Y) pc = .ok (.iaload, 1)) (hk : sK S a = 12) (hin : vp_in i (sN S a)) (kk : zG E Y t (pc + 1) lo (.int (mI M a i.toNatClampNeg) :: sk) S M k n) : zG E Y t pc lo (.int i :: .ref a :: sk) S M k n := by
  intro p l e R s m args below meth c0 Q H locs ls X hR hret hP hS hl
  have ha := hP.2.2.2 a (by rw [hk]; omega)
  obtain ⟨j, hj⟩ := zpool_get (E := E) (M := M) ha
  rw [zenc_ai hk (by omega) (by omega)] at hj
  exact va_iald X.1.1 X.1.2.1 X.2.2.2.2.1.1 hP.1 j 0 hj rfl hin hd (kk p l e R s m args below meth c0 Q H locs ls X hR hret hP hS hl)
theorem zi_zald (hd : decode (yB Y) pc = .ok (.baload, 1)) (hk : sK S a = 13) (hin : vp_in i (sN S a)) (kk : zG E Y t (pc + 1) lo (.int (mI M a i.toNatClampNeg) :: sk) S M k n) : zG E Y t pc lo (.int i :: .ref a :: sk) S M k n := by
  intro p l e R s m args below meth c0 Q H locs ls X hR hret hP hS hl
  have ha := hP.2.2.2 a (by rw [hk]; omega)
  obtain ⟨j, hj⟩ := zpool_get (E := E) (M := M) ha
  rw [zenc_ai hk (by omega) (by omega)] at hj
  exact va_zald X.1.1 X.1.2.1 X.2.2.2.2.1.1 hP.1 j 1 hj rfl hin hd (kk p l e R s m args below meth c0 Q H locs ls X hR hret hP hS hl)
theorem zi_bald (hd : decode (yB Y) pc = .ok (.baload, 1)) (hk : sK S a = 14) (hin : vp_in i (sN S a)) (kk : zG E Y t (pc + 1) lo (.int (mI M a i.toNatClampNeg) :: sk) S M k n) : zG E Y t pc lo (.int i :: .ref a :: sk) S M k n := by
  intro p l e R s m args below meth c0 Q H locs ls X hR hret hP hS hl
  have ha := hP.2.2.2 a (by rw [hk]; omega)
  obtain ⟨j, hj⟩ := zpool_get (E := E) (M := M) ha
  rw [zenc_ai hk (by omega) (by omega)] at hj
  exact va_bald X.1.1 X.1.2.1 X.2.2.2.2.1.1 hP.1 j 2 hj rfl hin hd (kk p l e R s m args below meth c0 Q H locs ls X hR hret hP hS hl)
theorem zi_lald (hd : decode (yB Y) pc = .ok (.laload, 1)) (hk : sK S a = 15) (hin : vp_in i (sN S a)) (kk : zG E Y t (pc + 1) lo (.long (mJ M a i.toNatClampNeg) :: sk) S M k n) : zG E Y t pc lo (.int i :: .ref a :: sk) S M k n := by
  intro p l e R s m args below meth c0 Q H locs ls X hR hret hP hS hl
  have ha := hP.2.2.2 a (by rw [hk]; omega)
  obtain ⟨j, hj⟩ := zpool_get (E := E) (M := M) ha
  rw [zenc_aj hk] at hj
  exact va_lald X.1.1 X.1.2.1 X.2.2.2.2.1.1 hP.1 j 3 hj rfl hin hd (kk p l e R s m args below meth c0 Q H locs ls X hR hret hP hS hl)
theorem zi_aald16 (hd : decode (yB Y) pc = .ok (.aaload, 1)) (hk : sK S a = 16) (hin : vp_in i (sN S a)) (kk : zG E Y t (pc + 1) lo (va_rf (mR M a i.toNatClampNeg) :: sk) S M k n) : zG E Y t pc lo (.int i :: .ref a :: sk) S M k n := by
  intro p l e R s m args below meth c0 Q H locs ls X hR hret hP hS hl
  have ha := hP.2.2.2 a (by rw [hk]; omega)
  obtain ⟨j, hj⟩ := zpool_get (E := E) (M := M) ha
  rw [zenc_ar hk (by omega)] at hj
  exact va_aldq X.1.1 X.1.2.1 X.2.2.2.2.1.1 hP.1 j 4 hj rfl hin hd (kk p l e R s m args below meth c0 Q H locs ls X hR hret hP hS hl)
theorem zi_aald17 (hd : decode (yB Y) pc = .ok (.aaload, 1)) (hk : sK S a = 17) (hin : vp_in i (sN S a)) (kk : zG E Y t (pc + 1) lo (va_rf (mR M a i.toNatClampNeg) :: sk) S M k n) : zG E Y t pc lo (.int i :: .ref a :: sk) S M k n := by
  intro p l e R s m args below meth c0 Q H locs ls X hR hret hP hS hl
  have ha := hP.2.2.2 a (by rw [hk]; omega)
  obtain ⟨j, hj⟩ := zpool_get (E := E) (M := M) ha
  rw [zenc_ar hk (by omega)] at hj
  exact va_aldq X.1.1 X.1.2.1 X.2.2.2.2.1.1 hP.1 j 5 hj rfl hin hd (kk p l e R s m args below meth c0 Q H locs ls X hR hret hP hS hl)
theorem zi_iast {x : Int32} (hd : decode (yB Y) pc = .ok (.iastore, 1)) (hk : sK S a = 12) (hin : vp_in i (sN S a)) (kk : zG E Y t (pc + 1) lo sk S (setI M a i.toNatClampNeg x) k n) : zG E Y t pc lo (.int x :: .int i :: .ref a :: sk) S M k n := by
  intro p l e0 R s m args below meth c0 Q H locs ls X hR hret hP hS hl
  have ha := hP.2.2.2 a (by rw [hk]; omega)
  have hat := hP.at ha
  rw [zenc_ai hk (by omega) (by omega)] at hat
  have hK := X.2.2.2.2.1.1
  refine W.iast X.1.1 X.1.2.1 (show H[a]? = some (vp_cell (eY E 12) (sN S a, .inl (mI M a))) from hat) ((hK.2 0 (eY E 12, .int) rfl).1 (sN S a) (fun j => .int (mI M a j))) (fun q => by cases q) (by show ¬ (i < 0 ∨ (arrV _ _ _).slots.size ≤ _); rw [arrV_size]; exact hin) rfl rfl hd fun H1 e z oq => ?_
  refine kk p l e0 R s m args below meth c0 Q H1 _ ls X hR hret (hP.put (e := .inl (eY E 12, sN S a, .inl (upd (mI M a) i.toNatClampNeg x))) ha ?_ z oq rfl rfl rfl (zenc_aI (eY E) S M hk rfl (by omega) (by omega) _)) (hS.put z oq (hP.A ha)) hl
  show H1[a]? = some (vp_cell _ _)
  rw [e]
  rw [vp_cell_i, vp_cell_i, arrV_store]
  congr 2
  funext q
  by_cases hq : q = i.toNatClampNeg
  · subst hq
    simp [updV, upd, vp_nar]
    try rfl
  · simp [updV, upd, hq]
theorem zi_zast {x : Int32} (hd : decode (yB Y) pc = .ok (.bastore, 1)) (hk : sK S a = 13) (hin : vp_in i (sN S a)) (kk : zG E Y t (pc + 1) lo sk S (setI M a i.toNatClampNeg (vp_nar .boolean x)) k n) : zG E Y t pc lo (.int x :: .int i :: .ref a :: sk) S M k n := by
  intro p l e0 R s m args below meth c0 Q H locs ls X hR hret hP hS hl
  have ha := hP.2.2.2 a (by rw [hk]; omega)
  have hat := hP.at ha
  rw [zenc_ai hk (by omega) (by omega)] at hat
  have hK := X.2.2.2.2.1.1
  refine W.zast X.1.1 X.1.2.1 (show H[a]? = some (vp_cell (eY E 13) (sN S a, .inl (mI M a))) from hat) ((hK.2 1 (eY E 13, .boolean) rfl).1 (sN S a) (fun j => .int (mI M a j))) (fun q => by cases q) (by show ¬ (i < 0 ∨ (arrV _ _ _).slots.size ≤ _); rw [arrV_size]; exact hin) rfl rfl hd fun H1 e z oq => ?_
  refine kk p l e0 R s m args below meth c0 Q H1 _ ls X hR hret (hP.put (e := .inl (eY E 13, sN S a, .inl (upd (mI M a) i.toNatClampNeg (vp_nar .boolean x)))) ha ?_ z oq rfl rfl rfl (zenc_aI (eY E) S M hk rfl (by omega) (by omega) _)) (hS.put z oq (hP.A ha)) hl
  show H1[a]? = some (vp_cell _ _)
  rw [e]
  rw [vp_cell_i, vp_cell_i, arrV_store]
  congr 2
  funext q
  by_cases hq : q = i.toNatClampNeg
  · subst hq
    simp [updV, upd, vp_nar]
    try rfl
  · simp [updV, upd, hq]
theorem zi_bast {x : Int32} (hd : decode (yB Y) pc = .ok (.bastore, 1)) (hk : sK S a = 14) (hin : vp_in i (sN S a)) (kk : zG E Y t (pc + 1) lo sk S (setI M a i.toNatClampNeg (vp_nar .byte x)) k n) : zG E Y t pc lo (.int x :: .int i :: .ref a :: sk) S M k n := by
  intro p l e0 R s m args below meth c0 Q H locs ls X hR hret hP hS hl
  have ha := hP.2.2.2 a (by rw [hk]; omega)
  have hat := hP.at ha
  rw [zenc_ai hk (by omega) (by omega)] at hat
  have hK := X.2.2.2.2.1.1
  refine W.bast X.1.1 X.1.2.1 (show H[a]? = some (vp_cell (eY E 14) (sN S a, .inl (mI M a))) from hat) ((hK.2 2 (eY E 14, .byte) rfl).1 (sN S a) (fun j => .int (mI M a j))) (fun q => by cases q) (by show ¬ (i < 0 ∨ (arrV _ _ _).slots.size ≤ _); rw [arrV_size]; exact hin) rfl rfl hd fun H1 e z oq => ?_
  refine kk p l e0 R s m args below meth c0 Q H1 _ ls X hR hret (hP.put (e := .inl (eY E 14, sN S a, .inl (upd (mI M a) i.toNatClampNeg (vp_nar .byte x)))) ha ?_ z oq rfl rfl rfl (zenc_aI (eY E) S M hk rfl (by omega) (by omega) _)) (hS.put z oq (hP.A ha)) hl
  show H1[a]? = some (vp_cell _ _)
  rw [e]
  rw [vp_cell_i, vp_cell_i, arrV_store]
  congr 2
  funext q
  by_cases hq : q = i.toNatClampNeg
  · subst hq
    simp [updV, upd, vp_nar]
    try rfl
  · simp [updV, upd, hq]
theorem zi_last {x : Int64} (hd : decode (yB Y) pc = .ok (.lastore, 1)) (hk : sK S a = 15) (hin : vp_in i (sN S a)) (kk : zG E Y t (pc + 1) lo sk S (setJ M a i.toNatClampNeg x) k n) : zG E Y t pc lo (.long x :: .int i :: .ref a :: sk) S M k n := by
  intro p l e0 R s m args below meth c0 Q H locs ls X hR hret hP hS hl
  have ha := hP.2.2.2 a (by rw [hk]; omega)
  have hat := hP.at ha
  rw [zenc_aj hk] at hat
  have hK := X.2.2.2.2.1.1
  refine W.last X.1.1 X.1.2.1 (show H[a]? = some (vp_cell (eY E 15) (sN S a, .inr (.inl (mJ M a)))) from hat) ((hK.2 3 (eY E 15, .long) rfl).1 (sN S a) (fun j => .long (mJ M a j))) (fun q => by cases q) (by show ¬ (i < 0 ∨ (arrV _ _ _).slots.size ≤ _); rw [arrV_size]; exact hin) rfl rfl hd fun H1 e z oq => ?_
  refine kk p l e0 R s m args below meth c0 Q H1 _ ls X hR hret (hP.put (e := .inl (eY E 15, sN S a, .inr (.inl (vp_updL (mJ M a) i.toNatClampNeg x)))) ha ?_ z oq rfl rfl rfl (zenc_aJ (eY E) S M hk rfl _)) (hS.put z oq (hP.A ha)) hl
  show H1[a]? = some (vp_cell _ _)
  rw [e]
  rw [vp_cell_l, vp_cell_l, arrV_store]
  congr 2
  funext q
  by_cases hq : q = i.toNatClampNeg
  · subst hq
    simp [updV, vp_updL]
  · simp [updV, vp_updL, hq]
theorem zi_aast16 {v : Nat} (hd : decode (yB Y) pc = .ok (.aastore, 1)) (hk : sK S a = 16) (hv : sK S v = 9) (hin : vp_in i (sN S a)) (kk : zG E Y t (pc + 1) lo sk S (setR M a i.toNatClampNeg (some v)) k n) : zG E Y t pc lo (.ref v :: .int i :: .ref a :: sk) S M k n := by
  intro p l e0 R s m args below meth c0 Q H locs ls X hR hret hP hS hl
  have ha := hP.2.2.2 a (by rw [hk]; omega)
  have hat := hP.at ha
  rw [zenc_ar hk (by omega)] at hat
  have hva := hP.at (hP.2.2.2 v (by rw [hv]; omega))
  rw [zenc_ob hv (by omega)] at hva
  have hK := X.2.2.2.2.1.1
  have hlt : i.toNatClampNeg < sN S a := Nat.not_le.mp fun q => hin (Or.inr q)
  have h0 : ¬ i < 0 := fun q => hin (Or.inl q)
  obtain ⟨r', hr', cellV, g1, g2, g3, -⟩ := hva
  have hcls := (hK.1 9 _ hr').2
  obtain ⟨kA, comp, k1, k2, k3, -⟩ := (hK.2 4 (eY E 16, .object zT16) rfl).2
  have hcls0 := hcls.1
  have hr2 : r' = (zR9, zT_9, 7) := Option.some.inj (hr'.symm.trans rfl)
  have hcomp : comp = (eD E).1 9 := Option.some.inj (k3.symm.trans (by rw [hr2] at hcls0; exact hcls0))
  subst hcomp
  obtain ⟨kC, hkC, -⟩ := hcls.2
  refine W.aast X.1.1 X.1.2.1 (show H[a]? = some (vp_cell (eY E 16) (sN S a, .inr (.inr (.inr (.inr (mR M a)))))) from hat) (fun q h => by cases h) (fun h => by cases h) k1 k2 rfl hkC ⟨h0, by show _ < (arrV _ _ _).slots.size; rw [arrV_size]; exact hlt⟩ g1 (fun q h => by rw [g3] at h; cases h) (by rw [g2]; exact hkC) (by rw [g2]; exact va_assign hcls) rfl rfl hd fun H1 e z oq => ?_
  refine kk p l e0 R s m args below meth c0 Q H1 _ ls X hR hret (hP.put (e := .inl (eY E 16, sN S a, .inr (.inr (.inr (.inr (va_up (mR M a) i.toNatClampNeg (some v))))))) ha ?_ z oq rfl rfl rfl (zenc_aR (eY E) S M hk rfl (by omega) _)) (hS.put z oq (hP.A ha)) hl
  show H1[a]? = some (vp_cell _ _)
  rw [e]
  rw [vp_cell_q, vp_cell_q, arrV_store]
  congr 2
  funext q
  by_cases hq : q = i.toNatClampNeg
  · subst hq
    simp [updV, va_up, va_rf]
  · simp [updV, va_up, hq]
theorem zi_aast17 {v : Nat} (hd : decode (yB Y) pc = .ok (.aastore, 1)) (hk : sK S a = 17) (hv : sK S v = 3) (hin : vp_in i (sN S a)) (kk : zG E Y t (pc + 1) lo sk S (setR M a i.toNatClampNeg (some v)) k n) : zG E Y t pc lo (.ref v :: .int i :: .ref a :: sk) S M k n := by
  intro p l e0 R s m args below meth c0 Q H locs ls X hR hret hP hS hl
  have ha := hP.2.2.2 a (by rw [hk]; omega)
  have hat := hP.at ha
  rw [zenc_ar hk (by omega)] at hat
  have hva := hP.at (hP.2.2.2 v (by rw [hv]; omega))
  rw [zenc_ob hv (by omega)] at hva
  have hK := X.2.2.2.2.1.1
  have hlt : i.toNatClampNeg < sN S a := Nat.not_le.mp fun q => hin (Or.inr q)
  have h0 : ¬ i < 0 := fun q => hin (Or.inl q)
  obtain ⟨r', hr', cellV, g1, g2, g3, -⟩ := hva
  have hcls := (hK.1 3 _ hr').2
  obtain ⟨kA, comp, k1, k2, k3, -⟩ := (hK.2 5 (eY E 17, .object zT17) rfl).2
  have hcls0 := hcls.1
  have hr2 : r' = (zR3, zT_3, 15) := Option.some.inj (hr'.symm.trans rfl)
  have hcomp : comp = (eD E).1 3 := Option.some.inj (k3.symm.trans (by rw [hr2] at hcls0; exact hcls0))
  subst hcomp
  obtain ⟨kC, hkC, -⟩ := hcls.2
  refine W.aast X.1.1 X.1.2.1 (show H[a]? = some (vp_cell (eY E 17) (sN S a, .inr (.inr (.inr (.inr (mR M a)))))) from hat) (fun q h => by cases h) (fun h => by cases h) k1 k2 rfl hkC ⟨h0, by show _ < (arrV _ _ _).slots.size; rw [arrV_size]; exact hlt⟩ g1 (fun q h => by rw [g3] at h; cases h) (by rw [g2]; exact hkC) (by rw [g2]; exact va_assign hcls) rfl rfl hd fun H1 e z oq => ?_
  refine kk p l e0 R s m args below meth c0 Q H1 _ ls X hR hret (hP.put (e := .inl (eY E 17, sN S a, .inr (.inr (.inr (.inr (va_up (mR M a) i.toNatClampNeg (some v))))))) ha ?_ z oq rfl rfl rfl (zenc_aR (eY E) S M hk rfl (by omega) _)) (hS.put z oq (hP.A ha)) hl
  show H1[a]? = some (vp_cell _ _)
  rw [e]
  rw [vp_cell_q, vp_cell_q, arrV_store]
  congr 2
  funext q
  by_cases hq : q = i.toNatClampNeg
  · subst hq
    simp [updV, va_up, va_rf]
  · simp [updV, va_up, hq]
theorem zi_aastN (hd : decode (yB Y) pc = .ok (.aastore, 1)) (hk : sK S a = 16) (hin : vp_in i (sN S a)) (kk : zG E Y t (pc + 1) lo sk S (setR M a i.toNatClampNeg none) k n) : zG E Y t pc lo (.null :: .int i :: .ref a :: sk) S M k n := by
  intro p l e0 R s m args below meth c0 Q H locs ls X hR hret hP hS hl
  have ha := hP.2.2.2 a (by rw [hk]; omega)
  have hat := hP.at ha
  rw [zenc_ar hk (by omega)] at hat
  have hK := X.2.2.2.2.1.1
  refine va_WaastN (C := zT16) X.1.1 X.1.2.1 (show H[a]? = some (vp_cell (eY E 16) (sN S a, .inr (.inr (.inr (.inr (mR M a)))))) from hat) ((hK.2 4 (eY E 16, .object zT16) rfl).1 (sN S a) (fun j => va_rf (mR M a j))) (fun h => by cases h) (by show ¬ (i < 0 ∨ (arrV _ _ _).slots.size ≤ _); rw [arrV_size]; exact hin) rfl rfl hd fun H1 e z oq => ?_
  refine kk p l e0 R s m args below meth c0 Q H1 _ ls X hR hret (hP.put (e := .inl (eY E 16, sN S a, .inr (.inr (.inr (.inr (va_up (mR M a) i.toNatClampNeg none)))))) ha ?_ z oq rfl rfl rfl (zenc_aR (eY E) S M hk rfl (by omega) _)) (hS.put z oq (hP.A ha)) hl
  show H1[a]? = some (vp_cell _ _)
  rw [e]
  rw [vp_cell_q, vp_cell_q, arrV_store]
  congr 2
  funext q
  by_cases hq : q = i.toNatClampNeg
  · subst hq
    simp [updV, va_up, va_rf]
  · simp [updV, va_up, hq]
theorem zi_alen12 (hd : decode (yB Y) pc = .ok (.arraylength, 1)) (hk : sK S a = 12) (kk : zG E Y t (pc + 1) lo (.int (nI (sN S a)) :: sk) S M k n) : zG E Y t pc lo (.ref a :: sk) S M k n := by
  intro p l e R s m args below meth c0 Q H locs ls X hR hret hP hS hl
  have ha := hP.2.2.2 a (by rw [hk]; omega)
  obtain ⟨j, hj⟩ := zpool_get (E := E) (M := M) ha
  rw [zenc_ai hk (by omega) (by omega)] at hj
  exact va_alen X.1.1 X.1.2.1 X.2.2.2.2.1.1 hP.1 j 0 hj (ty := .int) rfl rfl hd (kk p l e R s m args below meth c0 Q H locs ls X hR hret hP hS hl)
theorem zi_alen13 (hd : decode (yB Y) pc = .ok (.arraylength, 1)) (hk : sK S a = 13) (kk : zG E Y t (pc + 1) lo (.int (nI (sN S a)) :: sk) S M k n) : zG E Y t pc lo (.ref a :: sk) S M k n := by
  intro p l e R s m args below meth c0 Q H locs ls X hR hret hP hS hl
  have ha := hP.2.2.2 a (by rw [hk]; omega)
  obtain ⟨j, hj⟩ := zpool_get (E := E) (M := M) ha
  rw [zenc_ai hk (by omega) (by omega)] at hj
  exact va_alen X.1.1 X.1.2.1 X.2.2.2.2.1.1 hP.1 j 1 hj (ty := .boolean) rfl rfl hd (kk p l e R s m args below meth c0 Q H locs ls X hR hret hP hS hl)
theorem zi_alen14 (hd : decode (yB Y) pc = .ok (.arraylength, 1)) (hk : sK S a = 14) (kk : zG E Y t (pc + 1) lo (.int (nI (sN S a)) :: sk) S M k n) : zG E Y t pc lo (.ref a :: sk) S M k n := by
  intro p l e R s m args below meth c0 Q H locs ls X hR hret hP hS hl
  have ha := hP.2.2.2 a (by rw [hk]; omega)
  obtain ⟨j, hj⟩ := zpool_get (E := E) (M := M) ha
  rw [zenc_ai hk (by omega) (by omega)] at hj
  exact va_alen X.1.1 X.1.2.1 X.2.2.2.2.1.1 hP.1 j 2 hj (ty := .byte) rfl rfl hd (kk p l e R s m args below meth c0 Q H locs ls X hR hret hP hS hl)
theorem zi_alen15 (hd : decode (yB Y) pc = .ok (.arraylength, 1)) (hk : sK S a = 15) (kk : zG E Y t (pc + 1) lo (.int (nI (sN S a)) :: sk) S M k n) : zG E Y t pc lo (.ref a :: sk) S M k n := by
  intro p l e R s m args below meth c0 Q H locs ls X hR hret hP hS hl
  have ha := hP.2.2.2 a (by rw [hk]; omega)
  obtain ⟨j, hj⟩ := zpool_get (E := E) (M := M) ha
  rw [zenc_aj hk] at hj
  exact va_alen X.1.1 X.1.2.1 X.2.2.2.2.1.1 hP.1 j 3 hj (ty := .long) rfl rfl hd (kk p l e R s m args below meth c0 Q H locs ls X hR hret hP hS hl)
theorem zi_alen16 (hd : decode (yB Y) pc = .ok (.arraylength, 1)) (hk : sK S a = 16) (kk : zG E Y t (pc + 1) lo (.int (nI (sN S a)) :: sk) S M k n) : zG E Y t pc lo (.ref a :: sk) S M k n := by
  intro p l e R s m args below meth c0 Q H locs ls X hR hret hP hS hl
  have ha := hP.2.2.2 a (by rw [hk]; omega)
  obtain ⟨j, hj⟩ := zpool_get (E := E) (M := M) ha
  rw [zenc_ar hk (by omega)] at hj
  exact va_alen X.1.1 X.1.2.1 X.2.2.2.2.1.1 hP.1 j 4 hj (ty := .object zT16) rfl rfl hd (kk p l e R s m args below meth c0 Q H locs ls X hR hret hP hS hl)
theorem zi_alen17 (hd : decode (yB Y) pc = .ok (.arraylength, 1)) (hk : sK S a = 17) (kk : zG E Y t (pc + 1) lo (.int (nI (sN S a)) :: sk) S M k n) : zG E Y t pc lo (.ref a :: sk) S M k n := by
  intro p l e R s m args below meth c0 Q H locs ls X hR hret hP hS hl
  have ha := hP.2.2.2 a (by rw [hk]; omega)
  obtain ⟨j, hj⟩ := zpool_get (E := E) (M := M) ha
  rw [zenc_ar hk (by omega)] at hj
  exact va_alen X.1.1 X.1.2.1 X.2.2.2.2.1.1 hP.1 j 5 hj (ty := .object zT17) rfl rfl hd (kk p l e R s m args below meth c0 Q H locs ls X hR hret hP hS hl)
end
