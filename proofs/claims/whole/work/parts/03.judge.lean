/-! THE JUDGEMENT -/
/-- a method: its name, bytes, locals, answer's type; its height in frames; the cells and slots that it may make -/
abbrev zY : Type := MethodName × ByteArray × Nat × Option FieldType × Nat × Nat × Nat
def yN (Y : zY) : MethodName := Y.1
def yB (Y : zY) : ByteArray := Y.2.1
def yL (Y : zY) : Nat := Y.2.2.1
def yR (Y : zY) : Option FieldType := Y.2.2.2.1
def yH (Y : zY) : Nat := Y.2.2.2.2.1
def yC (Y : zY) : Nat := Y.2.2.2.2.2.1
def yS (Y : zY) : Nat := Y.2.2.2.2.2.2
def zws (Y : zY) : List Cond := .code (yN Y) (yB Y) (yL Y) (yR Y) :: zTB
def zrm (Y : zY) : Room := { frames := yH Y, cells := yC Y, slots := yS Y, locals := 60 * yH Y }
abbrev zTau : Type := Option Value × zS × zH
abbrev zpool (E : zE) (S : zS) (M : zH) : va_W := va_pl (sL S) (zenc (eY E) S M)
/-- the heap H holds the picture (S, M) -/
def zPic (E : zE) (S : zS) (M : zH) (H : Heap) : Prop := va_P (eD E) zCL (zpool E S M) H ∧ va_D (eA E) (zpool E S M) ∧ H.size = sZ S ∧ ∀ a : Nat, sK S a < 18 → a ∈ sL S
def zWd (E : zE) (S : zS) (M : zH) (U : State) : Prop := zPic E S M U.heap ∧ zKn E U ∧ zRo E U U.heap ∧ eB E ≤ U.heap.size
def zQ (E : zE) (t : zTau) : Array Value → State → Outcome → State → Prop := fun _ st o u => o = .returned t.1 ∧ zPic E t.2.1 t.2.2 u.heap ∧ va_F (eA E) st u
/-- the contract: from the picture (S, M) with the arguments av the method comes to t -/
def zC (E : zE) (Y : zY) (av : List Value) (S : zS) (M : zH) (t : zTau) : Prop := ∀ l : Launch, Met l (yN Y) (zws Y) (zrm Y) (va_Pc av (zWd E S M)) (zQ E t) (yC Y) (yS Y) (eA E)
/-- what stays the same in a body -/
def zX (E : zE) (Y : zY) (p : Program) (s : State) (m : MethodId) (args : Array Value) (meth : Method) (c : Code) : Prop :=
  CallFix p m c (yB Y) (yL Y) s args (zws Y) (yN Y).cls ∧ meth.sig.returnType = yR Y ∧ meth.locks = false ∧ meth.name = (yN Y).name ∧ zKn E s ∧ zRo E s s.heap ∧ eB E ≤ s.heap.size
/-- the room of a body -/
def zRm (Y : zY) (R : Room) : Prop := yH Y ≤ R.frames ∧ 60 * yH Y ≤ R.locals ∧ yC Y ≤ R.cells ∧ yS Y ≤ R.slots
/-- the answer's instruction -/
def zri (r : Option FieldType) : Instr := match r with
  | none => .return_
  | some .long => .lreturn
  | some (.object _) => .areturn
  | some (.array _) => .areturn
  | some _ => .ireturn
def zG (E : zE) (Y : zY) (t : zTau) (pc : Nat) (lo : List (Nat × Value)) (sk : List Value) (S : zS) (M : zH) (k n : Nat) : Prop :=
  ∀ (p : Program) (l : Launch) (e : Env) (R : Room) (s : State) (m : MethodId) (args : Array Value) (below : List Frame) (meth : Method) (c : Code) (Q : State → Prop) (H : Heap) (locs : List Loc) (ls : Array Slot),
    zX E Y p s m args meth c → zRm Y R →
    (∀ (H1 : Heap) (locs1 : List Loc) (ls1 : Array Slot) (pc1 : Nat), zPic E t.2.1 t.2.2 H1 → va_S (eA E) s.heap H1 locs1 → decode (yB Y) pc1 = .ok (zri (yR Y), 1) → W p l e R s m args below meth c H1 locs1 (yC Y) (yS Y) Q (F0 m pc1 ls1 t.1.toList)) →
    zPic E S M H → va_S (eA E) s.heap H locs → lv_has ls (yL Y) lo →
    W p l e R s m args below meth c H locs k n Q (F0 m pc ls sk)
theorem zA_new {E : zE} {s : State} (h : eB E ≤ s.heap.size) : ∀ q : Nat, s.heap.size ≤ q → eA E q := fun _ hq => Nat.le_trans h hq
theorem zWd_blind {E : zE} {S : zS} {M : zH} {av : List Value} : FrameBlind (va_Pc av (zWd E S M)) := by
  intro a U g mk h
  obtain ⟨h0, h1, h2, h3, h4⟩ := h
  exact ⟨h0, h1, zKn.same (u := U) (U := U.calling g mk a) rfl h2, zRo.moved (u := U) (U := U.calling g mk a) (Vm.Alike.refl U.vm) h3, h4⟩
theorem zX.ts {E : zE} {Y : zY} {p : Program} {s : State} {m : MethodId} {args : Array Value} {meth : Method} {c : Code} (X : zX E Y p s m args meth c) {w : Cond} (h : w ∈ zTB) : w.before args s = true := X.1.2.2.2.2 w (List.mem_cons_of_mem _ h)
theorem zws_good {Y Y' : zY} (h : Cond.code (yN Y') (yB Y') (yL Y') (yR Y') ∈ zTB) : GoodIn (zws Y) (zws Y') := by
  intro w hw
  have key : ∀ w ∈ zTB, (w.onTables && w.keeps) = true ∨ ∃ ty, w = .arrayClass ty := fun w hw => good_of_word (List.mem_filter.mp hw).2
  rcases List.mem_cons.mp hw with rfl | h1
  · exact ⟨List.mem_cons_of_mem _ h, key _ h⟩
  · exact ⟨List.mem_cons_of_mem _ h1, key _ h1⟩
/-- how an answer of the declared type must be -/
def zRet (r : Option FieldType) (v : Option Value) : Prop := match r, v with
  | none, none => True
  | some .int, some (.int _) => True
  | some .boolean, some (.int x) => narrow .boolean (.int x) = .int x
  | some .char, some (.int x) => narrow .char (.int x) = .int x
  | some .byte, some (.int x) => narrow .byte (.int x) = .int x
  | some .long, some (.long _) => True
  | some (.object _), some (.ref _) => True
  | some (.object _), some .null => True
  | some (.array _), some (.ref _) => True
  | _, _ => False
set_option maxHeartbeats 1000000 in
/-- a contract out of the body -/
theorem zC.of {E : zE} {Y : zY} {av : List Value} {S : zS} {M : zH} {t : zTau} (hy : plainName (yN Y).cls = true ∨ plainFor (yN Y) = true) (hl : (lg_sl av).length ≤ yL Y) (hr : zRet (yR Y) t.1) (h : zG E Y t 0 (lv_args 0 av) [] S M 0 0) : zC E Y av S M t := by
  intro l
  suffices body : ∀ p e s m args below meth c s₁, BodyLoose p l (yN Y) (headSpec (zws Y) (zrm Y)) (yB Y) (yL Y) (yR Y) e s m args below meth c s₁ → c.maxLocals = yL Y → va_Pc av (zWd E S M) args s →
      W p l e (headSpec (zws Y) (zrm Y)).room s m args below meth c s.heap [] 0 0 (MQ below (zQ E t) args s (yC Y) (yS Y) (eA E)) (entryFrame m args (yL Y)) by
    rcases hy with hy | hy
    · exact Met.ofW (cc := yB Y) (maxL := yL Y) (ret := yR Y) hy rfl body
    · exact va_MetF (cc := yB Y) (maxL := yL Y) (ret := yR Y) hy rfl body
  intro p e s m args below meth c s₁ B hml hv
  obtain ⟨rfl, hP, hK, hR, hB⟩ := hv
  have hts := atoms_spec (ws := zws Y) B.pre
  have hown : s.vm.findClass (yN Y).cls = some m.cls := findClass_of_methodNamed B.named
  have hlocks := B.notSynchronized
  have hin : meth.name = (yN Y).name := (name_of_methodNamed B.named B.method).1
  have X : zX E Y p s m av.toArray meth c := ⟨⟨B.exec, B.bytes, hml, hown, hts⟩, B.returns, hlocks, hin, hK, hR, hB⟩
  have hle := lv_entry av (n := yL Y) hl
  rw [lg_entry_eq]
  refine h p l e _ s m av.toArray below meth c _ s.heap [] _ X ⟨Nat.le_refl _, Nat.le_refl _, Nat.le_refl _, Nat.le_refl _⟩ ?_ hP va_S.rf hle
  intro H1 locs1 ls1 pc1 hP1 hS1 hd
  have hq : ∀ t1 : State, t1.heap = H1 → s.WarmedH t1.vm → zQ E t av.toArray s (.returned t.1) t1 := fun t1 ht _ => ⟨rfl, by rw [ht]; exact hP1, hS1.F ht⟩
  obtain ⟨v, S', M'⟩ := t
  have hbr := B.returns
  have hx := B.exec
  have hb := B.bytes
  generalize hrr : yR Y = rr at hr hd hbr
  dsimp only at hr hq ⊢
  cases rr with
  | none =>
    cases v with
    | none => exact W.vret hx hb hbr hq hS1.2.2 hd
    | some v => exact absurd hr id
  | some ty =>
    cases v with
    | none => cases ty <;> exact absurd hr id
    | some v =>
      cases ty with
      | int => cases v with
        | int x => exact W.iret hx hb hbr hq hS1.2.2 hd
        | _ => exact absurd hr id
      | boolean => cases v with
        | int x => exact W.zret hx hb hbr hr hq hS1.2.2 hd
        | _ => exact absurd hr id
      | char => cases v with
        | int x => exact W.zret hx hb hbr hr hq hS1.2.2 hd
        | _ => exact absurd hr id
      | byte => cases v with
        | int x => exact W.zret hx hb hbr hr hq hS1.2.2 hd
        | _ => exact absurd hr id
      | long => cases v with
        | long x => exact W.lret hx hb hbr hq hS1.2.2 hd
        | _ => exact absurd hr id
      | object o => cases v with
        | ref x => exact W.aret hx hb hbr (Or.inl ⟨_, rfl⟩) (Or.inr ⟨_, rfl⟩) hq hS1.2.2 hd
        | null => exact W.aret hx hb hbr (Or.inl ⟨_, rfl⟩) (Or.inl rfl) hq hS1.2.2 hd
        | _ => exact absurd hr id
      | array o => cases v with
        | ref x => exact W.aret hx hb hbr (Or.inr ⟨_, rfl⟩) (Or.inr ⟨_, rfl⟩) hq hS1.2.2 hd
        | _ => exact absurd hr id
      | _ => cases v <;> exact absurd hr id
