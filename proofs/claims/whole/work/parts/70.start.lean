/-! FROM THE PURE CLAIM TO THE CLAIM: the start of the law (the rows of the skeleton stand in here, turned) -/
def R_law : String := "NightColanderLaw"
def lw_P (b : Addr) (xs : List Int32) (args : Array Value) (s : State) : Prop := args = #[.ref b] ∧ s.IntsAt b xs ∧ xs.length ≤ 3072 ∧ (Jvm.Cond.and given_1 narrow_1).before args s = true
def lw_Q (_ : Array Value) (s : State) (o : Outcome) (t : State) : Prop := o = .returned (some (.int 1)) ∧ Framed s o t [] 600000 7302250
def lw_Z (below : List Frame) (a : Array Value) (s : State) : State → Prop := fun t => ∃ o, t.status = .running ∧ Ended t below o ∧ lw_Q a s o t
/-- the law's own end, with 1 on the stack, nothing written that was there before, its room as the claim has it -/
theorem lw_ret {p : Program} {l : Launch} {e : Env} {s : State} {m : MethodId} {below : List Frame} {meth : Method} {c : Code} {b : Nat} (hx : p.tables.exec = Jvm.exec) (hb : c.code = code) (hr : meth.sig.returnType = ret) (hlocks : meth.locks = false) {pc : Nat} {H : Heap} {ls : Array Slot} (hdg : decode code pc = .ok (.ireturn, 1)) : W p l e room_1 s m #[Value.ref b] below meth c H [] 600000 7302250 (lw_Z below #[Value.ref b] s) (F0 m pc ls [.int 1]) := by
  intro T hT X
  obtain ⟨fs, hret, hrun, hended, hW, hframe⟩ := X.leave (v := some (.int 1)) (hlocks := hlocks) (fun h => by rw [hr] at h; cases h)
  have hmeth' : T.vm.method? m = some meth := X.method'
  refine ⟨T.setFrames fs, ?_, .returned (some (.int 1)), hrun, hended, rfl, ⟨_, rfl⟩, hW, hframe⟩
  jvm_step X.here [X.here.top, hx, hb, hdg, hmeth', hr, ret, narrow_b1]
  (try refine ⟨rfl, ?_⟩); (try refine ⟨rfl, ?_⟩)
  first | (intro acts; rw [hret _ acts rfl rfl rfl]) | rw [hret _ _ rfl rfl rfl]
  exact Steps.refl _
/-- what holds at the law's entry: the machine, the code, the tables' words (any of lw_tbl by 'hts w (by decide +kernel)'), the script of L ints xs at the cell b, what the Statement gives of the start (any of its parts by flat_of_before) -/
def lw_At (p : Program) (s : State) (m : MethodId) (meth : Method) (c : Code) (b L : Nat) (xs : Nat → Int32) : Prop :=
  p.tables.exec = Jvm.exec ∧ c.code = code ∧ meth.sig.returnType = ret ∧ c.maxLocals = 4 ∧ s.vm.findClass R_law = some m.cls ∧ (∀ w ∈ lw_tbl, w.before #[Value.ref b] s = true) ∧ va_X b L xs s s.heap ∧ b < s.heap.size ∧ meth.locks = false ∧ (Jvm.Cond.and given_1 narrow_1).before #[Value.ref b] s = true ∧ (Jvm.Cond.code x code maxLocals ret).before #[Value.ref b] s = true ∧ meth.name = x.name

def st_id : List Nat := [56, 58, 93, 95, 155, 157, 150, 145, 100, 75, 129, 137, 127, 115]
def st_tm (i : Nat) : Term := .string "NightColander$Parser" (st_id.getD i 0)
def st_len : List Nat := [20, 21, 2, 2, 40, 48, 3, 2, 5, 2, 3, 3, 3, 2]
def st_byt : List (List Int32) := [[98, 108, 111, 99, 107, 32, 114, 101, 97, 109, 32, 115, 101, 116, 32, 112, 97, 115, 115, 32], [114, 117, 110, 115, 32, 108, 101, 97, 107, 115, 32, 112, 97, 121, 115, 32, 98, 97, 114, 115, 32], [97, 116], [111, 102], [104, 111, 117, 114, 32, 100, 111, 110, 101, 32, 108, 97, 116, 101, 115, 116, 32, 99, 97, 117, 103, 104, 116, 32, 116, 117, 114, 110, 32, 108, 101, 118, 101, 108, 32, 102, 108, 111, 119, 32], [114, 105, 110, 103, 32, 104, 111, 108, 101, 32, 98, 111, 114, 101, 32, 102, 105, 101, 108, 100, 32, 98, 117, 99, 107, 101, 116, 32, 108, 101, 118, 101, 108, 32, 104, 111, 117, 114, 32, 119, 101, 116, 32, 109, 111, 111, 100, 32], [42, 47, 37], [43, 45], [116, 105, 109, 101, 115], [105, 102], [110, 111, 116], [60, 62, 61], [97, 110, 100], [111, 114]]
def st_fl : List Cond := flatC (Jvm.Cond.and given_1 narrow_1)
theorem st_len_ok : ∀ i, i < 14 → st_len.getD i 0 = (zLit i).length ∧ st_byt.getD i [] = zLit i := by decide +kernel
theorem st_m1 : ∀ i, i < 14 → Cond.exactly (st_tm i) "java/lang/String" ∈ st_fl := by decide +kernel
theorem st_m2 : ∀ i, i < 14 → Cond.eq (.field (st_tm i) "java/lang/String" "coder" "B") (.int 0) ∈ st_fl := by decide +kernel
theorem st_m3 : ∀ i, i < 14 → Cond.arrayOf (.field (st_tm i) "java/lang/String" "value" "[B") .byte ∈ st_fl := by decide +kernel
theorem st_m4 : ∀ i, i < 14 → Cond.eq (.length (.field (st_tm i) "java/lang/String" "value" "[B")) (.int (Int32.ofNat (st_len.getD i 0))) ∈ st_fl := by decide +kernel
theorem st_m5_0 : ∀ j, j < st_len.getD 0 0 → Cond.eq (.elem (.field (st_tm 0) "java/lang/String" "value" "[B") (.int (Int32.ofNat j))) (.int ((st_byt.getD 0 []).getD j 0)) ∈ st_fl := by
  intro j hj
  match j, hj with
  | 0, _ => exact List.mem_of_getElem? (i := 56) (by decide +kernel)
  | 1, _ => exact List.mem_of_getElem? (i := 57) (by decide +kernel)
  | 2, _ => exact List.mem_of_getElem? (i := 58) (by decide +kernel)
  | 3, _ => exact List.mem_of_getElem? (i := 59) (by decide +kernel)
  | 4, _ => exact List.mem_of_getElem? (i := 60) (by decide +kernel)
  | 5, _ => exact List.mem_of_getElem? (i := 61) (by decide +kernel)
  | 6, _ => exact List.mem_of_getElem? (i := 62) (by decide +kernel)
  | 7, _ => exact List.mem_of_getElem? (i := 63) (by decide +kernel)
  | 8, _ => exact List.mem_of_getElem? (i := 64) (by decide +kernel)
  | 9, _ => exact List.mem_of_getElem? (i := 65) (by decide +kernel)
  | 10, _ => exact List.mem_of_getElem? (i := 66) (by decide +kernel)
  | 11, _ => exact List.mem_of_getElem? (i := 67) (by decide +kernel)
  | 12, _ => exact List.mem_of_getElem? (i := 68) (by decide +kernel)
  | 13, _ => exact List.mem_of_getElem? (i := 69) (by decide +kernel)
  | 14, _ => exact List.mem_of_getElem? (i := 70) (by decide +kernel)
  | 15, _ => exact List.mem_of_getElem? (i := 71) (by decide +kernel)
  | 16, _ => exact List.mem_of_getElem? (i := 72) (by decide +kernel)
  | 17, _ => exact List.mem_of_getElem? (i := 73) (by decide +kernel)
  | 18, _ => exact List.mem_of_getElem? (i := 74) (by decide +kernel)
  | 19, _ => exact List.mem_of_getElem? (i := 75) (by decide +kernel)
  | j + 20, h => exact absurd h (by simp [st_len])
theorem st_m5_1 : ∀ j, j < st_len.getD 1 0 → Cond.eq (.elem (.field (st_tm 1) "java/lang/String" "value" "[B") (.int (Int32.ofNat j))) (.int ((st_byt.getD 1 []).getD j 0)) ∈ st_fl := by
  intro j hj
  match j, hj with
  | 0, _ => exact List.mem_of_getElem? (i := 80) (by decide +kernel)
  | 1, _ => exact List.mem_of_getElem? (i := 81) (by decide +kernel)
  | 2, _ => exact List.mem_of_getElem? (i := 82) (by decide +kernel)
  | 3, _ => exact List.mem_of_getElem? (i := 83) (by decide +kernel)
  | 4, _ => exact List.mem_of_getElem? (i := 84) (by decide +kernel)
  | 5, _ => exact List.mem_of_getElem? (i := 85) (by decide +kernel)
  | 6, _ => exact List.mem_of_getElem? (i := 86) (by decide +kernel)
  | 7, _ => exact List.mem_of_getElem? (i := 87) (by decide +kernel)
  | 8, _ => exact List.mem_of_getElem? (i := 88) (by decide +kernel)
  | 9, _ => exact List.mem_of_getElem? (i := 89) (by decide +kernel)
  | 10, _ => exact List.mem_of_getElem? (i := 90) (by decide +kernel)
  | 11, _ => exact List.mem_of_getElem? (i := 91) (by decide +kernel)
  | 12, _ => exact List.mem_of_getElem? (i := 92) (by decide +kernel)
  | 13, _ => exact List.mem_of_getElem? (i := 93) (by decide +kernel)
  | 14, _ => exact List.mem_of_getElem? (i := 94) (by decide +kernel)
  | 15, _ => exact List.mem_of_getElem? (i := 95) (by decide +kernel)
  | 16, _ => exact List.mem_of_getElem? (i := 96) (by decide +kernel)
  | 17, _ => exact List.mem_of_getElem? (i := 97) (by decide +kernel)
  | 18, _ => exact List.mem_of_getElem? (i := 98) (by decide +kernel)
  | 19, _ => exact List.mem_of_getElem? (i := 99) (by decide +kernel)
  | 20, _ => exact List.mem_of_getElem? (i := 100) (by decide +kernel)
  | j + 21, h => exact absurd h (by simp [st_len])
theorem st_m5_2 : ∀ j, j < st_len.getD 2 0 → Cond.eq (.elem (.field (st_tm 2) "java/lang/String" "value" "[B") (.int (Int32.ofNat j))) (.int ((st_byt.getD 2 []).getD j 0)) ∈ st_fl := by
  intro j hj
  match j, hj with
  | 0, _ => exact List.mem_of_getElem? (i := 106) (by decide +kernel)
  | 1, _ => exact List.mem_of_getElem? (i := 107) (by decide +kernel)
  | j + 2, h => exact absurd h (by simp [st_len])
theorem st_m5_3 : ∀ j, j < st_len.getD 3 0 → Cond.eq (.elem (.field (st_tm 3) "java/lang/String" "value" "[B") (.int (Int32.ofNat j))) (.int ((st_byt.getD 3 []).getD j 0)) ∈ st_fl := by
  intro j hj
  match j, hj with
  | 0, _ => exact List.mem_of_getElem? (i := 114) (by decide +kernel)
  | 1, _ => exact List.mem_of_getElem? (i := 115) (by decide +kernel)
  | j + 2, h => exact absurd h (by simp [st_len])
theorem st_m5_4 : ∀ j, j < st_len.getD 4 0 → Cond.eq (.elem (.field (st_tm 4) "java/lang/String" "value" "[B") (.int (Int32.ofNat j))) (.int ((st_byt.getD 4 []).getD j 0)) ∈ st_fl := by
  intro j hj
  match j, hj with
  | 0, _ => exact List.mem_of_getElem? (i := 123) (by decide +kernel)
  | 1, _ => exact List.mem_of_getElem? (i := 124) (by decide +kernel)
  | 2, _ => exact List.mem_of_getElem? (i := 125) (by decide +kernel)
  | 3, _ => exact List.mem_of_getElem? (i := 126) (by decide +kernel)
  | 4, _ => exact List.mem_of_getElem? (i := 127) (by decide +kernel)
  | 5, _ => exact List.mem_of_getElem? (i := 128) (by decide +kernel)
  | 6, _ => exact List.mem_of_getElem? (i := 129) (by decide +kernel)
  | 7, _ => exact List.mem_of_getElem? (i := 130) (by decide +kernel)
  | 8, _ => exact List.mem_of_getElem? (i := 131) (by decide +kernel)
  | 9, _ => exact List.mem_of_getElem? (i := 132) (by decide +kernel)
  | 10, _ => exact List.mem_of_getElem? (i := 133) (by decide +kernel)
  | 11, _ => exact List.mem_of_getElem? (i := 134) (by decide +kernel)
  | 12, _ => exact List.mem_of_getElem? (i := 135) (by decide +kernel)
  | 13, _ => exact List.mem_of_getElem? (i := 136) (by decide +kernel)
  | 14, _ => exact List.mem_of_getElem? (i := 137) (by decide +kernel)
  | 15, _ => exact List.mem_of_getElem? (i := 138) (by decide +kernel)
  | 16, _ => exact List.mem_of_getElem? (i := 139) (by decide +kernel)
  | 17, _ => exact List.mem_of_getElem? (i := 140) (by decide +kernel)
  | 18, _ => exact List.mem_of_getElem? (i := 141) (by decide +kernel)
  | 19, _ => exact List.mem_of_getElem? (i := 142) (by decide +kernel)
  | 20, _ => exact List.mem_of_getElem? (i := 143) (by decide +kernel)
  | 21, _ => exact List.mem_of_getElem? (i := 144) (by decide +kernel)
  | 22, _ => exact List.mem_of_getElem? (i := 145) (by decide +kernel)
  | 23, _ => exact List.mem_of_getElem? (i := 146) (by decide +kernel)
  | 24, _ => exact List.mem_of_getElem? (i := 147) (by decide +kernel)
  | 25, _ => exact List.mem_of_getElem? (i := 148) (by decide +kernel)
  | 26, _ => exact List.mem_of_getElem? (i := 149) (by decide +kernel)
  | 27, _ => exact List.mem_of_getElem? (i := 150) (by decide +kernel)
  | 28, _ => exact List.mem_of_getElem? (i := 151) (by decide +kernel)
  | 29, _ => exact List.mem_of_getElem? (i := 152) (by decide +kernel)
  | 30, _ => exact List.mem_of_getElem? (i := 153) (by decide +kernel)
  | 31, _ => exact List.mem_of_getElem? (i := 154) (by decide +kernel)
  | 32, _ => exact List.mem_of_getElem? (i := 155) (by decide +kernel)
  | 33, _ => exact List.mem_of_getElem? (i := 156) (by decide +kernel)
  | 34, _ => exact List.mem_of_getElem? (i := 157) (by decide +kernel)
  | 35, _ => exact List.mem_of_getElem? (i := 158) (by decide +kernel)
  | 36, _ => exact List.mem_of_getElem? (i := 159) (by decide +kernel)
  | 37, _ => exact List.mem_of_getElem? (i := 160) (by decide +kernel)
  | 38, _ => exact List.mem_of_getElem? (i := 161) (by decide +kernel)
  | 39, _ => exact List.mem_of_getElem? (i := 162) (by decide +kernel)
  | j + 40, h => exact absurd h (by simp [st_len])
theorem st_m5_5 : ∀ j, j < st_len.getD 5 0 → Cond.eq (.elem (.field (st_tm 5) "java/lang/String" "value" "[B") (.int (Int32.ofNat j))) (.int ((st_byt.getD 5 []).getD j 0)) ∈ st_fl := by
  intro j hj
  match j, hj with
  | 0, _ => exact List.mem_of_getElem? (i := 171) (by decide +kernel)
  | 1, _ => exact List.mem_of_getElem? (i := 172) (by decide +kernel)
  | 2, _ => exact List.mem_of_getElem? (i := 173) (by decide +kernel)
  | 3, _ => exact List.mem_of_getElem? (i := 174) (by decide +kernel)
  | 4, _ => exact List.mem_of_getElem? (i := 175) (by decide +kernel)
  | 5, _ => exact List.mem_of_getElem? (i := 176) (by decide +kernel)
  | 6, _ => exact List.mem_of_getElem? (i := 177) (by decide +kernel)
  | 7, _ => exact List.mem_of_getElem? (i := 178) (by decide +kernel)
  | 8, _ => exact List.mem_of_getElem? (i := 179) (by decide +kernel)
  | 9, _ => exact List.mem_of_getElem? (i := 180) (by decide +kernel)
  | 10, _ => exact List.mem_of_getElem? (i := 181) (by decide +kernel)
  | 11, _ => exact List.mem_of_getElem? (i := 182) (by decide +kernel)
  | 12, _ => exact List.mem_of_getElem? (i := 183) (by decide +kernel)
  | 13, _ => exact List.mem_of_getElem? (i := 184) (by decide +kernel)
  | 14, _ => exact List.mem_of_getElem? (i := 185) (by decide +kernel)
  | 15, _ => exact List.mem_of_getElem? (i := 186) (by decide +kernel)
  | 16, _ => exact List.mem_of_getElem? (i := 187) (by decide +kernel)
  | 17, _ => exact List.mem_of_getElem? (i := 188) (by decide +kernel)
  | 18, _ => exact List.mem_of_getElem? (i := 189) (by decide +kernel)
  | 19, _ => exact List.mem_of_getElem? (i := 190) (by decide +kernel)
  | 20, _ => exact List.mem_of_getElem? (i := 191) (by decide +kernel)
  | 21, _ => exact List.mem_of_getElem? (i := 192) (by decide +kernel)
  | 22, _ => exact List.mem_of_getElem? (i := 193) (by decide +kernel)
  | 23, _ => exact List.mem_of_getElem? (i := 194) (by decide +kernel)
  | 24, _ => exact List.mem_of_getElem? (i := 195) (by decide +kernel)
  | 25, _ => exact List.mem_of_getElem? (i := 196) (by decide +kernel)
  | 26, _ => exact List.mem_of_getElem? (i := 197) (by decide +kernel)
  | 27, _ => exact List.mem_of_getElem? (i := 198) (by decide +kernel)
  | 28, _ => exact List.mem_of_getElem? (i := 199) (by decide +kernel)
  | 29, _ => exact List.mem_of_getElem? (i := 200) (by decide +kernel)
  | 30, _ => exact List.mem_of_getElem? (i := 201) (by decide +kernel)
  | 31, _ => exact List.mem_of_getElem? (i := 202) (by decide +kernel)
  | 32, _ => exact List.mem_of_getElem? (i := 203) (by decide +kernel)
  | 33, _ => exact List.mem_of_getElem? (i := 204) (by decide +kernel)
  | 34, _ => exact List.mem_of_getElem? (i := 205) (by decide +kernel)
  | 35, _ => exact List.mem_of_getElem? (i := 206) (by decide +kernel)
  | 36, _ => exact List.mem_of_getElem? (i := 207) (by decide +kernel)
  | 37, _ => exact List.mem_of_getElem? (i := 208) (by decide +kernel)
  | 38, _ => exact List.mem_of_getElem? (i := 209) (by decide +kernel)
  | 39, _ => exact List.mem_of_getElem? (i := 210) (by decide +kernel)
  | 40, _ => exact List.mem_of_getElem? (i := 211) (by decide +kernel)
  | 41, _ => exact List.mem_of_getElem? (i := 212) (by decide +kernel)
  | 42, _ => exact List.mem_of_getElem? (i := 213) (by decide +kernel)
  | 43, _ => exact List.mem_of_getElem? (i := 214) (by decide +kernel)
  | 44, _ => exact List.mem_of_getElem? (i := 215) (by decide +kernel)
  | 45, _ => exact List.mem_of_getElem? (i := 216) (by decide +kernel)
  | 46, _ => exact List.mem_of_getElem? (i := 217) (by decide +kernel)
  | 47, _ => exact List.mem_of_getElem? (i := 218) (by decide +kernel)
  | j + 48, h => exact absurd h (by simp [st_len])
theorem st_m5_6 : ∀ j, j < st_len.getD 6 0 → Cond.eq (.elem (.field (st_tm 6) "java/lang/String" "value" "[B") (.int (Int32.ofNat j))) (.int ((st_byt.getD 6 []).getD j 0)) ∈ st_fl := by
  intro j hj
  match j, hj with
  | 0, _ => exact List.mem_of_getElem? (i := 228) (by decide +kernel)
  | 1, _ => exact List.mem_of_getElem? (i := 229) (by decide +kernel)
  | 2, _ => exact List.mem_of_getElem? (i := 230) (by decide +kernel)
  | j + 3, h => exact absurd h (by simp [st_len])
theorem st_m5_7 : ∀ j, j < st_len.getD 7 0 → Cond.eq (.elem (.field (st_tm 7) "java/lang/String" "value" "[B") (.int (Int32.ofNat j))) (.int ((st_byt.getD 7 []).getD j 0)) ∈ st_fl := by
  intro j hj
  match j, hj with
  | 0, _ => exact List.mem_of_getElem? (i := 241) (by decide +kernel)
  | 1, _ => exact List.mem_of_getElem? (i := 242) (by decide +kernel)
  | j + 2, h => exact absurd h (by simp [st_len])
theorem st_m5_8 : ∀ j, j < st_len.getD 8 0 → Cond.eq (.elem (.field (st_tm 8) "java/lang/String" "value" "[B") (.int (Int32.ofNat j))) (.int ((st_byt.getD 8 []).getD j 0)) ∈ st_fl := by
  intro j hj
  match j, hj with
  | 0, _ => exact List.mem_of_getElem? (i := 254) (by decide +kernel)
  | 1, _ => exact List.mem_of_getElem? (i := 255) (by decide +kernel)
  | 2, _ => exact List.mem_of_getElem? (i := 256) (by decide +kernel)
  | 3, _ => exact List.mem_of_getElem? (i := 257) (by decide +kernel)
  | 4, _ => exact List.mem_of_getElem? (i := 258) (by decide +kernel)
  | j + 5, h => exact absurd h (by simp [st_len])
theorem st_m5_9 : ∀ j, j < st_len.getD 9 0 → Cond.eq (.elem (.field (st_tm 9) "java/lang/String" "value" "[B") (.int (Int32.ofNat j))) (.int ((st_byt.getD 9 []).getD j 0)) ∈ st_fl := by
  intro j hj
  match j, hj with
  | 0, _ => exact List.mem_of_getElem? (i := 271) (by decide +kernel)
  | 1, _ => exact List.mem_of_getElem? (i := 272) (by decide +kernel)
  | j + 2, h => exact absurd h (by simp [st_len])
theorem st_m5_10 : ∀ j, j < st_len.getD 10 0 → Cond.eq (.elem (.field (st_tm 10) "java/lang/String" "value" "[B") (.int (Int32.ofNat j))) (.int ((st_byt.getD 10 []).getD j 0)) ∈ st_fl := by
  intro j hj
  match j, hj with
  | 0, _ => exact List.mem_of_getElem? (i := 286) (by decide +kernel)
  | 1, _ => exact List.mem_of_getElem? (i := 287) (by decide +kernel)
  | 2, _ => exact List.mem_of_getElem? (i := 288) (by decide +kernel)
  | j + 3, h => exact absurd h (by simp [st_len])
theorem st_m5_11 : ∀ j, j < st_len.getD 11 0 → Cond.eq (.elem (.field (st_tm 11) "java/lang/String" "value" "[B") (.int (Int32.ofNat j))) (.int ((st_byt.getD 11 []).getD j 0)) ∈ st_fl := by
  intro j hj
  match j, hj with
  | 0, _ => exact List.mem_of_getElem? (i := 303) (by decide +kernel)
  | 1, _ => exact List.mem_of_getElem? (i := 304) (by decide +kernel)
  | 2, _ => exact List.mem_of_getElem? (i := 305) (by decide +kernel)
  | j + 3, h => exact absurd h (by simp [st_len])
theorem st_m5_12 : ∀ j, j < st_len.getD 12 0 → Cond.eq (.elem (.field (st_tm 12) "java/lang/String" "value" "[B") (.int (Int32.ofNat j))) (.int ((st_byt.getD 12 []).getD j 0)) ∈ st_fl := by
  intro j hj
  match j, hj with
  | 0, _ => exact List.mem_of_getElem? (i := 321) (by decide +kernel)
  | 1, _ => exact List.mem_of_getElem? (i := 322) (by decide +kernel)
  | 2, _ => exact List.mem_of_getElem? (i := 323) (by decide +kernel)
  | j + 3, h => exact absurd h (by simp [st_len])
theorem st_m5_13 : ∀ j, j < st_len.getD 13 0 → Cond.eq (.elem (.field (st_tm 13) "java/lang/String" "value" "[B") (.int (Int32.ofNat j))) (.int ((st_byt.getD 13 []).getD j 0)) ∈ st_fl := by
  intro j hj
  match j, hj with
  | 0, _ => exact List.mem_of_getElem? (i := 340) (by decide +kernel)
  | 1, _ => exact List.mem_of_getElem? (i := 341) (by decide +kernel)
  | j + 2, h => exact absurd h (by simp [st_len])
theorem st_m5 : ∀ i, i < 14 → ∀ j, j < st_len.getD i 0 → Cond.eq (.elem (.field (st_tm i) "java/lang/String" "value" "[B") (.int (Int32.ofNat j))) (.int ((st_byt.getD i []).getD j 0)) ∈ st_fl := by
  intro i hi
  match i, hi with
  | 0, _ => exact st_m5_0
  | 1, _ => exact st_m5_1
  | 2, _ => exact st_m5_2
  | 3, _ => exact st_m5_3
  | 4, _ => exact st_m5_4
  | 5, _ => exact st_m5_5
  | 6, _ => exact st_m5_6
  | 7, _ => exact st_m5_7
  | 8, _ => exact st_m5_8
  | 9, _ => exact st_m5_9
  | 10, _ => exact st_m5_10
  | 11, _ => exact st_m5_11
  | 12, _ => exact st_m5_12
  | 13, _ => exact st_m5_13
  | i + 14, h => exact absurd h (by omega)
theorem st_m6_0 : ∀ j, j < 14 → 0 ≠ j → (Cond.not (Cond.eq (st_tm 0) (st_tm j)) ∈ st_fl ∨ Cond.not (Cond.eq (st_tm j) (st_tm 0)) ∈ st_fl) := by
  intro j hj hne
  match j, hj, hne with
  | 0, _, h => exact absurd rfl h
  | 1, _, _ => exact Or.inl (List.mem_of_getElem? (i := 101) (by decide +kernel))
  | 2, _, _ => exact Or.inl (List.mem_of_getElem? (i := 108) (by decide +kernel))
  | 3, _, _ => exact Or.inl (List.mem_of_getElem? (i := 116) (by decide +kernel))
  | 4, _, _ => exact Or.inl (List.mem_of_getElem? (i := 163) (by decide +kernel))
  | 5, _, _ => exact Or.inl (List.mem_of_getElem? (i := 219) (by decide +kernel))
  | 6, _, _ => exact Or.inl (List.mem_of_getElem? (i := 231) (by decide +kernel))
  | 7, _, _ => exact Or.inl (List.mem_of_getElem? (i := 243) (by decide +kernel))
  | 8, _, _ => exact Or.inl (List.mem_of_getElem? (i := 259) (by decide +kernel))
  | 9, _, _ => exact Or.inl (List.mem_of_getElem? (i := 273) (by decide +kernel))
  | 10, _, _ => exact Or.inl (List.mem_of_getElem? (i := 289) (by decide +kernel))
  | 11, _, _ => exact Or.inl (List.mem_of_getElem? (i := 306) (by decide +kernel))
  | 12, _, _ => exact Or.inl (List.mem_of_getElem? (i := 324) (by decide +kernel))
  | 13, _, _ => exact Or.inl (List.mem_of_getElem? (i := 342) (by decide +kernel))
  | j + 14, h, _ => exact absurd h (by omega)
theorem st_m6_1 : ∀ j, j < 14 → 1 ≠ j → (Cond.not (Cond.eq (st_tm 1) (st_tm j)) ∈ st_fl ∨ Cond.not (Cond.eq (st_tm j) (st_tm 1)) ∈ st_fl) := by
  intro j hj hne
  match j, hj, hne with
  | 0, _, _ => exact Or.inr (List.mem_of_getElem? (i := 101) (by decide +kernel))
  | 1, _, h => exact absurd rfl h
  | 2, _, _ => exact Or.inl (List.mem_of_getElem? (i := 109) (by decide +kernel))
  | 3, _, _ => exact Or.inl (List.mem_of_getElem? (i := 117) (by decide +kernel))
  | 4, _, _ => exact Or.inl (List.mem_of_getElem? (i := 164) (by decide +kernel))
  | 5, _, _ => exact Or.inl (List.mem_of_getElem? (i := 220) (by decide +kernel))
  | 6, _, _ => exact Or.inl (List.mem_of_getElem? (i := 232) (by decide +kernel))
  | 7, _, _ => exact Or.inl (List.mem_of_getElem? (i := 244) (by decide +kernel))
  | 8, _, _ => exact Or.inl (List.mem_of_getElem? (i := 260) (by decide +kernel))
  | 9, _, _ => exact Or.inl (List.mem_of_getElem? (i := 274) (by decide +kernel))
  | 10, _, _ => exact Or.inl (List.mem_of_getElem? (i := 290) (by decide +kernel))
  | 11, _, _ => exact Or.inl (List.mem_of_getElem? (i := 307) (by decide +kernel))
  | 12, _, _ => exact Or.inl (List.mem_of_getElem? (i := 325) (by decide +kernel))
  | 13, _, _ => exact Or.inl (List.mem_of_getElem? (i := 343) (by decide +kernel))
  | j + 14, h, _ => exact absurd h (by omega)
theorem st_m6_2 : ∀ j, j < 14 → 2 ≠ j → (Cond.not (Cond.eq (st_tm 2) (st_tm j)) ∈ st_fl ∨ Cond.not (Cond.eq (st_tm j) (st_tm 2)) ∈ st_fl) := by
  intro j hj hne
  match j, hj, hne with
  | 0, _, _ => exact Or.inr (List.mem_of_getElem? (i := 108) (by decide +kernel))
  | 1, _, _ => exact Or.inr (List.mem_of_getElem? (i := 109) (by decide +kernel))
  | 2, _, h => exact absurd rfl h
  | 3, _, _ => exact Or.inl (List.mem_of_getElem? (i := 118) (by decide +kernel))
  | 4, _, _ => exact Or.inl (List.mem_of_getElem? (i := 165) (by decide +kernel))
  | 5, _, _ => exact Or.inl (List.mem_of_getElem? (i := 221) (by decide +kernel))
  | 6, _, _ => exact Or.inl (List.mem_of_getElem? (i := 233) (by decide +kernel))
  | 7, _, _ => exact Or.inl (List.mem_of_getElem? (i := 245) (by decide +kernel))
  | 8, _, _ => exact Or.inl (List.mem_of_getElem? (i := 261) (by decide +kernel))
  | 9, _, _ => exact Or.inl (List.mem_of_getElem? (i := 275) (by decide +kernel))
  | 10, _, _ => exact Or.inl (List.mem_of_getElem? (i := 291) (by decide +kernel))
  | 11, _, _ => exact Or.inl (List.mem_of_getElem? (i := 308) (by decide +kernel))
  | 12, _, _ => exact Or.inl (List.mem_of_getElem? (i := 326) (by decide +kernel))
  | 13, _, _ => exact Or.inl (List.mem_of_getElem? (i := 344) (by decide +kernel))
  | j + 14, h, _ => exact absurd h (by omega)
theorem st_m6_3 : ∀ j, j < 14 → 3 ≠ j → (Cond.not (Cond.eq (st_tm 3) (st_tm j)) ∈ st_fl ∨ Cond.not (Cond.eq (st_tm j) (st_tm 3)) ∈ st_fl) := by
  intro j hj hne
  match j, hj, hne with
  | 0, _, _ => exact Or.inr (List.mem_of_getElem? (i := 116) (by decide +kernel))
  | 1, _, _ => exact Or.inr (List.mem_of_getElem? (i := 117) (by decide +kernel))
  | 2, _, _ => exact Or.inr (List.mem_of_getElem? (i := 118) (by decide +kernel))
  | 3, _, h => exact absurd rfl h
  | 4, _, _ => exact Or.inl (List.mem_of_getElem? (i := 166) (by decide +kernel))
  | 5, _, _ => exact Or.inl (List.mem_of_getElem? (i := 222) (by decide +kernel))
  | 6, _, _ => exact Or.inl (List.mem_of_getElem? (i := 234) (by decide +kernel))
  | 7, _, _ => exact Or.inl (List.mem_of_getElem? (i := 246) (by decide +kernel))
  | 8, _, _ => exact Or.inl (List.mem_of_getElem? (i := 262) (by decide +kernel))
  | 9, _, _ => exact Or.inl (List.mem_of_getElem? (i := 276) (by decide +kernel))
  | 10, _, _ => exact Or.inl (List.mem_of_getElem? (i := 292) (by decide +kernel))
  | 11, _, _ => exact Or.inl (List.mem_of_getElem? (i := 309) (by decide +kernel))
  | 12, _, _ => exact Or.inl (List.mem_of_getElem? (i := 327) (by decide +kernel))
  | 13, _, _ => exact Or.inl (List.mem_of_getElem? (i := 345) (by decide +kernel))
  | j + 14, h, _ => exact absurd h (by omega)
theorem st_m6_4 : ∀ j, j < 14 → 4 ≠ j → (Cond.not (Cond.eq (st_tm 4) (st_tm j)) ∈ st_fl ∨ Cond.not (Cond.eq (st_tm j) (st_tm 4)) ∈ st_fl) := by
  intro j hj hne
  match j, hj, hne with
  | 0, _, _ => exact Or.inr (List.mem_of_getElem? (i := 163) (by decide +kernel))
  | 1, _, _ => exact Or.inr (List.mem_of_getElem? (i := 164) (by decide +kernel))
  | 2, _, _ => exact Or.inr (List.mem_of_getElem? (i := 165) (by decide +kernel))
  | 3, _, _ => exact Or.inr (List.mem_of_getElem? (i := 166) (by decide +kernel))
  | 4, _, h => exact absurd rfl h
  | 5, _, _ => exact Or.inl (List.mem_of_getElem? (i := 223) (by decide +kernel))
  | 6, _, _ => exact Or.inl (List.mem_of_getElem? (i := 235) (by decide +kernel))
  | 7, _, _ => exact Or.inl (List.mem_of_getElem? (i := 247) (by decide +kernel))
  | 8, _, _ => exact Or.inl (List.mem_of_getElem? (i := 263) (by decide +kernel))
  | 9, _, _ => exact Or.inl (List.mem_of_getElem? (i := 277) (by decide +kernel))
  | 10, _, _ => exact Or.inl (List.mem_of_getElem? (i := 293) (by decide +kernel))
  | 11, _, _ => exact Or.inl (List.mem_of_getElem? (i := 310) (by decide +kernel))
  | 12, _, _ => exact Or.inl (List.mem_of_getElem? (i := 328) (by decide +kernel))
  | 13, _, _ => exact Or.inl (List.mem_of_getElem? (i := 346) (by decide +kernel))
  | j + 14, h, _ => exact absurd h (by omega)
theorem st_m6_5 : ∀ j, j < 14 → 5 ≠ j → (Cond.not (Cond.eq (st_tm 5) (st_tm j)) ∈ st_fl ∨ Cond.not (Cond.eq (st_tm j) (st_tm 5)) ∈ st_fl) := by
  intro j hj hne
  match j, hj, hne with
  | 0, _, _ => exact Or.inr (List.mem_of_getElem? (i := 219) (by decide +kernel))
  | 1, _, _ => exact Or.inr (List.mem_of_getElem? (i := 220) (by decide +kernel))
  | 2, _, _ => exact Or.inr (List.mem_of_getElem? (i := 221) (by decide +kernel))
  | 3, _, _ => exact Or.inr (List.mem_of_getElem? (i := 222) (by decide +kernel))
  | 4, _, _ => exact Or.inr (List.mem_of_getElem? (i := 223) (by decide +kernel))
  | 5, _, h => exact absurd rfl h
  | 6, _, _ => exact Or.inl (List.mem_of_getElem? (i := 236) (by decide +kernel))
  | 7, _, _ => exact Or.inl (List.mem_of_getElem? (i := 248) (by decide +kernel))
  | 8, _, _ => exact Or.inl (List.mem_of_getElem? (i := 264) (by decide +kernel))
  | 9, _, _ => exact Or.inl (List.mem_of_getElem? (i := 278) (by decide +kernel))
  | 10, _, _ => exact Or.inl (List.mem_of_getElem? (i := 294) (by decide +kernel))
  | 11, _, _ => exact Or.inl (List.mem_of_getElem? (i := 311) (by decide +kernel))
  | 12, _, _ => exact Or.inl (List.mem_of_getElem? (i := 329) (by decide +kernel))
  | 13, _, _ => exact Or.inl (List.mem_of_getElem? (i := 347) (by decide +kernel))
  | j + 14, h, _ => exact absurd h (by omega)
theorem st_m6_6 : ∀ j, j < 14 → 6 ≠ j → (Cond.not (Cond.eq (st_tm 6) (st_tm j)) ∈ st_fl ∨ Cond.not (Cond.eq (st_tm j) (st_tm 6)) ∈ st_fl) := by
  intro j hj hne
  match j, hj, hne with
  | 0, _, _ => exact Or.inr (List.mem_of_getElem? (i := 231) (by decide +kernel))
  | 1, _, _ => exact Or.inr (List.mem_of_getElem? (i := 232) (by decide +kernel))
  | 2, _, _ => exact Or.inr (List.mem_of_getElem? (i := 233) (by decide +kernel))
  | 3, _, _ => exact Or.inr (List.mem_of_getElem? (i := 234) (by decide +kernel))
  | 4, _, _ => exact Or.inr (List.mem_of_getElem? (i := 235) (by decide +kernel))
  | 5, _, _ => exact Or.inr (List.mem_of_getElem? (i := 236) (by decide +kernel))
  | 6, _, h => exact absurd rfl h
  | 7, _, _ => exact Or.inl (List.mem_of_getElem? (i := 249) (by decide +kernel))
  | 8, _, _ => exact Or.inl (List.mem_of_getElem? (i := 265) (by decide +kernel))
  | 9, _, _ => exact Or.inl (List.mem_of_getElem? (i := 279) (by decide +kernel))
  | 10, _, _ => exact Or.inl (List.mem_of_getElem? (i := 295) (by decide +kernel))
  | 11, _, _ => exact Or.inl (List.mem_of_getElem? (i := 312) (by decide +kernel))
  | 12, _, _ => exact Or.inl (List.mem_of_getElem? (i := 330) (by decide +kernel))
  | 13, _, _ => exact Or.inl (List.mem_of_getElem? (i := 348) (by decide +kernel))
  | j + 14, h, _ => exact absurd h (by omega)
theorem st_m6_7 : ∀ j, j < 14 → 7 ≠ j → (Cond.not (Cond.eq (st_tm 7) (st_tm j)) ∈ st_fl ∨ Cond.not (Cond.eq (st_tm j) (st_tm 7)) ∈ st_fl) := by
  intro j hj hne
  match j, hj, hne with
  | 0, _, _ => exact Or.inr (List.mem_of_getElem? (i := 243) (by decide +kernel))
  | 1, _, _ => exact Or.inr (List.mem_of_getElem? (i := 244) (by decide +kernel))
  | 2, _, _ => exact Or.inr (List.mem_of_getElem? (i := 245) (by decide +kernel))
  | 3, _, _ => exact Or.inr (List.mem_of_getElem? (i := 246) (by decide +kernel))
  | 4, _, _ => exact Or.inr (List.mem_of_getElem? (i := 247) (by decide +kernel))
  | 5, _, _ => exact Or.inr (List.mem_of_getElem? (i := 248) (by decide +kernel))
  | 6, _, _ => exact Or.inr (List.mem_of_getElem? (i := 249) (by decide +kernel))
  | 7, _, h => exact absurd rfl h
  | 8, _, _ => exact Or.inl (List.mem_of_getElem? (i := 266) (by decide +kernel))
  | 9, _, _ => exact Or.inl (List.mem_of_getElem? (i := 280) (by decide +kernel))
  | 10, _, _ => exact Or.inl (List.mem_of_getElem? (i := 296) (by decide +kernel))
  | 11, _, _ => exact Or.inl (List.mem_of_getElem? (i := 313) (by decide +kernel))
  | 12, _, _ => exact Or.inl (List.mem_of_getElem? (i := 331) (by decide +kernel))
  | 13, _, _ => exact Or.inl (List.mem_of_getElem? (i := 349) (by decide +kernel))
  | j + 14, h, _ => exact absurd h (by omega)
theorem st_m6_8 : ∀ j, j < 14 → 8 ≠ j → (Cond.not (Cond.eq (st_tm 8) (st_tm j)) ∈ st_fl ∨ Cond.not (Cond.eq (st_tm j) (st_tm 8)) ∈ st_fl) := by
  intro j hj hne
  match j, hj, hne with
  | 0, _, _ => exact Or.inr (List.mem_of_getElem? (i := 259) (by decide +kernel))
  | 1, _, _ => exact Or.inr (List.mem_of_getElem? (i := 260) (by decide +kernel))
  | 2, _, _ => exact Or.inr (List.mem_of_getElem? (i := 261) (by decide +kernel))
  | 3, _, _ => exact Or.inr (List.mem_of_getElem? (i := 262) (by decide +kernel))
  | 4, _, _ => exact Or.inr (List.mem_of_getElem? (i := 263) (by decide +kernel))
  | 5, _, _ => exact Or.inr (List.mem_of_getElem? (i := 264) (by decide +kernel))
  | 6, _, _ => exact Or.inr (List.mem_of_getElem? (i := 265) (by decide +kernel))
  | 7, _, _ => exact Or.inr (List.mem_of_getElem? (i := 266) (by decide +kernel))
  | 8, _, h => exact absurd rfl h
  | 9, _, _ => exact Or.inl (List.mem_of_getElem? (i := 281) (by decide +kernel))
  | 10, _, _ => exact Or.inl (List.mem_of_getElem? (i := 297) (by decide +kernel))
  | 11, _, _ => exact Or.inl (List.mem_of_getElem? (i := 314) (by decide +kernel))
  | 12, _, _ => exact Or.inl (List.mem_of_getElem? (i := 332) (by decide +kernel))
  | 13, _, _ => exact Or.inl (List.mem_of_getElem? (i := 350) (by decide +kernel))
  | j + 14, h, _ => exact absurd h (by omega)
theorem st_m6_9 : ∀ j, j < 14 → 9 ≠ j → (Cond.not (Cond.eq (st_tm 9) (st_tm j)) ∈ st_fl ∨ Cond.not (Cond.eq (st_tm j) (st_tm 9)) ∈ st_fl) := by
  intro j hj hne
  match j, hj, hne with
  | 0, _, _ => exact Or.inr (List.mem_of_getElem? (i := 273) (by decide +kernel))
  | 1, _, _ => exact Or.inr (List.mem_of_getElem? (i := 274) (by decide +kernel))
  | 2, _, _ => exact Or.inr (List.mem_of_getElem? (i := 275) (by decide +kernel))
  | 3, _, _ => exact Or.inr (List.mem_of_getElem? (i := 276) (by decide +kernel))
  | 4, _, _ => exact Or.inr (List.mem_of_getElem? (i := 277) (by decide +kernel))
  | 5, _, _ => exact Or.inr (List.mem_of_getElem? (i := 278) (by decide +kernel))
  | 6, _, _ => exact Or.inr (List.mem_of_getElem? (i := 279) (by decide +kernel))
  | 7, _, _ => exact Or.inr (List.mem_of_getElem? (i := 280) (by decide +kernel))
  | 8, _, _ => exact Or.inr (List.mem_of_getElem? (i := 281) (by decide +kernel))
  | 9, _, h => exact absurd rfl h
  | 10, _, _ => exact Or.inl (List.mem_of_getElem? (i := 298) (by decide +kernel))
  | 11, _, _ => exact Or.inl (List.mem_of_getElem? (i := 315) (by decide +kernel))
  | 12, _, _ => exact Or.inl (List.mem_of_getElem? (i := 333) (by decide +kernel))
  | 13, _, _ => exact Or.inl (List.mem_of_getElem? (i := 351) (by decide +kernel))
  | j + 14, h, _ => exact absurd h (by omega)
theorem st_m6_10 : ∀ j, j < 14 → 10 ≠ j → (Cond.not (Cond.eq (st_tm 10) (st_tm j)) ∈ st_fl ∨ Cond.not (Cond.eq (st_tm j) (st_tm 10)) ∈ st_fl) := by
  intro j hj hne
  match j, hj, hne with
  | 0, _, _ => exact Or.inr (List.mem_of_getElem? (i := 289) (by decide +kernel))
  | 1, _, _ => exact Or.inr (List.mem_of_getElem? (i := 290) (by decide +kernel))
  | 2, _, _ => exact Or.inr (List.mem_of_getElem? (i := 291) (by decide +kernel))
  | 3, _, _ => exact Or.inr (List.mem_of_getElem? (i := 292) (by decide +kernel))
  | 4, _, _ => exact Or.inr (List.mem_of_getElem? (i := 293) (by decide +kernel))
  | 5, _, _ => exact Or.inr (List.mem_of_getElem? (i := 294) (by decide +kernel))
  | 6, _, _ => exact Or.inr (List.mem_of_getElem? (i := 295) (by decide +kernel))
  | 7, _, _ => exact Or.inr (List.mem_of_getElem? (i := 296) (by decide +kernel))
  | 8, _, _ => exact Or.inr (List.mem_of_getElem? (i := 297) (by decide +kernel))
  | 9, _, _ => exact Or.inr (List.mem_of_getElem? (i := 298) (by decide +kernel))
  | 10, _, h => exact absurd rfl h
  | 11, _, _ => exact Or.inl (List.mem_of_getElem? (i := 316) (by decide +kernel))
  | 12, _, _ => exact Or.inl (List.mem_of_getElem? (i := 334) (by decide +kernel))
  | 13, _, _ => exact Or.inl (List.mem_of_getElem? (i := 352) (by decide +kernel))
  | j + 14, h, _ => exact absurd h (by omega)
theorem st_m6_11 : ∀ j, j < 14 → 11 ≠ j → (Cond.not (Cond.eq (st_tm 11) (st_tm j)) ∈ st_fl ∨ Cond.not (Cond.eq (st_tm j) (st_tm 11)) ∈ st_fl) := by
  intro j hj hne
  match j, hj, hne with
  | 0, _, _ => exact Or.inr (List.mem_of_getElem? (i := 306) (by decide +kernel))
  | 1, _, _ => exact Or.inr (List.mem_of_getElem? (i := 307) (by decide +kernel))
  | 2, _, _ => exact Or.inr (List.mem_of_getElem? (i := 308) (by decide +kernel))
  | 3, _, _ => exact Or.inr (List.mem_of_getElem? (i := 309) (by decide +kernel))
  | 4, _, _ => exact Or.inr (List.mem_of_getElem? (i := 310) (by decide +kernel))
  | 5, _, _ => exact Or.inr (List.mem_of_getElem? (i := 311) (by decide +kernel))
  | 6, _, _ => exact Or.inr (List.mem_of_getElem? (i := 312) (by decide +kernel))
  | 7, _, _ => exact Or.inr (List.mem_of_getElem? (i := 313) (by decide +kernel))
  | 8, _, _ => exact Or.inr (List.mem_of_getElem? (i := 314) (by decide +kernel))
  | 9, _, _ => exact Or.inr (List.mem_of_getElem? (i := 315) (by decide +kernel))
  | 10, _, _ => exact Or.inr (List.mem_of_getElem? (i := 316) (by decide +kernel))
  | 11, _, h => exact absurd rfl h
  | 12, _, _ => exact Or.inl (List.mem_of_getElem? (i := 335) (by decide +kernel))
  | 13, _, _ => exact Or.inl (List.mem_of_getElem? (i := 353) (by decide +kernel))
  | j + 14, h, _ => exact absurd h (by omega)
theorem st_m6_12 : ∀ j, j < 14 → 12 ≠ j → (Cond.not (Cond.eq (st_tm 12) (st_tm j)) ∈ st_fl ∨ Cond.not (Cond.eq (st_tm j) (st_tm 12)) ∈ st_fl) := by
  intro j hj hne
  match j, hj, hne with
  | 0, _, _ => exact Or.inr (List.mem_of_getElem? (i := 324) (by decide +kernel))
  | 1, _, _ => exact Or.inr (List.mem_of_getElem? (i := 325) (by decide +kernel))
  | 2, _, _ => exact Or.inr (List.mem_of_getElem? (i := 326) (by decide +kernel))
  | 3, _, _ => exact Or.inr (List.mem_of_getElem? (i := 327) (by decide +kernel))
  | 4, _, _ => exact Or.inr (List.mem_of_getElem? (i := 328) (by decide +kernel))
  | 5, _, _ => exact Or.inr (List.mem_of_getElem? (i := 329) (by decide +kernel))
  | 6, _, _ => exact Or.inr (List.mem_of_getElem? (i := 330) (by decide +kernel))
  | 7, _, _ => exact Or.inr (List.mem_of_getElem? (i := 331) (by decide +kernel))
  | 8, _, _ => exact Or.inr (List.mem_of_getElem? (i := 332) (by decide +kernel))
  | 9, _, _ => exact Or.inr (List.mem_of_getElem? (i := 333) (by decide +kernel))
  | 10, _, _ => exact Or.inr (List.mem_of_getElem? (i := 334) (by decide +kernel))
  | 11, _, _ => exact Or.inr (List.mem_of_getElem? (i := 335) (by decide +kernel))
  | 12, _, h => exact absurd rfl h
  | 13, _, _ => exact Or.inl (List.mem_of_getElem? (i := 354) (by decide +kernel))
  | j + 14, h, _ => exact absurd h (by omega)
theorem st_m6_13 : ∀ j, j < 14 → 13 ≠ j → (Cond.not (Cond.eq (st_tm 13) (st_tm j)) ∈ st_fl ∨ Cond.not (Cond.eq (st_tm j) (st_tm 13)) ∈ st_fl) := by
  intro j hj hne
  match j, hj, hne with
  | 0, _, _ => exact Or.inr (List.mem_of_getElem? (i := 342) (by decide +kernel))
  | 1, _, _ => exact Or.inr (List.mem_of_getElem? (i := 343) (by decide +kernel))
  | 2, _, _ => exact Or.inr (List.mem_of_getElem? (i := 344) (by decide +kernel))
  | 3, _, _ => exact Or.inr (List.mem_of_getElem? (i := 345) (by decide +kernel))
  | 4, _, _ => exact Or.inr (List.mem_of_getElem? (i := 346) (by decide +kernel))
  | 5, _, _ => exact Or.inr (List.mem_of_getElem? (i := 347) (by decide +kernel))
  | 6, _, _ => exact Or.inr (List.mem_of_getElem? (i := 348) (by decide +kernel))
  | 7, _, _ => exact Or.inr (List.mem_of_getElem? (i := 349) (by decide +kernel))
  | 8, _, _ => exact Or.inr (List.mem_of_getElem? (i := 350) (by decide +kernel))
  | 9, _, _ => exact Or.inr (List.mem_of_getElem? (i := 351) (by decide +kernel))
  | 10, _, _ => exact Or.inr (List.mem_of_getElem? (i := 352) (by decide +kernel))
  | 11, _, _ => exact Or.inr (List.mem_of_getElem? (i := 353) (by decide +kernel))
  | 12, _, _ => exact Or.inr (List.mem_of_getElem? (i := 354) (by decide +kernel))
  | 13, _, h => exact absurd rfl h
  | j + 14, h, _ => exact absurd h (by omega)
theorem st_m6 : ∀ i, i < 14 → ∀ j, j < 14 → i ≠ j → (Cond.not (Cond.eq (st_tm i) (st_tm j)) ∈ st_fl ∨ Cond.not (Cond.eq (st_tm j) (st_tm i)) ∈ st_fl) := by
  intro i hi
  match i, hi with
  | 0, _ => exact st_m6_0
  | 1, _ => exact st_m6_1
  | 2, _ => exact st_m6_2
  | 3, _ => exact st_m6_3
  | 4, _ => exact st_m6_4
  | 5, _ => exact st_m6_5
  | 6, _ => exact st_m6_6
  | 7, _ => exact st_m6_7
  | 8, _ => exact st_m6_8
  | 9, _ => exact st_m6_9
  | 10, _ => exact st_m6_10
  | 11, _ => exact st_m6_11
  | 12, _ => exact st_m6_12
  | 13, _ => exact st_m6_13
  | i + 14, h => exact absurd h (by omega)
def st_st (i : Nat) : Term := .static (["NightColander", "NightColander$Parser", "NightColander$Parser"].getD i "") (["MOST_TERM", "MOST_BEHIND", "FIRST_OF_WORD"].getD i "") "[I"
theorem st_s1 : ∀ i, i < 3 → Cond.arrayOf (st_st i) .int ∈ st_fl ∧ Cond.eq (.length (st_st i)) (.int (Int32.ofNat (zSta i).length)) ∈ st_fl := by decide +kernel
theorem st_s2 : ∀ i, i < 3 → ∀ j, j < (zSta i).length → Cond.eq (.elem (st_st i) (.int (Int32.ofNat j))) (.int ((zSta i).getD j 0)) ∈ st_fl := by decide +kernel
theorem st_c1 : Cond.eq (.static "java/lang/String" "COMPACT_STRINGS" "Z") (.int 1) ∈ st_fl := by decide +kernel
theorem st_c2 : Cond.isRef (.static "jdk/internal/util/Preconditions" "SIOOBE_FORMATTER" "Ljava/util/function/BiFunction;") ∈ st_fl := by decide +kernel
/-- the pure claim: the extracted law answers true on every script of at most 3072 numbers -/
def zN : Nat := 1000000
def zS0 (B : Nat) : zS := ([], fun _ => 99, fun _ => 0, fun _ _ => none, B)
def zM0 : zH := (fun _ _ => 0, fun _ _ => 0, fun _ _ => none)
def zPure : Prop := ∀ E : zE, eL E ≤ 3072 → ∃ (S' : zS) (M' : zH), F_La_law zN E (zS0 (eB E)) zM0 = some (true, S', M')
theorem st_arr {s : State} {args : Array Value} {ty : FieldType} (hty : ∀ C, ty ≠ .object C) (h : (Cond.arrayClass ty).before args s = true) : ∃ cA : ClassId, ArrOfT s cA ty ∧ va_RA s cA ty := by
  obtain ⟨c, k, comp, h1, h2, h3⟩ := Cond.arrayClass_spec h
  refine ⟨c, fun n z => ⟨fun k h => (by cases h), k, h2, comp, h3⟩, ?_⟩
  cases ty <;> first | exact h1 | exact absurd rfl (hty _)
theorem st_arrO {s : State} {args : Array Value} {C : String} (h : (Cond.arrayOver (.object C)).before args s = true) : ∃ cA : ClassId, ArrOfT s cA (.object C) ∧ va_RA s cA (.object C) := by
  obtain ⟨comp, c, k, h1, -, h2, h3, h4⟩ := Cond.arrayOver_spec h
  exact ⟨c, fun n z => ⟨fun k h => (by cases h), k, h2, comp, h3⟩, k, comp, h2, h3, h1, h4⟩
set_option maxHeartbeats 4000000 in
set_option maxRecDepth 100000 in
/-- the environment of a start -/
theorem st_env {s : State} {b L : Nat} {xs : Nat → Int32} (hts : ∀ w ∈ lw_tbl, w.before #[Value.ref b] s = true) (hgv : (Jvm.Cond.and given_1 narrow_1).before #[Value.ref b] s = true) (hX : va_X b L xs s s.heap) (hL : L < 2 ^ 31) (hbl : b < s.heap.size) :
    ∃ E : zE, eB E = s.heap.size ∧ eb E = b ∧ eL E = L ∧ eX E = xs ∧ zKn E s ∧ zRo E s s.heap := by
  have hA : ∀ a : Nat, a < s.heap.size → ¬ (fun q : Nat => s.heap.size ≤ q) a := fun a h => Nat.not_le.mpr h
  have hfl : ∀ c ∈ st_fl, c.before #[Value.ref b] s = true := flat_of_before _ hgv
  have htb : ∀ w ∈ zTB, w.before #[Value.ref b] s = true := fun w hw => hts w (List.mem_filter.mp hw).1
  have hcl : ∀ k : Nat, ∃ z : ClassId × (Nat → Nat), ∀ q : vw_C, zCL[k]? = some q → u_Kn s q.1 q.2.1 q.2.2 z.1 z.2 := by
    intro k
    match k with
    | 0 =>
      obtain ⟨c, i, h⟩ := u_known (n := 1) htb zin_0 (htb _ (List.mem_filter.mpr ⟨(zm_2 (List.mem_of_getElem? (i := 13) rfl)), rfl⟩ : (Cond.instantiable zR0 1) ∈ zTB))
      exact ⟨(c, i), fun q hq => by cases hq; exact h⟩
    | 1 =>
      obtain ⟨c, i, h⟩ := u_known (n := 2) htb zin_1 (htb _ (List.mem_filter.mpr ⟨(zm_1 (List.mem_of_getElem? (i := 230) rfl)), rfl⟩ : (Cond.instantiable zR1 2) ∈ zTB))
      exact ⟨(c, i), fun q hq => by cases hq; exact h⟩
    | 2 =>
      obtain ⟨c, i, h⟩ := u_known (n := 1) htb zin_2 (htb _ (List.mem_filter.mpr ⟨(zm_1 (List.mem_of_getElem? (i := 236) rfl)), rfl⟩ : (Cond.instantiable zR2 1) ∈ zTB))
      exact ⟨(c, i), fun q hq => by cases hq; exact h⟩
    | 3 =>
      obtain ⟨c, i, h⟩ := u_known (n := 15) htb zin_3 (htb _ (List.mem_filter.mpr ⟨(zm_1 (List.mem_of_getElem? (i := 31) rfl)), rfl⟩ : (Cond.instantiable zR3 15) ∈ zTB))
      exact ⟨(c, i), fun q hq => by cases hq; exact h⟩
    | 4 =>
      obtain ⟨c, i, h⟩ := u_known (n := 10) htb zin_4 (htb _ (List.mem_filter.mpr ⟨(zm_2 (List.mem_of_getElem? (i := 51) rfl)), rfl⟩ : (Cond.instantiable zR4 10) ∈ zTB))
      exact ⟨(c, i), fun q hq => by cases hq; exact h⟩
    | 5 =>
      obtain ⟨c, i, h⟩ := u_known (n := 4) htb zin_5 (htb _ (List.mem_filter.mpr ⟨(zm_1 (List.mem_of_getElem? (i := 174) rfl)), rfl⟩ : (Cond.instantiable zR5 4) ∈ zTB))
      exact ⟨(c, i), fun q hq => by cases hq; exact h⟩
    | 6 =>
      obtain ⟨c, i, h⟩ := u_known (n := 2) htb zin_6 (htb _ (List.mem_filter.mpr ⟨(zm_1 (List.mem_of_getElem? (i := 133) rfl)), rfl⟩ : (Cond.instantiable zR6 2) ∈ zTB))
      exact ⟨(c, i), fun q hq => by cases hq; exact h⟩
    | 7 =>
      obtain ⟨c, i, h⟩ := u_known (n := 6) htb zin_7 (htb _ (List.mem_filter.mpr ⟨(zm_2 (List.mem_of_getElem? (i := 23) rfl)), rfl⟩ : (Cond.instantiable zR7 6) ∈ zTB))
      exact ⟨(c, i), fun q hq => by cases hq; exact h⟩
    | 8 =>
      obtain ⟨c, i, h⟩ := u_known (n := 6) htb zin_8 (htb _ (List.mem_filter.mpr ⟨(zm_1 (List.mem_of_getElem? (i := 147) rfl)), rfl⟩ : (Cond.instantiable zR8 6) ∈ zTB))
      exact ⟨(c, i), fun q hq => by cases hq; exact h⟩
    | 9 =>
      obtain ⟨c, i, h⟩ := u_known (n := 7) htb zin_9 (htb _ (List.mem_filter.mpr ⟨(zm_1 (List.mem_of_getElem? (i := 180) rfl)), rfl⟩ : (Cond.instantiable zR9 7) ∈ zTB))
      exact ⟨(c, i), fun q hq => by cases hq; exact h⟩
    | 10 =>
      obtain ⟨c, i, h⟩ := u_known (n := 19) htb zin_10 (htb _ (List.mem_filter.mpr ⟨(zm_1 (List.mem_of_getElem? (i := 23) rfl)), rfl⟩ : (Cond.instantiable zR10 19) ∈ zTB))
      exact ⟨(c, i), fun q hq => by cases hq; exact h⟩
    | 11 =>
      obtain ⟨c, i, h⟩ := u_known (n := 57) htb zin_11 (htb _ (List.mem_filter.mpr ⟨(zm_6 (List.mem_of_getElem? (i := 2) rfl)), rfl⟩ : (Cond.instantiable zR11 57) ∈ zTB))
      exact ⟨(c, i), fun q hq => by cases hq; exact h⟩
    | k + 12 => exact ⟨(0, fun _ => 0), fun q hq => by simp [zCL] at hq⟩
  obtain ⟨yI, hyI⟩ := st_arr (ty := .int) (fun C h => by cases h) (hts (.arrayClass .int) (zm_1 (List.mem_of_getElem? (i := 129) rfl)))
  obtain ⟨yZ, hyZ⟩ := st_arr (ty := .boolean) (fun C h => by cases h) (hts (.arrayClass .boolean) (zm_1 (List.mem_of_getElem? (i := 130) rfl)))
  obtain ⟨yB, hyB⟩ := st_arr (ty := .byte) (fun C h => by cases h) (hts (.arrayClass .byte) (zm_1 (List.mem_of_getElem? (i := 172) rfl)))
  obtain ⟨yJ, hyJ⟩ := st_arr (ty := .long) (fun C h => by cases h) (hts (.arrayClass .long) (zm_2 (List.mem_of_getElem? (i := 91) rfl)))
  obtain ⟨yT, hyT⟩ := st_arrO (C := "NightColander$Text") (hts (.arrayOver (.object "NightColander$Text")) (zm_1 (List.mem_of_getElem? (i := 37) rfl)))
  obtain ⟨yN, hyN⟩ := st_arrO (C := "NightColander$Night") (hts (.arrayOver (.object "NightColander$Night")) (zm_1 (List.mem_of_getElem? (i := 131) rfl)))
  obtain ⟨f, hf⟩ := Classical.axiomOfChoice hcl
  obtain ⟨adK, adV, hvk, hadK⟩ := vk_Sof (args := #[Value.ref b]) (s := s) (N := 14) (tm := st_tm) (len := st_len) (byt := st_byt) (A := fun q => s.heap.size ≤ q) (by decide +kernel) (fun i hi => hfl _ (st_m1 i hi)) (fun i hi => hfl _ (st_m2 i hi)) (fun i hi => hfl _ (st_m3 i hi)) (fun i hi => hfl _ (st_m4 i hi)) (fun i hi j hj => hfl _ (st_m5 i hi j hj)) (fun i j hi hj hne => (st_m6 i hi j hj hne).imp (hfl _) (hfl _)) hA
  have hsta : ∀ i : Nat, ∃ t : Nat, i < 3 → (st_st i).eval #[Value.ref b] s none [] s = some (.ref t) ∧ va_T .int t (zSta i).length (fun j => .int ((zSta i).getD j 0)) (fun q => s.heap.size ≤ q) s s.heap := by
    intro i
    by_cases hi : i < 3
    · obtain ⟨t, h1, h2⟩ := va_Tof (args := #[Value.ref b]) (s := s) (tm := st_st i) (ty := .int) (N := (zSta i).length) (f := fun j => .int ((zSta i).getD j 0)) (A := fun q => s.heap.size ≤ q) (by
        match i, hi with
        | 0, _ => decide
        | 1, _ => decide
        | 2, _ => decide) (hfl _ (st_s1 i hi).1) (va_eqt (hfl _ (st_s1 i hi).2)) (fun j hj => va_eqt (hfl _ (st_s2 i hi j hj))) hA
      exact ⟨t, fun _ => ⟨h1, h2⟩⟩
    · exact ⟨0, fun h => absurd h hi⟩
  obtain ⟨ust, hust⟩ := Classical.axiomOfChoice hsta
  obtain ⟨wv, hwv⟩ : ∃ w : Option Nat, (Term.static "jdk/internal/util/Preconditions" "SIOOBE_FORMATTER" "Ljava/util/function/BiFunction;").eval #[Value.ref b] s none [] s = some (va_rf w) := by
    obtain ⟨v, hv, hr⟩ := Cond.isRef_spec (hfl _ st_c2)
    cases v with
    | null => exact ⟨none, hv⟩
    | ref a => exact ⟨some a, hv⟩
    | _ => simp [Value.isRef] at hr
  refine ⟨((fun k => (f k).1, fun k => (f k).2), (fun k => if k = 12 then yI else if k = 13 then yZ else if k = 14 then yB else if k = 15 then yJ else if k = 16 then yT else yN), s.heap.size, adK, adV, ust, b, L, xs, wv), rfl, rfl, rfl, rfl, ⟨⟨fun c q hq => hf c q hq, fun k q hk => ?_⟩, ?_, ?_, ?_, ?_, ?_⟩, ?_, ?_, ?_, ?_⟩
  · match k, hk with
    | 0, hk => cases hk; exact hyI
    | 1, hk => cases hk; exact hyZ
    | 2, hk => cases hk; exact hyB
    | 3, hk => cases hk; exact hyJ
    | 4, hk => cases hk; exact hyT
    | 5, hk => cases hk; exact hyN
    | k + 6, hk => simp [eT] at hk
  · intro w hw
    have hmem : w ∈ lw_tbl := by
      simp only [zNest, List.mem_cons, List.not_mem_nil, or_false] at hw
      rcases hw with rfl | rfl | rfl | rfl | rfl | rfl | rfl | rfl | rfl | rfl | rfl | rfl | rfl
      · exact zm_1 (List.mem_of_getElem? (i := 134) rfl)
      · exact zm_1 (List.mem_of_getElem? (i := 148) rfl)
      · exact zm_1 (List.mem_of_getElem? (i := 231) rfl)
      · exact zm_1 (List.mem_of_getElem? (i := 237) rfl)
      · exact zm_2 (List.mem_of_getElem? (i := 29) rfl)
      · exact zm_3 (List.mem_of_getElem? (i := 0) rfl)
      · exact zm_3 (List.mem_of_getElem? (i := 210) rfl)
      · exact zm_3 (List.mem_of_getElem? (i := 227) rfl)
      · exact zm_4 (List.mem_of_getElem? (i := 98) rfl)
      · exact zm_4 (List.mem_of_getElem? (i := 177) rfl)
      · exact zm_4 (List.mem_of_getElem? (i := 178) rfl)
      · exact zm_4 (List.mem_of_getElem? (i := 179) rfl)
      · exact zm_5 (List.mem_of_getElem? (i := 53) rfl)
    exact va_Nw.of (zNest_on w hw) (hts w hmem)
  · intro q hq
    simp only [eRR, List.mem_cons, List.not_mem_nil, or_false] at hq
    rcases hq with rfl | rfl | rfl | rfl | rfl | rfl | rfl | rfl | rfl | rfl | rfl | rfl | rfl | rfl
    · exact vk_R.of (hts (.stringRef "NightColander$Parser" 56 "block ream set pass ") (zm_3 (List.mem_of_getElem? (i := 108) rfl))) (hadK 0 (by decide))
    · exact vk_R.of (hts (.stringRef "NightColander$Parser" 58 "runs leaks pays bars ") (zm_3 (List.mem_of_getElem? (i := 109) rfl))) (hadK 1 (by decide))
    · exact vk_R.of (hts (.stringRef "NightColander$Parser" 93 "at") (zm_3 (List.mem_of_getElem? (i := 180) rfl))) (hadK 2 (by decide))
    · exact vk_R.of (hts (.stringRef "NightColander$Parser" 95 "of") (zm_3 (List.mem_of_getElem? (i := 181) rfl))) (hadK 3 (by decide))
    · exact vk_R.of (hts (.stringRef "NightColander$Parser" 155 "hour done latest caught turn level flow ") (zm_3 (List.mem_of_getElem? (i := 219) rfl))) (hadK 4 (by decide))
    · exact vk_R.of (hts (.stringRef "NightColander$Parser" 157 "ring hole bore field bucket level hour wet mood ") (zm_3 (List.mem_of_getElem? (i := 220) rfl))) (hadK 5 (by decide))
    · exact vk_R.of (hts (.stringRef "NightColander$Parser" 150 "*/%") (zm_3 (List.mem_of_getElem? (i := 235) rfl))) (hadK 6 (by decide))
    · exact vk_R.of (hts (.stringRef "NightColander$Parser" 145 "+-") (zm_4 (List.mem_of_getElem? (i := 55) rfl))) (hadK 7 (by decide))
    · exact vk_R.of (hts (.stringRef "NightColander$Parser" 100 "times") (zm_4 (List.mem_of_getElem? (i := 61) rfl))) (hadK 8 (by decide))
    · exact vk_R.of (hts (.stringRef "NightColander$Parser" 75 "if") (zm_4 (List.mem_of_getElem? (i := 70) rfl))) (hadK 9 (by decide))
    · exact vk_R.of (hts (.stringRef "NightColander$Parser" 129 "not") (zm_4 (List.mem_of_getElem? (i := 83) rfl))) (hadK 10 (by decide))
    · exact vk_R.of (hts (.stringRef "NightColander$Parser" 137 "<>=") (zm_4 (List.mem_of_getElem? (i := 92) rfl))) (hadK 11 (by decide))
    · exact vk_R.of (hts (.stringRef "NightColander$Parser" 127 "and") (zm_4 (List.mem_of_getElem? (i := 93) rfl))) (hadK 12 (by decide))
    · exact vk_R.of (hts (.stringRef "NightColander$Parser" 115 "or") (zm_4 (List.mem_of_getElem? (i := 99) rfl))) (hadK 13 (by decide))
  · exact va_AO.of (hts _ (zm_1 (List.mem_of_getElem? (i := 37) rfl)))
  · exact va_AO.of (hts _ (zm_1 (List.mem_of_getElem? (i := 131) rfl)))
  · exact va_Nw.of rfl (hts _ (zm_4 (List.mem_of_getElem? (i := 128) rfl)))
  · intro q hq
    simp only [eRZ, List.mem_cons, List.not_mem_nil, or_false] at hq
    rcases hq with rfl | rfl | rfl | rfl | rfl
    · exact va_Zref (hts _ (zm_3 (List.mem_of_getElem? (i := 43) rfl))) (hts _ (zm_1 (List.mem_of_getElem? (i := 1) rfl))) (hust 0 (by decide)).1 hA
    · exact va_Zref (hts _ (zm_3 (List.mem_of_getElem? (i := 226) rfl))) (hts _ (zm_1 (List.mem_of_getElem? (i := 6) rfl))) (hust 1 (by decide)).1 hA
    · exact va_Zref (hts _ (zm_3 (List.mem_of_getElem? (i := 229) rfl))) (hts _ (zm_1 (List.mem_of_getElem? (i := 6) rfl))) (hust 2 (by decide)).1 hA
    · exact va_Zof (hts _ (zm_3 (List.mem_of_getElem? (i := 123) rfl))) (hts _ (zm_1 (List.mem_of_getElem? (i := 15) rfl))) (va_eqt (hfl _ st_c1)) hA
    · exact va_Zof (hts _ (zm_3 (List.mem_of_getElem? (i := 139) rfl))) (hts _ (zm_1 (List.mem_of_getElem? (i := 17) rfl))) hwv hA
  · intro q hq
    rcases List.mem_cons.mp hq with rfl | hq
    · obtain ⟨scr, h1, h2, h3, h4, h5⟩ := hX
      exact ⟨scr, h1, h2, h3, by rw [h4]; exact Nat.le_refl _, by rw [h4]; rfl, fun j hj => h5 j hj, Nat.not_le.mpr hbl⟩
    · rcases List.mem_append.mp hq with hq | hq
      · obtain ⟨i, hi, rfl⟩ := List.mem_map.mp hq
        exact (hust i (List.mem_range.mp hi)).2
      · obtain ⟨i, hi, rfl⟩ := List.mem_map.mp hq
        have h1 := (hvk.1 i (List.mem_range.mp hi)).2.2.2
        rw [(st_len_ok i (List.mem_range.mp hi)).1, (st_len_ok i (List.mem_range.mp hi)).2] at h1
        exact h1
  · intro q hq
    obtain ⟨i, hi, rfl⟩ := List.mem_map.mp hq
    exact (hvk.1 i (List.mem_range.mp hi)).1
  · intro q hq
    rcases List.mem_append.mp hq with hq | hq
    · obtain ⟨i, hi, rfl⟩ := List.mem_map.mp hq
      exact (hvk.1 i (List.mem_range.mp hi)).2.1
    · obtain ⟨i, hi, rfl⟩ := List.mem_map.mp hq
      exact (hvk.1 i (List.mem_range.mp hi)).2.2.1
set_option maxHeartbeats 4000000 in
/-- THE LAW, from its entry, given the pure claim -/
theorem whole_start_open (hpure : zPure) {p : Program} {e : Env} {s : State} {m : MethodId} {below : List Frame} {meth : Method} {c : Code} (l : Launch) {b L : Nat} {xs : Nat → Int32} (hL : L ≤ 3072) (C0 : lw_At p s m meth c b L xs) : W p l e room_1 s m #[Value.ref b] below meth c s.heap [] 0 0 (lw_Z below #[Value.ref b] s) (entryFrame m ([Value.ref b] : List Value).toArray 4) := by
  obtain ⟨hx, hb, hr, hml, hown, hts, hX, hbl, hlocks, hgv, hcode, hnm⟩ := id C0
  obtain ⟨E, eB0, eb0, eL0, eX0, hKn, hRo⟩ := st_env hts hgv hX (by omega) hbl
  obtain ⟨S', M', hF⟩ := hpure E (by rw [eL0]; exact hL)
  have hG := K_La_law zN E (zS0 (eB E)) zM0 true S' M' hF
  have htb : ∀ w ∈ zws Y_La_law, w.before #[Value.ref b] s = true := by
    intro w hw
    rcases List.mem_cons.mp hw with rfl | hw
    · exact hcode
    · exact hts w (List.mem_filter.mp hw).1
  have hle := lv_entry ([.ref b]) (n := 4) (Nat.le_of_ble_eq_true rfl)
  rw [lg_entry_eq]
  refine hG p l e room_1 s m #[Value.ref b] below meth c _ s.heap [] _ ⟨⟨hx, hb, hml, hown, htb⟩, hr, hlocks, hnm, hKn, hRo, by rw [eB0]; exact Nat.le_refl _⟩ ⟨by decide, by decide, by decide, by decide⟩ ?_ ?_ va_S.rf (by rw [eb0]; exact hle)
  · intro H1 locs1 ls1 pc1 hP1 hS1 hd
    refine va_forget (fun q hq => by have := hS1.2.2 q hq; rw [show eA E q.base = (eB E ≤ q.base) from rfl, eB0] at this; exact this) ?_
    refine W.widen (k := 600000) (n := 7302250) (by decide) (by decide) ?_
    exact lw_ret hx hb hr hlocks hd
  · refine ⟨fun k q h => by simp [zpool, va_pl, zS0, sL] at h, ⟨fun i j p q h => by simp [zpool, va_pl, zS0, sL] at h, fun k q h => by simp [zpool, va_pl, zS0, sL] at h⟩, by rw [eB0]; rfl, fun a h => by simp [zS0, sK] at h⟩
