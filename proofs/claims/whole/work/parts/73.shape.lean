/-! THE SHAPE of the start: a table by offsets (printed by gen/shape.py) -/
def tK : Nat → Nat := fun i => match i with
  | 0 => 10
  | 1 => 3
  | 2 => 12
  | 3 => 13
  | 4 => 12
  | 5 => 12
  | 6 => 12
  | 7 => 12
  | 8 => 12
  | 9 => 12
  | 10 => 12
  | 11 => 12
  | 12 => 16
  | 13 => 17
  | 14 => 3
  | 15 => 12
  | 16 => 13
  | 17 => 12
  | 18 => 12
  | 19 => 12
  | 20 => 12
  | 21 => 12
  | 22 => 12
  | 23 => 12
  | 24 => 12
  | 25 => 16
  | 26 => 3
  | 27 => 12
  | 28 => 13
  | 29 => 12
  | 30 => 12
  | 31 => 12
  | 32 => 12
  | 33 => 12
  | 34 => 12
  | 35 => 12
  | 36 => 12
  | 37 => 16
  | 38 => 13
  | 39 => 3
  | 40 => 12
  | 41 => 13
  | 42 => 12
  | 43 => 12
  | 44 => 12
  | 45 => 12
  | 46 => 12
  | 47 => 12
  | 48 => 12
  | 49 => 12
  | 50 => 16
  | 51 => 3
  | 52 => 12
  | 53 => 13
  | 54 => 12
  | 55 => 12
  | 56 => 12
  | 57 => 12
  | 58 => 12
  | 59 => 12
  | 60 => 12
  | 61 => 12
  | 62 => 16
  | 63 => 6
  | 64 => 12
  | 65 => 6
  | 66 => 12
  | 67 => 8
  | 68 => 14
  | 69 => 5
  | 70 => 9
  | 71 => 12
  | 72 => 12
  | 73 => 12
  | 74 => 12
  | 75 => 12
  | 76 => 1
  | 77 => 2
  | 78 => 12
  | 79 => 12
  | 80 => 0
  | 81 => 7
  | 82 => 2
  | 83 => 12
  | 84 => 12
  | 85 => 4
  | 86 => 3
  | 87 => 12
  | 88 => 13
  | 89 => 12
  | 90 => 12
  | 91 => 12
  | 92 => 12
  | 93 => 12
  | 94 => 12
  | 95 => 12
  | 96 => 12
  | 97 => 16
  | 98 => 12
  | 99 => 12
  | 100 => 12
  | 101 => 12
  | 102 => 12
  | 103 => 15
  | 104 => 12
  | 105 => 11
  | 106 => 12
  | 107 => 12
  | 108 => 12
  | 109 => 13
  | 110 => 12
  | 111 => 12
  | 112 => 12
  | 113 => 12
  | 114 => 12
  | 115 => 12
  | 116 => 12
  | 117 => 12
  | 118 => 12
  | 119 => 12
  | 120 => 15
  | 121 => 15
  | 122 => 15
  | 123 => 15
  | 124 => 15
  | 125 => 15
  | 126 => 12
  | 127 => 12
  | 128 => 12
  | 129 => 12
  | 130 => 12
  | 131 => 12
  | 132 => 15
  | 133 => 15
  | 134 => 12
  | 135 => 12
  | _ => 99
def tN : Nat → Nat := fun i => match i with
  | 2 => 32
  | 3 => 32
  | 4 => 4
  | 5 => 3
  | 6 => 3
  | 7 => 3
  | 8 => 8
  | 9 => 6
  | 10 => 6
  | 11 => 4
  | 12 => 6
  | 13 => 2
  | 15 => 32
  | 16 => 32
  | 17 => 4
  | 18 => 3
  | 19 => 3
  | 20 => 3
  | 21 => 8
  | 22 => 6
  | 23 => 6
  | 24 => 4
  | 25 => 6
  | 27 => 32
  | 28 => 32
  | 29 => 4
  | 30 => 3
  | 31 => 3
  | 32 => 3
  | 33 => 8
  | 34 => 6
  | 35 => 6
  | 36 => 4
  | 37 => 6
  | 38 => 2
  | 40 => 32
  | 41 => 32
  | 42 => 4
  | 43 => 3
  | 44 => 3
  | 45 => 3
  | 46 => 8
  | 47 => 6
  | 48 => 6
  | 49 => 4
  | 50 => 6
  | 52 => 32
  | 53 => 32
  | 54 => 4
  | 55 => 3
  | 56 => 3
  | 57 => 3
  | 58 => 8
  | 59 => 6
  | 60 => 6
  | 61 => 4
  | 62 => 6
  | 64 => 96
  | 66 => 96
  | 68 => 400
  | 71 => 400
  | 72 => 12
  | 73 => 12
  | 74 => 12
  | 75 => 48
  | 78 => 64
  | 79 => 9
  | 83 => 64
  | 84 => 19
  | 87 => 32
  | 88 => 32
  | 89 => 4
  | 90 => 3
  | 91 => 3
  | 92 => 3
  | 93 => 8
  | 94 => 6
  | 95 => 6
  | 96 => 4
  | 97 => 6
  | 98 => 256
  | 99 => 72
  | 100 => 24
  | 101 => 512
  | 102 => 401
  | 103 => 20
  | 104 => 5
  | 106 => 7
  | 107 => 5480
  | 108 => 10960
  | 109 => 2
  | 110 => 900
  | 111 => 16
  | 112 => 800
  | 113 => 16
  | 114 => 400
  | 115 => 96
  | 116 => 400
  | 117 => 400
  | 118 => 400
  | 119 => 400
  | 120 => 9
  | 121 => 7
  | 122 => 4
  | 123 => 13
  | 124 => 13
  | 125 => 400
  | 126 => 8
  | 127 => 24
  | 128 => 4
  | 129 => 3
  | 130 => 256
  | 131 => 401
  | 132 => 21
  | 133 => 4
  | 134 => 96
  | 135 => 11
  | _ => 0
def tF : Nat → Nat → Nat := fun i j => match i, j with
  | 0, 0 => 1
  | 0, 1 => 13
  | 0, 2 => 38
  | 0, 3 => 39
  | 0, 4 => 51
  | 0, 5 => 63
  | 0, 6 => 65
  | 0, 7 => 67
  | 0, 8 => 69
  | 0, 9 => 76
  | 0, 10 => 80
  | 0, 11 => 81
  | 0, 12 => 85
  | 0, 13 => 104
  | 1, 0 => 2
  | 1, 1 => 3
  | 1, 2 => 4
  | 1, 3 => 5
  | 1, 4 => 6
  | 1, 5 => 7
  | 1, 6 => 8
  | 1, 7 => 9
  | 1, 8 => 10
  | 1, 9 => 11
  | 1, 10 => 12
  | 14, 0 => 15
  | 14, 1 => 16
  | 14, 2 => 17
  | 14, 3 => 18
  | 14, 4 => 19
  | 14, 5 => 20
  | 14, 6 => 21
  | 14, 7 => 22
  | 14, 8 => 23
  | 14, 9 => 24
  | 14, 10 => 25
  | 26, 0 => 27
  | 26, 1 => 28
  | 26, 2 => 29
  | 26, 3 => 30
  | 26, 4 => 31
  | 26, 5 => 32
  | 26, 6 => 33
  | 26, 7 => 34
  | 26, 8 => 35
  | 26, 9 => 36
  | 26, 10 => 37
  | 39, 0 => 40
  | 39, 1 => 41
  | 39, 2 => 42
  | 39, 3 => 43
  | 39, 4 => 44
  | 39, 5 => 45
  | 39, 6 => 46
  | 39, 7 => 47
  | 39, 8 => 48
  | 39, 9 => 49
  | 39, 10 => 50
  | 51, 0 => 52
  | 51, 1 => 53
  | 51, 2 => 54
  | 51, 3 => 55
  | 51, 4 => 56
  | 51, 5 => 57
  | 51, 6 => 58
  | 51, 7 => 59
  | 51, 8 => 60
  | 51, 9 => 61
  | 51, 10 => 62
  | 63, 0 => 64
  | 65, 0 => 66
  | 67, 0 => 68
  | 69, 0 => 70
  | 69, 1 => 67
  | 70, 0 => 71
  | 70, 1 => 72
  | 70, 2 => 73
  | 70, 3 => 74
  | 70, 4 => 75
  | 76, 0 => 77
  | 76, 1 => 79
  | 77, 0 => 78
  | 80, 0 => 76
  | 81, 0 => 76
  | 81, 1 => 80
  | 81, 2 => 82
  | 81, 3 => 84
  | 82, 0 => 83
  | 85, 0 => 76
  | 85, 1 => 86
  | 85, 2 => 98
  | 85, 3 => 99
  | 85, 4 => 100
  | 85, 5 => 101
  | 85, 6 => 102
  | 85, 7 => 103
  | 86, 0 => 87
  | 86, 1 => 88
  | 86, 2 => 89
  | 86, 3 => 90
  | 86, 4 => 91
  | 86, 5 => 92
  | 86, 6 => 93
  | 86, 7 => 94
  | 86, 8 => 95
  | 86, 9 => 96
  | 86, 10 => 97
  | 105, 2 => 106
  | 105, 3 => 107
  | 105, 4 => 108
  | 105, 5 => 109
  | 105, 6 => 110
  | 105, 7 => 111
  | 105, 9 => 112
  | 105, 10 => 113
  | 105, 12 => 114
  | 105, 22 => 115
  | 105, 24 => 116
  | 105, 25 => 117
  | 105, 27 => 118
  | 105, 28 => 119
  | 105, 31 => 120
  | 105, 32 => 121
  | 105, 33 => 122
  | 105, 35 => 123
  | 105, 36 => 124
  | 105, 37 => 125
  | 105, 41 => 126
  | 105, 42 => 127
  | 105, 43 => 128
  | 105, 44 => 129
  | 105, 45 => 130
  | 105, 46 => 131
  | 105, 47 => 132
  | 105, 48 => 133
  | 105, 49 => 134
  | 105, 55 => 135
  | _, _ => 0
/-- the cells of the start lie at B and on, as the table says -/
def ShOK (S : zS) (B : Nat) : Prop := ∀ i, i < 136 → sK S (B + i) = tK i ∧ sN S (B + i) = tN i ∧ ∀ j, tF i j ≠ 0 → sF S (B + i) j = some (B + tF i j)
theorem ShOK.k {S : zS} {B : Nat} (h : ShOK S B) (i : Nat) (hi : i < 136) : sK S (B + i) = tK i := (h i hi).1
theorem ShOK.n {S : zS} {B : Nat} (h : ShOK S B) (i : Nat) (hi : i < 136) : sN S (B + i) = tN i := (h i hi).2.1
theorem ShOK.f {S : zS} {B : Nat} (h : ShOK S B) (i j : Nat) (hi : i < 136) (hj : tF i j ≠ 0) : sF S (B + i) j = some (B + tF i j) := (h i hi).2.2 j hj
/-- lengths and kinds of a night's arrays -/
def nln : Nat → Nat := fun c => match c with
  | 0 => 32
  | 1 => 32
  | 2 => 4
  | 3 => 3
  | 4 => 3
  | 5 => 3
  | 6 => 8
  | 7 => 6
  | 8 => 6
  | 9 => 4
  | 10 => 6
  | _ => 0
def nkd : Nat → Nat := fun c => if c = 1 then 13 else if c = 10 then 16 else 12
def NiS (S : zS) (a : Nat) : Prop := sK S a = 3 ∧ ∀ c, c < 11 → sF S a c = some (a + 1 + c) ∧ sK S (a + 1 + c) = nkd c ∧ sN S (a + 1 + c) = nln c
theorem NiS.of {S : zS} {B : Nat} (h : ShOK S B) (o : Nat) (ho : o + 11 < 136) (hk : tK o = 3) (hc : ∀ c, c < 11 → tF o c = o + 1 + c ∧ tK (o + 1 + c) = nkd c ∧ tN (o + 1 + c) = nln c) : NiS S (B + o) := by
  refine ⟨(h.k o (by omega)).trans hk, fun c hcc => ?_⟩
  obtain ⟨h1, h2, h3⟩ := hc c hcc
  have e : B + o + 1 + c = B + (o + 1 + c) := by omega
  rw [e]
  refine ⟨?_, (h.k _ (by omega)).trans h2, (h.n _ (by omega)).trans h3⟩
  rw [h.f o c (by omega) (by omega), h1]
theorem ShOK.now {S : zS} {B : Nat} (h : ShOK S B) : NiS S (B + 1) := NiS.of h 1 (by decide) rfl (by decide)
theorem ShOK.im0 {S : zS} {B : Nat} (h : ShOK S B) : NiS S (B + 14) := NiS.of h 14 (by decide) rfl (by decide)
theorem ShOK.im1 {S : zS} {B : Nat} (h : ShOK S B) : NiS S (B + 26) := NiS.of h 26 (by decide) rfl (by decide)
theorem ShOK.yea {S : zS} {B : Nat} (h : ShOK S B) : NiS S (B + 39) := NiS.of h 39 (by decide) rfl (by decide)
theorem ShOK.ahe {S : zS} {B : Nat} (h : ShOK S B) : NiS S (B + 51) := NiS.of h 51 (by decide) rfl (by decide)
theorem ShOK.ske {S : zS} {B : Nat} (h : ShOK S B) : NiS S (B + 86) := NiS.of h 86 (by decide) rfl (by decide)
/-! the primitives, with places as iI x -/
theorem pi_ix {x : Int} {L : Nat} (h0 : 0 ≤ x) (h : x < L) (hL : L ≤ 100000) : ¬ (iI x < 0 ∨ L ≤ (iI x).toNatClampNeg) := by
  obtain ⟨k, rfl⟩ := Int.eq_ofNat_of_zero_le h0
  rw [iI_nat]
  exact pz_ix (by omega) hL
theorem pi_ldI {S : zS} {M : zH} {a L : Nat} {x : Int} (hk : sK S a = 12) (hn : sN S a = L) (h0 : 0 ≤ x) (hx : x < L) (hL : L ≤ 100000) : zldI S M a (iI x) = some (mI M a x.toNat) := by
  obtain ⟨k, rfl⟩ := Int.eq_ofNat_of_zero_le h0
  rw [iI_nat]
  exact pz_ldI hk hn (by omega) hL
theorem pi_ldZ {S : zS} {M : zH} {a L : Nat} {x : Int} (hk : sK S a = 13) (hn : sN S a = L) (h0 : 0 ≤ x) (hx : x < L) (hL : L ≤ 100000) : zldZ S M a (iI x) = some (mI M a x.toNat) := by
  obtain ⟨k, rfl⟩ := Int.eq_ofNat_of_zero_le h0
  rw [iI_nat]
  exact pz_ldZ hk hn (by omega) hL
theorem pi_ldB {S : zS} {M : zH} {a L : Nat} {x : Int} (hk : sK S a = 14) (hn : sN S a = L) (h0 : 0 ≤ x) (hx : x < L) (hL : L ≤ 100000) : zldB S M a (iI x) = some (mI M a x.toNat) := by
  obtain ⟨k, rfl⟩ := Int.eq_ofNat_of_zero_le h0
  rw [iI_nat]
  exact pz_ldB hk hn (by omega) hL
theorem pi_ldJ {S : zS} {M : zH} {a L : Nat} {x : Int} (hk : sK S a = 15) (hn : sN S a = L) (h0 : 0 ≤ x) (hx : x < L) (hL : L ≤ 100000) : zldJ S M a (iI x) = some (mJ M a x.toNat) := by
  obtain ⟨k, rfl⟩ := Int.eq_ofNat_of_zero_le h0
  rw [iI_nat]
  exact pz_ldJ hk hn (by omega) hL
theorem pi_ldR {S : zS} {M : zH} {c a L : Nat} {x : Int} (hk : sK S a = c) (hn : sN S a = L) (h0 : 0 ≤ x) (hx : x < L) (hL : L ≤ 100000) : zldR S M c a (iI x) = some (mR M a x.toNat) := by
  obtain ⟨k, rfl⟩ := Int.eq_ofNat_of_zero_le h0
  rw [iI_nat]
  exact pz_ldR hk hn (by omega) hL
theorem pi_stI {S : zS} {M : zH} {a L : Nat} {x : Int} {v : Int32} (hk : sK S a = 12) (hn : sN S a = L) (h0 : 0 ≤ x) (hx : x < L) (hL : L ≤ 100000) : zstI S M a (iI x) v = some (setI M a x.toNat v) := by
  obtain ⟨k, rfl⟩ := Int.eq_ofNat_of_zero_le h0
  rw [iI_nat]
  exact pz_stI hk hn (by omega) hL
theorem pi_stZ {S : zS} {M : zH} {a L : Nat} {x : Int} {v : Int32} (hk : sK S a = 13) (hn : sN S a = L) (h0 : 0 ≤ x) (hx : x < L) (hL : L ≤ 100000) : zstZ S M a (iI x) v = some (setI M a x.toNat (vp_nar .boolean v)) := by
  obtain ⟨k, rfl⟩ := Int.eq_ofNat_of_zero_le h0
  rw [iI_nat]
  exact pz_stZ hk hn (by omega) hL
theorem pi_stB {S : zS} {M : zH} {a L : Nat} {x : Int} {v : Int32} (hk : sK S a = 14) (hn : sN S a = L) (h0 : 0 ≤ x) (hx : x < L) (hL : L ≤ 100000) : zstB S M a (iI x) v = some (setI M a x.toNat (vp_nar .byte v)) := by
  obtain ⟨k, rfl⟩ := Int.eq_ofNat_of_zero_le h0
  rw [iI_nat]
  exact pz_stB hk hn (by omega) hL
theorem pi_stJ {S : zS} {M : zH} {a L : Nat} {x : Int} {v : Int64} (hk : sK S a = 15) (hn : sN S a = L) (h0 : 0 ≤ x) (hx : x < L) (hL : L ≤ 100000) : zstJ S M a (iI x) v = some (setJ M a x.toNat v) := by
  obtain ⟨k, rfl⟩ := Int.eq_ofNat_of_zero_le h0
  rw [iI_nat]
  exact pz_stJ hk hn (by omega) hL
