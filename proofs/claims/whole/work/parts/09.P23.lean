/-! 09.P23: counting bits -/
def bsh (x : Int64) (c : Int32) : Int64 := (x.toUInt64 >>> (c.toInt64.toUInt64 &&& Int64.toUInt64 63)).toInt64
def bc1 (x : Int64) : Int64 := x - (bsh x 1 &&& 6148914691236517205)
def bc2 (x : Int64) : Int64 := (x &&& 3689348814741910323) + (bsh x 2 &&& 3689348814741910323)
def bc3 (x : Int64) : Int64 := (x + bsh x 4) &&& 1085102592571150095
def bc4 (x : Int64) : Int64 := x + bsh x 8
def bc5 (x : Int64) : Int64 := x + bsh x 16
def bc6 (x : Int64) : Int64 := x + bsh x 32
theorem bc_def (x : Int64) : mN_bitCount_95d88 x = ((bc6 (bc5 (bc4 (bc3 (bc2 (bc1 x)))))).toInt32 &&& 127) := rfl
def zn (x : Int64) : Nat := x.toBitVec.toNat
theorem zn_lt (x : Int64) : zn x < 18446744073709551616 := x.toBitVec.isLt
theorem zn_and (x y : Int64) : zn (x &&& y) = zn x &&& zn y := by
  unfold zn
  rw [Int64.toBitVec_and, BitVec.toNat_and]
theorem zn_add {x y : Int64} (h : zn x + zn y < 18446744073709551616) : zn (x + y) = zn x + zn y := by
  unfold zn at *
  rw [Int64.toBitVec_add, BitVec.toNat_add]
  exact Nat.mod_eq_of_lt h
theorem zn_sub {x y : Int64} (h : zn y ≤ zn x) : zn (x - y) = zn x - zn y := by
  have h1 := zn_lt x
  have h2 := zn_lt y
  unfold zn at *
  rw [Int64.toBitVec_sub, BitVec.toNat_sub]
  omega
theorem zn_sh (x : Int64) {c : Int32} (h0 : 0 ≤ c.toInt) (h1 : c.toInt < 64) : zn (bsh x c) = zn x / 2 ^ c.toInt.toNat := by
  have e := sh_b c.toInt.toNat (by omega)
  rw [z_ofNat h0] at e
  unfold zn bsh
  show (x.toUInt64 >>> (c.toInt64.toUInt64 &&& Int64.toUInt64 63)).toBitVec.toNat = _
  rw [UInt64.toBitVec_shiftRight]
  show (x.toBitVec >>> ((c.toInt64.toUInt64 &&& Int64.toUInt64 63).toBitVec % 64#64).toNat).toNat = _
  rw [e, BitVec.toNat_ushiftRight, Nat.shiftRight_eq_div_pow]
def mk (c : Nat) : Nat → Nat
  | 0 => 0
  | k + 1 => c + 256 * mk c k
def n1 (k X : Nat) : Nat := X - (X / 2 &&& mk 85 k)
def n2 (k X : Nat) : Nat := (X &&& mk 51 k) + (X / 4 &&& mk 51 k)
def n3 (k X : Nat) : Nat := (X + X / 16) &&& mk 15 k
theorem land8 (A B : Nat) : A &&& B = ((A % 256) &&& (B % 256)) + 256 * ((A / 256) &&& (B / 256)) := by
  have h1 : (A &&& B) % 256 = (A % 256) &&& (B % 256) := Nat.and_mod_two_pow (n := 8)
  have h2 : (A &&& B) / 256 = (A / 256) &&& (B / 256) := Nat.and_div_two_pow (n := 8)
  rw [← h1, ← h2]
  omega
theorem land_mk {c : Nat} (hc : c < 256) (k a Y : Nat) (ha : a < 256) : (a + 256 * Y) &&& mk c (k + 1) = (a &&& c) + 256 * (Y &&& mk c k) := by
  rw [land8]
  have e1 : (a + 256 * Y) % 256 = a := by omega
  have e2 : (a + 256 * Y) / 256 = Y := by omega
  have e3 : mk c (k + 1) % 256 = c := by show (c + 256 * mk c k) % 256 = c; omega
  have e4 : mk c (k + 1) / 256 = mk c k := by show (c + 256 * mk c k) / 256 = mk c k; omega
  rw [e1, e2, e3, e4]
theorem d1 : ∀ b, b < 256 → ∀ c, c < 2 → (b / 2 + 128 * c) &&& 85 = b / 2 &&& 85 := by decide +kernel
theorem d2 : ∀ b, b < 256 → ∀ c, c < 4 → (b / 4 + 64 * c) &&& 51 = b / 4 &&& 51 := by decide +kernel
/-- the bits of a byte -/
def pcb (b : Nat) : Nat := n3 1 (n2 1 (n1 1 b))
theorem d3 : ∀ b, b < 256 → (n1 1 b < 256 ∧ (b / 2 &&& 85) ≤ b) ∧ n2 1 (n1 1 b) % 16 ≤ 4 ∧ n2 1 (n1 1 b) / 16 ≤ 4 ∧ pcb b ≤ 8 := by decide +kernel
theorem d4 : ∀ b, b < 256 → pcb b = zcnt b.testBit 8 := by decide +kernel
theorem s1 (k b Y : Nat) (hb : b < 256) : n1 (k + 1) (b + 256 * Y) = n1 1 b + 256 * n1 k Y := by
  have e : (b + 256 * Y) / 2 = (b / 2 + 128 * (Y % 2)) + 256 * (Y / 2) := by omega
  have h1 := (d3 b hb).1.2
  have h2 : Y / 2 &&& mk 85 k ≤ Y / 2 := Nat.and_le_left
  have e1 : n1 1 b = b - (b / 2 &&& 85) := rfl
  unfold n1 at e1 ⊢
  rw [e1, e, land_mk (by omega) _ _ _ (by omega), d1 b hb _ (by omega)]
  omega
theorem s2 (k g I : Nat) (hg : g < 256) : n2 (k + 1) (g + 256 * I) = n2 1 g + 256 * n2 k I := by
  have e : (g + 256 * I) / 4 = (g / 4 + 64 * (I % 4)) + 256 * (I / 4) := by omega
  have e1 : n2 1 g = (g &&& 51) + (g / 4 &&& 51) := rfl
  unfold n2 at e1 ⊢
  rw [e1, e, land_mk (by omega) _ _ _ hg, land_mk (by omega) _ _ _ (by omega), d2 g hg _ (by omega)]
  omega
theorem s3 (k g I : Nat) (h1 : g % 16 ≤ 4) (h2 : g / 16 ≤ 4) (hI : I % 16 ≤ 4) : n3 (k + 1) (g + 256 * I) = n3 1 g + 256 * n3 k I := by
  have e : (g + 256 * I) + (g + 256 * I) / 16 = (g + g / 16 + 16 * (I % 16)) + 256 * (I + I / 16) := by omega
  have e1 : n3 1 g = (g + g / 16) &&& 15 := rfl
  have m1 := Nat.and_two_pow_sub_one_eq_mod (g + g / 16) 4
  have m2 := Nat.and_two_pow_sub_one_eq_mod (g + g / 16 + 16 * (I % 16)) 4
  unfold n3 at e1 ⊢
  rw [e1, e, land_mk (by omega) _ _ _ (by omega)]
  have m1' : (g + g / 16) &&& 15 = (g + g / 16) % 16 := m1
  have m2' : (g + g / 16 + 16 * (I % 16)) &&& 15 = (g + g / 16 + 16 * (I % 16)) % 16 := m2
  rw [m1', m2']
  omega
def fb : Nat → Nat → Nat
  | 0, _ => 0
  | k + 1, X => pcb (X % 256) + 256 * fb k (X / 256)
def ps : Nat → Nat → Nat
  | 0, _ => 0
  | k + 1, X => pcb (X % 256) + ps k (X / 256)
theorem fb_ok : ∀ (k X : Nat), n2 k (n1 k X) % 16 ≤ 4 ∧ n3 k (n2 k (n1 k X)) = fb k X
  | 0, X => by
    have e : ∀ y, n2 0 y = 0 := fun y => by show (y &&& 0) + (y / 4 &&& 0) = 0; simp
    have e3 : n3 0 0 = 0 := by decide
    rw [e, e3]
    exact ⟨by decide, rfl⟩
  | k + 1, X => by
    obtain ⟨i1, i2⟩ := fb_ok k (X / 256)
    have hb : X % 256 < 256 := by omega
    obtain ⟨⟨q1, q2⟩, q3, q4, q5⟩ := d3 (X % 256) hb
    have hX : X = X % 256 + 256 * (X / 256) := by omega
    have a1 : n1 (k + 1) X = n1 1 (X % 256) + 256 * n1 k (X / 256) := by
      conv => lhs; rw [hX]
      exact s1 k _ _ hb
    have a2 : n2 (k + 1) (n1 (k + 1) X) = n2 1 (n1 1 (X % 256)) + 256 * n2 k (n1 k (X / 256)) := by
      rw [a1]
      exact s2 k _ _ q1
    have a3 : n3 (k + 1) (n2 (k + 1) (n1 (k + 1) X)) = pcb (X % 256) + 256 * n3 k (n2 k (n1 k (X / 256))) := by
      rw [a2]
      exact s3 k _ _ q3 q4 i1
    refine ⟨by rw [a2]; omega, ?_⟩
    rw [a3, i2]
    rfl
theorem ps_ok : ∀ (k X : Nat), zcnt X.testBit (8 * k) = ps k X
  | 0, _ => rfl
  | k + 1, X => by
    have h := zcnt_add X.testBit 8 (8 * k)
    rw [show 8 * (k + 1) = 8 + 8 * k by omega, h, d4' X, zcnt_cg (fun j _ => show X.testBit (8 + j) = (X / 256).testBit j by
      have := Nat.testBit_div_two_pow (n := 8) X j
      rw [Nat.add_comm, ← this]), ps_ok k (X / 256)]
    rfl
where
  d4' (X : Nat) : zcnt X.testBit 8 = pcb (X % 256) := by
    rw [d4 _ (by omega)]
    refine zcnt_cg (fun j hj => ?_)
    have := Nat.testBit_mod_two_pow X 8 j
    rw [show (X % 2 ^ 8) = X % 256 from rfl] at this
    rw [this, decide_eq_true hj]
    rfl
theorem tail_ok (X : Nat) : ((fb 8 X + fb 8 X / 256 + (fb 8 X + fb 8 X / 256) / 65536) + (fb 8 X + fb 8 X / 256 + (fb 8 X + fb 8 X / 256) / 65536) / 4294967296) % 128 = ps 8 X ∧ fb 8 X ≤ 1085102592571150095 := by
  have hp : ∀ Y, pcb (Y % 256) ≤ 8 := fun Y => (d3 (Y % 256) (by omega)).2.2.2
  have h0 := hp X
  have h1 := hp (X / 256)
  have h2 := hp (X / 256 / 256)
  have h3 := hp (X / 256 / 256 / 256)
  have h4 := hp (X / 256 / 256 / 256 / 256)
  have h5 := hp (X / 256 / 256 / 256 / 256 / 256)
  have h6 := hp (X / 256 / 256 / 256 / 256 / 256 / 256)
  have h7 := hp (X / 256 / 256 / 256 / 256 / 256 / 256 / 256)
  simp only [fb, ps]
  generalize pcb (X % 256) = p0 at *
  generalize pcb (X / 256 % 256) = p1 at *
  generalize pcb (X / 256 / 256 % 256) = p2 at *
  generalize pcb (X / 256 / 256 / 256 % 256) = p3 at *
  generalize pcb (X / 256 / 256 / 256 / 256 % 256) = p4 at *
  generalize pcb (X / 256 / 256 / 256 / 256 / 256 % 256) = p5 at *
  generalize pcb (X / 256 / 256 / 256 / 256 / 256 / 256 % 256) = p6 at *
  generalize pcb (X / 256 / 256 / 256 / 256 / 256 / 256 / 256 % 256) = p7 at *
  clear hp
  have e0 : p0 + 256 * (p1 + 256 * (p2 + 256 * (p3 + 256 * (p4 + 256 * (p5 + 256 * (p6 + 256 * (p7 + 256 * 0))))))) = p0 + 256 * p1 + 65536 * p2 + 16777216 * p3 + 4294967296 * p4 + 1099511627776 * p5 + 281474976710656 * p6 + 72057594037927936 * p7 := by omega
  rw [e0]
  have e1 : (p0 + 256 * p1 + 65536 * p2 + 16777216 * p3 + 4294967296 * p4 + 1099511627776 * p5 + 281474976710656 * p6 + 72057594037927936 * p7) / 256 = p1 + 256 * p2 + 65536 * p3 + 16777216 * p4 + 4294967296 * p5 + 1099511627776 * p6 + 281474976710656 * p7 := by omega
  rw [e1]
  clear e1
  have e2 : p0 + 256 * p1 + 65536 * p2 + 16777216 * p3 + 4294967296 * p4 + 1099511627776 * p5 + 281474976710656 * p6 + 72057594037927936 * p7 + (p1 + 256 * p2 + 65536 * p3 + 16777216 * p4 + 4294967296 * p5 + 1099511627776 * p6 + 281474976710656 * p7) = (p0 + p1) + 256 * (p1 + p2) + 65536 * (p2 + p3) + 16777216 * (p3 + p4) + 4294967296 * (p4 + p5) + 1099511627776 * (p5 + p6) + 281474976710656 * (p6 + p7) + 72057594037927936 * p7 := by omega
  rw [e2]
  clear e2
  have e3 : ((p0 + p1) + 256 * (p1 + p2) + 65536 * (p2 + p3) + 16777216 * (p3 + p4) + 4294967296 * (p4 + p5) + 1099511627776 * (p5 + p6) + 281474976710656 * (p6 + p7) + 72057594037927936 * p7) / 65536 = (p2 + p3) + 256 * (p3 + p4) + 65536 * (p4 + p5) + 16777216 * (p5 + p6) + 4294967296 * (p6 + p7) + 1099511627776 * p7 := by omega
  rw [e3]
  clear e3
  have e4 : (p0 + p1) + 256 * (p1 + p2) + 65536 * (p2 + p3) + 16777216 * (p3 + p4) + 4294967296 * (p4 + p5) + 1099511627776 * (p5 + p6) + 281474976710656 * (p6 + p7) + 72057594037927936 * p7 + ((p2 + p3) + 256 * (p3 + p4) + 65536 * (p4 + p5) + 16777216 * (p5 + p6) + 4294967296 * (p6 + p7) + 1099511627776 * p7) = (p0 + p1 + p2 + p3) + 256 * (p1 + p2 + p3 + p4) + 65536 * (p2 + p3 + p4 + p5) + 16777216 * (p3 + p4 + p5 + p6) + 4294967296 * (p4 + p5 + p6 + p7) + 1099511627776 * (p5 + p6 + p7) + 281474976710656 * (p6 + p7) + 72057594037927936 * p7 := by omega
  rw [e4]
  clear e4
  have e5 : ((p0 + p1 + p2 + p3) + 256 * (p1 + p2 + p3 + p4) + 65536 * (p2 + p3 + p4 + p5) + 16777216 * (p3 + p4 + p5 + p6) + 4294967296 * (p4 + p5 + p6 + p7) + 1099511627776 * (p5 + p6 + p7) + 281474976710656 * (p6 + p7) + 72057594037927936 * p7) / 4294967296 = (p4 + p5 + p6 + p7) + 256 * (p5 + p6 + p7) + 65536 * (p6 + p7) + 16777216 * p7 := by omega
  rw [e5]
  clear e0 e5
  refine ⟨?_, by omega⟩
  have e6 : (p0 + p1 + p2 + p3) + 256 * (p1 + p2 + p3 + p4) + 65536 * (p2 + p3 + p4 + p5) + 16777216 * (p3 + p4 + p5 + p6) + 4294967296 * (p4 + p5 + p6 + p7) + 1099511627776 * (p5 + p6 + p7) + 281474976710656 * (p6 + p7) + 72057594037927936 * p7 + ((p4 + p5 + p6 + p7) + 256 * (p5 + p6 + p7) + 65536 * (p6 + p7) + 16777216 * p7) = (p0 + p1 + p2 + p3 + p4 + p5 + p6 + p7) + 128 * (2 * (p1 + p2 + p3 + p4 + p5 + p6 + p7) + 512 * (p2 + p3 + p4 + p5 + p6 + p7) + 131072 * (p3 + p4 + p5 + p6 + p7) + 33554432 * (p4 + p5 + p6 + p7) + 8589934592 * (p5 + p6 + p7) + 2199023255552 * (p6 + p7) + 562949953421312 * (p7)) := by omega
  rw [e6]
  clear e6
  rw [Nat.add_mul_mod_self_left, Nat.mod_eq_of_lt (by omega)]
  omega
theorem z_and127 (y : Int64) : (y.toInt32 &&& 127).toInt = (zn y % 128 : Nat) := by
  have h0 : (y.toInt32 &&& 127).toBitVec.toNat = y.toInt32.toBitVec.toNat % 128 := by
    rw [Int32.toBitVec_and, BitVec.toNat_and]
    exact Nat.and_two_pow_sub_one_eq_mod y.toInt32.toBitVec.toNat 7
  have h1 : (y.toInt32 &&& 127).toInt = y.toInt32.toInt % 128 := by
    show (y.toInt32 &&& 127).toBitVec.toInt = y.toInt32.toBitVec.toInt % 128
    rw [BitVec.toInt_eq_toNat_cond, BitVec.toInt_eq_toNat_cond, h0]
    have := y.toInt32.toBitVec.isLt
    split <;> split <;> omega
  have h2 : y.toInt = y.toBitVec.toInt := rfl
  have h3 := zn_lt y
  rw [h1, Int64.toInt_toInt32, h2, BitVec.toInt_eq_toNat_cond, Int.bmod_def]
  unfold zn at *
  split <;> split <;> omega
theorem q_bits (Y : Int64) : (mN_bitCount_95d88 Y).toInt = zcnt (zb Y) 64 := by
  have hlt := zn_lt Y
  have m85 : zn 6148914691236517205 = mk 85 8 := by decide +kernel
  have m51 : zn 3689348814741910323 = mk 51 8 := by decide +kernel
  have m15 : zn 1085102592571150095 = mk 15 8 := by decide +kernel
  have v51 : mk 51 8 = 3689348814741910323 := by decide +kernel
  have v15 : mk 15 8 = 1085102592571150095 := by decide +kernel
  have a1 : zn (bc1 Y) = n1 8 (zn Y) := by
    have e : zn (bsh Y 1 &&& 6148914691236517205) = zn Y / 2 &&& mk 85 8 := by rw [zn_and, zn_sh Y (by decide) (by decide), m85]; rfl
    have h : zn Y / 2 &&& mk 85 8 ≤ zn Y / 2 := Nat.and_le_left
    unfold bc1 n1
    rw [zn_sub (by rw [e]; omega), e]
  have a2 : zn (bc2 (bc1 Y)) = n2 8 (n1 8 (zn Y)) := by
    have e : zn (bsh (bc1 Y) 2 &&& 3689348814741910323) = n1 8 (zn Y) / 4 &&& mk 51 8 := by rw [zn_and, zn_sh _ (by decide) (by decide), m51, a1]; rfl
    have e' : zn (bc1 Y &&& 3689348814741910323) = n1 8 (zn Y) &&& mk 51 8 := by rw [zn_and, m51, a1]
    have h : n1 8 (zn Y) / 4 &&& mk 51 8 ≤ mk 51 8 := Nat.and_le_right
    have h' : n1 8 (zn Y) &&& mk 51 8 ≤ mk 51 8 := Nat.and_le_right
    unfold bc2 n2
    rw [zn_add (by rw [e, e']; omega), e, e']
  have b2 : n2 8 (n1 8 (zn Y)) ≤ 7378697629483820646 := by
    have h : n1 8 (zn Y) / 4 &&& mk 51 8 ≤ mk 51 8 := Nat.and_le_right
    have h' : n1 8 (zn Y) &&& mk 51 8 ≤ mk 51 8 := Nat.and_le_right
    unfold n2
    omega
  have a3 : zn (bc3 (bc2 (bc1 Y))) = fb 8 (zn Y) := by
    rw [← (fb_ok 8 (zn Y)).2]
    have e : zn (bsh (bc2 (bc1 Y)) 4) = n2 8 (n1 8 (zn Y)) / 16 := by rw [zn_sh _ (by decide) (by decide), a2]; rfl
    unfold bc3 n3
    rw [zn_and, zn_add (by rw [e, a2]; omega), e, a2, m15]
  obtain ⟨t1, t2⟩ := tail_ok (zn Y)
  generalize hZ : bc3 (bc2 (bc1 Y)) = Z at *
  have a4 : zn (bc4 Z) = fb 8 (zn Y) + fb 8 (zn Y) / 256 := by
    have e : zn (bsh Z 8) = fb 8 (zn Y) / 256 := by rw [zn_sh _ (by decide) (by decide), a3]; rfl
    unfold bc4
    rw [zn_add (by rw [e, a3]; omega), e, a3]
  have a5 : zn (bc5 (bc4 Z)) = fb 8 (zn Y) + fb 8 (zn Y) / 256 + (fb 8 (zn Y) + fb 8 (zn Y) / 256) / 65536 := by
    have e : zn (bsh (bc4 Z) 16) = (fb 8 (zn Y) + fb 8 (zn Y) / 256) / 65536 := by rw [zn_sh _ (by decide) (by decide), a4]; rfl
    unfold bc5
    rw [zn_add (by rw [e, a4]; omega), e, a4]
  have a6 : zn (bc6 (bc5 (bc4 Z))) = (fb 8 (zn Y) + fb 8 (zn Y) / 256 + (fb 8 (zn Y) + fb 8 (zn Y) / 256) / 65536) + (fb 8 (zn Y) + fb 8 (zn Y) / 256 + (fb 8 (zn Y) + fb 8 (zn Y) / 256) / 65536) / 4294967296 := by
    have e : zn (bsh (bc5 (bc4 Z)) 32) = (fb 8 (zn Y) + fb 8 (zn Y) / 256 + (fb 8 (zn Y) + fb 8 (zn Y) / 256) / 65536) / 4294967296 := by rw [zn_sh _ (by decide) (by decide), a5]; rfl
    unfold bc6
    rw [zn_add (by rw [e, a5]; omega), e, a5]
  rw [bc_def, hZ, z_and127, a6, t1, ← ps_ok 8 (zn Y)]
  rfl
