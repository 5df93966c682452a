/-! 09.P11: bits of longs -/
def zb (m : Int64) (k : Nat) : Bool := m.toBitVec.getLsbD k
theorem zb_and (x y : Int64) (k : Nat) : zb (x &&& y) k = (zb x k && zb y k) := by
  unfold zb
  rw [Int64.toBitVec_and, BitVec.getLsbD_and]
theorem sh_a : ∀ k, k < 64 → (((Int32.ofNat k).toInt64 &&& 63).toBitVec.smod 64#64).toNat = k := by decide +kernel
theorem sh_b : ∀ k, k < 64 → (((Int32.ofNat k).toInt64.toUInt64 &&& Int64.toUInt64 63).toBitVec % 64#64).toNat = k := by decide +kernel
theorem zb_shl {n : Int32} (h0 : 0 ≤ n.toInt) (h1 : n.toInt < 64) (x : Int64) (k : Nat) : zb (x <<< (n.toInt64 &&& 63)) k = (decide (k < 64) && decide (n.toInt.toNat ≤ k) && zb x (k - n.toInt.toNat)) := by
  have e := sh_a n.toInt.toNat (by omega)
  rw [z_ofNat h0] at e
  unfold zb
  rw [Int64.toBitVec_shiftLeft]
  show (x.toBitVec <<< ((n.toInt64 &&& 63).toBitVec.smod 64#64).toNat).getLsbD k = _
  rw [e, BitVec.getLsbD_shiftLeft]
  generalize n.toInt.toNat = q at *
  by_cases c : k < q
  · have c2 : ¬ q ≤ k := by omega
    simp [c, c2]
  · have c2 : q ≤ k := by omega
    simp [c, c2]
theorem zb_shr {n : Int32} (h0 : 0 ≤ n.toInt) (h1 : n.toInt < 64) (x : Int64) (k : Nat) : zb ((x.toUInt64 >>> (n.toInt64.toUInt64 &&& Int64.toUInt64 63)).toInt64) k = zb x (n.toInt.toNat + k) := by
  have e := sh_b n.toInt.toNat (by omega)
  rw [z_ofNat h0] at e
  show (x.toUInt64 >>> (n.toInt64.toUInt64 &&& Int64.toUInt64 63)).toBitVec.getLsbD k = _
  rw [UInt64.toBitVec_shiftRight]
  show (x.toBitVec >>> ((n.toInt64.toUInt64 &&& Int64.toUInt64 63).toBitVec % 64#64).toNat).getLsbD k = _
  rw [e, BitVec.getLsbD_ushiftRight]
  rfl
theorem zb_eq {x y : Int64} (h : ∀ k, k < 64 → zb x k = zb y k) : x = y := by
  rw [← Int64.toBitVec_inj]
  exact BitVec.eq_of_getLsbD_eq (fun i hi => h i hi)
theorem zb_0 (k : Nat) : zb 0 k = false := by
  unfold zb
  show (0#64).getLsbD k = false
  simp
theorem zb_1 : ∀ k, k < 64 → zb 1 k = decide (k = 0) := by decide +kernel
theorem zb_all : ∀ k, k < 64 → zb 1099511627775 k = decide (k < 40) := by decide +kernel
theorem zb_big (x : Int64) {k : Nat} (h : 64 ≤ k) : zb x k = false := by
  unfold zb
  exact BitVec.getLsbD_of_ge _ _ h
theorem zb_mask0 : ∀ w, w < 64 → ∀ k, k < 64 → zb (((1 : Int64) <<< ((Int32.ofNat w).toInt64 &&& 63)) - 1) k = decide (k < w) := by decide +kernel
theorem zb_mask {n : Int32} (h0 : 0 ≤ n.toInt) (h1 : n.toInt < 64) {k : Nat} (hk : k < 64) : zb (((1 : Int64) <<< (n.toInt64 &&& 63)) - 1) k = decide (k < n.toInt.toNat) := by
  have := zb_mask0 n.toInt.toNat (by omega) k hk
  rw [z_ofNat h0] at this
  exact this
/-- a bit, as the reference asks for it -/
theorem zb_ref {n : Int32} (h0 : 0 ≤ n.toInt) (h1 : n.toInt < 64) (x : Int64) : (lg_cmp ((x >>> (n.toInt64 &&& 63)) &&& 1) 1 = 0) = (zb x n.toInt.toNat = true) := by
  have e := sh_a n.toInt.toNat (by omega)
  rw [z_ofNat h0] at e
  rw [z_lg2]
  have hb : zb (x >>> (n.toInt64 &&& 63)) 0 = zb x n.toInt.toNat := by
    unfold zb
    rw [Int64.toBitVec_shiftRight]
    show (x.toBitVec.sshiftRight ((n.toInt64 &&& 63).toBitVec.smod 64#64).toNat).getLsbD 0 = _
    rw [e, BitVec.getLsbD_sshiftRight]
    have h9 : n.toInt.toNat < 64 := by omega
    generalize n.toInt.toNat = q at *
    simp [h9]
  apply propext
  constructor
  · intro h
    have := congrArg (fun y => zb y 0) h
    simp only [zb_and] at this
    rw [hb, zb_1 0 (by omega)] at this
    simpa using this
  · intro h
    apply zb_eq
    intro k hk
    rw [zb_and, zb_1 k hk]
    by_cases c : k = 0
    · subst c
      rw [hb, h]
      rfl
    · simp [c]
theorem zb_lt {x : Int64} (h0 : 0 ≤ x.toInt) (h1 : x.toInt ≤ 1099511627775) {k : Nat} (hk : 40 ≤ k) : zb x k = false := by
  have h3 : x.toInt = x.toBitVec.toInt := rfl
  have h4 := x.toBitVec.isLt
  have h5 : x.toBitVec.toNat < 2 ^ 40 := by
    rw [h3, BitVec.toInt_eq_toNat_cond] at h0 h1
    split at h0 <;> omega
  show x.toBitVec.toNat.testBit k = false
  exact Nat.testBit_lt_two_pow (Nat.lt_of_lt_of_le h5 (Nat.pow_le_pow_right (by omega) hk))
/-- how many of the first -/
def zcnt (f : Nat → Bool) : Nat → Nat
  | 0 => 0
  | n + 1 => zcnt f n + (if f n then 1 else 0)
theorem zcnt_cg {f g : Nat → Bool} : ∀ {n : Nat}, (∀ k, k < n → f k = g k) → zcnt f n = zcnt g n
  | 0, _ => rfl
  | n + 1, h => by
    show zcnt f n + _ = zcnt g n + _
    rw [h n (by omega), zcnt_cg (fun k hk => h k (by omega))]
theorem zcnt_add (f : Nat → Bool) (a : Nat) : ∀ n, zcnt f (a + n) = zcnt f a + zcnt (fun j => f (a + j)) n
  | 0 => rfl
  | n + 1 => by
    show zcnt f (a + n) + (if f (a + n) then 1 else 0) = zcnt f a + (zcnt (fun j => f (a + j)) n + (if f (a + n) then 1 else 0))
    rw [zcnt_add f a n]
    omega
theorem zcnt_none {f : Nat → Bool} : ∀ {n : Nat}, (∀ k, k < n → f k = false) → zcnt f n = 0
  | 0, _ => rfl
  | n + 1, h => by
    show zcnt f n + _ = 0
    rw [h n (by omega), zcnt_none (fun k hk => h k (by omega))]
    rfl
theorem zcnt_le (f : Nat → Bool) : ∀ n, zcnt f n ≤ n
  | 0 => Nat.le_refl 0
  | n + 1 => by
    have := zcnt_le f n
    show zcnt f n + _ ≤ n + 1
    split <;> omega
theorem zcnt_zero {f : Nat → Bool} : ∀ {n : Nat}, zcnt f n = 0 → ∀ k, k < n → f k = false
  | n + 1, h, k, hk => by
    have h' : zcnt f n + (if f n then 1 else 0) = 0 := h
    by_cases c : k = n
    · subst c
      cases hf : f k
      · rfl
      · rw [hf] at h'; simp at h'
    · exact zcnt_zero (n := n) (by omega) k (by omega)
