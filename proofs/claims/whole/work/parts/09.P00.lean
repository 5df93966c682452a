/-! 09.P0: tools of the pure part, and the relation between the class's state and the reference's -/
theorem z_nat (x : Int32) : x.toNatClampNeg = x.toInt.toNat := rfl
theorem z_in0 (x a b : Int32) : (mM_in x a b = 0) = (x.toInt < a.toInt ∨ b.toInt < x.toInt) := by
  unfold mM_in
  simp only [Int32.lt_iff_toInt_lt]
  by_cases h1 : x.toInt < a.toInt
  · simp [h1]
  · by_cases h2 : b.toInt < x.toInt
    · simp [h1, h2]
    · simp [h1, h2]
theorem z_isPlaceM (x : Int32) : (mM_isPlace x = 0) = (x.toInt < 0 ∨ 40 < x.toInt) := z_in0 x 0 40
theorem z_isTapeM (x : Int32) : (mM_isTape x = 0) = (x.toInt < 0 ∨ 5 < x.toInt) := z_in0 x 0 5
theorem z_isPlaceN (x : Int32) : (mN_isPlace x = 0) = (x.toInt < 0 ∨ 40 < x.toInt) := z_in0 x 0 40
theorem z_isTenthN (x : Int32) : (mN_isTenth x = 0) = (x.toInt < 0 ∨ 39 < x.toInt) := z_in0 x 0 39
theorem z_isLetterN (x : Int32) : (mN_isLetter x = 0) = (x.toInt < 0 ∨ 9 < x.toInt) := by
  unfold mN_isLetter
  simp only [Int32.lt_iff_toInt_lt, Int32.le_iff_toInt_le, Int32.reduceToInt]
  by_cases h1 : x.toInt < 0
  · simp [h1]
  · by_cases h2 : 9 < x.toInt
    · have h3 : 10 ≤ x.toInt := by omega
      simp [h1, h2, h3]
    · have h3 : ¬ 10 ≤ x.toInt := by omega
      simp [h1, h2, h3]
theorem z_isTapeN (x : Int32) : (mN_isTape x = 0) = (x.toInt < 0 ∨ 5 < x.toInt) := by
  unfold mN_isTape
  simp only [Int32.lt_iff_toInt_lt, Int32.le_iff_toInt_le, Int32.reduceToInt]
  by_cases h1 : x.toInt < 0
  · simp [h1]
  · by_cases h2 : 5 < x.toInt
    · have h3 : 6 ≤ x.toInt := by omega
      simp [h1, h2, h3]
    · have h3 : ¬ 6 ≤ x.toInt := by omega
      simp [h1, h2, h3]
theorem zgi_ok {α : Type} {i : Int32} {n : Nat} (o : Option α) (h0 : 0 ≤ i.toInt) (h1 : i.toInt < n) : zgi i n o = o := by
  unfold zgi
  rw [if_neg]
  simp only [z_nat, Int32.lt_iff_toInt_lt, Int32.reduceToInt]
  omega
theorem zgk_ok {α : Type} {k n : Nat} (o : Option α) (h : k < n) : zgk k n o = o := if_pos h
theorem z_lt (x : Int32) : -2147483648 ≤ x.toInt ∧ x.toInt ≤ 2147483647 := ⟨x.le_toInt, by have := x.toInt_lt; omega⟩
theorem z_addI {x y : Int32} (h : -2147483648 ≤ x.toInt + y.toInt) (h2 : x.toInt + y.toInt ≤ 2147483647) : (x + y).toInt = x.toInt + y.toInt := by
  rw [Int32.toInt_add, Int.bmod_def]; omega
theorem z_subI {x y : Int32} (h : -2147483648 ≤ x.toInt - y.toInt) (h2 : x.toInt - y.toInt ≤ 2147483647) : (x - y).toInt = x.toInt - y.toInt := by
  rw [Int32.toInt_sub, Int.bmod_def]; omega
theorem z_mulI {x y : Int32} (h : -2147483648 ≤ x.toInt * y.toInt) (h2 : x.toInt * y.toInt ≤ 2147483647) : (x * y).toInt = x.toInt * y.toInt := by
  rw [Int32.toInt_mul, Int.bmod_def]; omega
/-- a range -/
def zrg (a b : Int) (x : Int32) : Prop := a ≤ x.toInt ∧ x.toInt ≤ b
/-- a stage -/
def RSt (s : SS) (mo ja : Int32) (mv : Int64) (le sl th : Int32) (lt : Nat → Int32) (n : Int32) : Prop := (S_mouth s = mo ∧ S_jaw s = ja ∧ S_moving s = mv ∧ S_letters s = le ∧ S_slips s = sl ∧ S_house s = th + 1) ∧ (∀ k, k < 20 → S_words s k = lt k) ∧ (zrg 0 40 mo ∧ zrg 0 40 ja ∧ (0 ≤ mv.toInt ∧ mv.toInt ≤ 1099511627775) ∧ zrg 0 20 le ∧ zrg 0 10 sl ∧ (-1 ≤ th.toInt ∧ th.toInt < n.toInt)) ∧ (∀ k, k < 20 → zrg 0 9 (lt k))
/-- a clause: word, spot, number, steps -/
abbrev ZC : Type := Int32 × Int32 × Int32 × List Int32
/-- a step as the reference has it -/
def zsg (s : Int32) : Int32 := if s = 0 then -33 else if s = 1 then -38 else if s = 2 then -124 else Int32.ofInt (1000 * ((s.toInt - 3) / 300) + 100 * ((s.toInt - 3) / 100 % 3) + (s.toInt - 3) % 100)
/-- how many truths lie there behind the steps -/
def zdp : List Int32 → Nat → Option Nat
  | [], n => some n
  | s :: T, n => if s = 0 then (if 1 ≤ n then zdp T n else none) else if s = 1 ∨ s = 2 then (if 2 ≤ n then zdp T (n - 1) else none) else if n < 12 then zdp T (n + 1) else none
def zwf (T : List Int32) : Prop := (∀ s ∈ T, zrg 0 1502 s) ∧ zdp T 0 = some 1
def zlast (C : List ZC) (w o d : Int32) : Int32 := C.foldl (fun n c => if c.1 = w ∧ c.2.1 = o then c.2.2.1 else n) d
/-- steps from a place on -/
def zst (f : Nat → Int32) (i : Nat) (T : List Int32) : Prop := ∀ k (h : k < T.length), f (i + k) = T[k]
def zsm (D : List ZC) : Nat := (D.map (fun c => c.2.2.2.length)).sum
def zee (c : ZC) : Bool := decide (c.1 = 0 ∨ c.1 = 1)
/-- the reference's tables of a house -/
def RHm (C : List ZC) (b : Nat) (wd sp nu fr to sg : Nat → Int32) : Prop := ∀ c (h : c < C.length), wd (b + c) = C[c].1 ∧ sp (b + c) = C[c].2.1 ∧ nu (b + c) = C[c].2.2.1 ∧ (zee C[c] = true → zrg 0 500 (fr (b + c)) ∧ (to (b + c)).toInt = (fr (b + c)).toInt + C[c].2.2.2.length ∧ (to (b + c)).toInt ≤ 500 ∧ zst sg (fr (b + c)).toInt.toNat (C[c].2.2.2.map zsg))
/-- the class's rows of a house -/
def RHv (C : List ZC) (h : SH) : Prop := (H_clauses h).toInt = (C.filter zee).length ∧ (H_stepCount h).toInt = zsm (C.filter zee) ∧ (∀ i (hi : i < (C.filter zee).length), H_senses h i = ((C.filter zee)[i]).1 ∧ H_amounts h i = ((C.filter zee)[i]).2.2.1 ∧ (H_ends h i).toInt = zsm ((C.filter zee).take (i + 1)) ∧ zst (H_steps h) (zsm ((C.filter zee).take i)) ((C.filter zee)[i]).2.2.2) ∧ H_late h = zlast C 2 0 1 ∧ (∀ a : Int32, zrg 0 9 a → H_sounds h a.toInt.toNat = zlast C 3 (16 * a) a ∧ H_sounds h (10 + a.toInt.toNat) = zlast C 3 (16 * a + 1) a ∧ H_swaps h a.toInt.toNat = zlast C 4 (16 * a) a)
def zcl (C : List ZC) : Prop := C.length ≤ 10 ∧ zsm (C.filter zee) ≤ 100 ∧ ∀ c ∈ C, zrg 0 4 c.1 ∧ zrg 0 99 c.2.2.1 ∧ ((c.1 = 3 ∨ c.1 = 4) → zrg 0 9 c.2.2.1) ∧ (zee c = true → zwf c.2.2.2)
def RH (C : List ZC) (h : SH) (f : Nat) (cl wd sp nu fr to sg : Nat → Int32) : Prop := zcl C ∧ (cl f).toInt = C.length ∧ RHm C (10 * f) wd sp nu fr to sg ∧ RHv C h
def Ql_stage (u : SV) (v : SM) : Prop := RSt (V_stage u) (M_mouth v) (M_jaw v) (M_moves v) (M_letters v) (M_slips v) (M_the v) (M_letter v) (M_houses v)
def Ql_image (u : SV) (v : SM) : Prop := RSt (V_image u) (M_imageMouth v) (M_imageJaw v) (M_imageMoves v) (M_imageLetters v) (M_imageSlips v) (M_imageThe v) (M_imageLetter v) (M_houses v) ∧ V_imageTaken u = M_hasImage v
def Ql_seats (u : SV) (v : SM) : Prop := (V_seats u = M_seats v ∧ zrg 0 8 (M_seats v)) ∧ ∀ k, k < 8 → (V_far u k = M_far v k ∧ V_side u k = M_side v k) ∧ zrg 0 40 (M_far v k) ∧ zrg 0 40 (M_side v k)
def Ql_text (u : SV) (v : SM) : Prop := (V_textLength u = M_fed v ∧ zrg 0 100 (M_fed v)) ∧ ∀ k, k < (M_fed v).toInt.toNat → (V_text u k).toInt = (M_text v k).toInt % 256 ∧ zrg (-128) 127 (M_text v k)
def Ql_houses (u : SV) (v : SM) : Prop := (V_houseCount u = M_houses v ∧ zrg 0 5 (M_houses v)) ∧ RHv [] (V_hs u 0) ∧ ∀ f, f < (M_houses v).toInt.toNat → ∃ C, 0 < C.length ∧ RH C (V_hs u (f + 1)) f (M_clauses v) (M_word v) (M_spot v) (M_number v) (M_from v) (M_to v) (M_sign v)
def Ql_voices (u : SV) (v : SM) : Prop := (V_voiceCount u = M_voices v ∧ zrg 0 10 (M_voices v)) ∧ ∀ k, k < (M_voices v).toInt.toNat → V_vo u k = (Int32.ofNat k, (M_kind v k, M_v v k)) ∧ zrg 0 6 (M_kind v k) ∧ zrg 0 9 (M_v v k)
def Ql_act (u : SV) (v : SM) : Prop := V_acting u = (M_ran v, M_bodies v)
def Ql_tapes (u : SV) (v : SM) : Prop := ∀ t, t < 6 → (T_sort (V_ts u t) = M_sort v t ∧ T_length (V_ts u t) = M_length v t) ∧ (zrg (-1) 4 (M_sort v t) ∧ zrg 0 60 (M_length v t) ∧ (M_sort v t = -1 → M_length v t = 0)) ∧ ∀ k, k < 60 → T_items (V_ts u t) k = M_item v (60 * t + k)
def zLW (k : Nat) : Int32 := ([101, 121, 101, 101, 97, 114, 108, 97, 116, 101, 104, 101, 97, 114, 115, 115, 119, 97, 112] : List Int32).getD k 0
def Ql_low (v : SM) : Prop := ∀ k, k < 19 → M_letterOfWords v k = zLW k
def Rel (u : SV) (v : SM) : Prop := Ql_stage u v ∧ Ql_image u v ∧ Ql_seats u v ∧ Ql_text u v ∧ Ql_houses u v ∧ Ql_voices u v ∧ Ql_act u v ∧ Ql_tapes u v ∧ Ql_low v
