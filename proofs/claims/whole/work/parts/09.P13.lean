/-! 09.P13: what a SEAT holds, in the reference -/
/-- the ear's number -/
def xE (v : SM) (a s t : Int32) : Int32 := if M_kind v a.toInt.toNat = 2 ∨ M_kind v a.toInt.toNat = 5 then xU v 0 a s t + M_v v a.toInt.toNat else if M_kind v a.toInt.toNat = 3 ∨ M_kind v a.toInt.toNat = 6 then 2 * xU v 0 a s t else xU v 0 a s t
def sI (k w m j : Int) : Int := if k = 1 ∨ k = 4 then (if j < m then (if m - w < j then j else m - w) else (if m + w < j then m + w else j)) else if k = 3 ∨ k = 6 then (if m < j then (if m - w < 0 then 0 else m - w) else (if 40 < m + w then 40 else m + w)) else m
/-- where it sounds -/
def xS (v : SM) (a j : Int32) : Int32 := Int32.ofInt (sI (M_kind v a.toInt.toNat).toInt (M_v v a.toInt.toNat).toInt (M_mouth v).toInt j.toInt)
theorem sI_rg {k w m j : Int} (hw : 0 ≤ w ∧ w ≤ 9) (hm : 0 ≤ m ∧ m ≤ 40) (hj : 0 ≤ j ∧ j ≤ 40) : 0 ≤ sI k w m j ∧ sI k w m j ≤ 40 := by
  unfold sI
  split
  · split
    · split <;> omega
    · split <;> omega
  · split
    · split
      · split <;> omega
      · split <;> omega
    · omega
theorem xS_I {u : SV} {v : SM} {a j : Int32} (hV : zV u v a) (hm : zrg 0 40 (M_mouth v)) (hj : zrg 0 40 j) : (xS v a j).toInt = sI (M_kind v a.toInt.toNat).toInt (M_v v a.toInt.toNat).toInt (M_mouth v).toInt j.toInt := by
  have := sI_rg (k := (M_kind v a.toInt.toNat).toInt) hV.2.2.2.2 hm hj
  unfold xS
  rw [Int32.toInt_ofInt_of_le (by omega) (by omega)]
theorem q_ear {u : SV} {v : SM} (R : Rel u v) {a s t : Int32} (hV : zV u v a) (hs : 0 ≤ s.toInt ∧ s.toInt ≤ 7) (ht : 0 ≤ t.toInt ∧ t.toInt ≤ 39) (p : Nat → Int32) : ∃ p', mM_earOf a s t (M_put_pile p v) = some (xE v a s t, p') := by
  obtain ⟨ha, _, _, hk, hv⟩ := hV
  obtain ⟨h1, h2, _⟩ := q_unsure R (w := 0) (Or.inl rfl) ha hs ht
  obtain ⟨p', hp⟩ := h1 p
  have e1 : ∀ p : Nat → Int32, M_kind (M_put_pile p v) = M_kind v := fun _ => rfl
  unfold mM_earOf mM_earOf_J30
  rw [hp, Option.bind_some]
  simp only [zgi_ok (n := 10) _ ha.1 (by omega), e1, z_nat]
  unfold xE
  generalize M_kind v a.toInt.toNat = k at *
  rcases z_kinds hk with rfl | rfl | rfl | rfl | rfl | rfl | rfl <;> exact ⟨_, rfl⟩
theorem xE_rg {u : SV} {v : SM} (R : Rel u v) {a s t : Int32} (hV : zV u v a) (hs : 0 ≤ s.toInt ∧ s.toInt ≤ 7) (ht : 0 ≤ t.toInt ∧ t.toInt ≤ 39) : zrg 1 120 (xE v a s t) := by
  obtain ⟨ha, _, _, hk, hv⟩ := hV
  obtain ⟨_, h2, _⟩ := q_unsure R (w := 0) (Or.inl rfl) ha hs ht
  unfold zrg at h2 hv
  have e1 := z_addI (x := xU v 0 a s t) (y := M_v v a.toInt.toNat) (by omega) (by omega)
  have e2 : ((2 : Int32) * xU v 0 a s t).toInt = 2 * (xU v 0 a s t).toInt := by
    rw [z_mulI (by simp only [Int32.reduceToInt]; omega) (by simp only [Int32.reduceToInt]; omega)]
    simp only [Int32.reduceToInt]
  unfold xE zrg
  split
  · omega
  · split <;> omega
theorem c_ear {n a k w : Int32} (hk : zrg 0 6 k) : mO_earOf n (a, (k, w)) = some (if k = 2 ∨ k = 5 then n + w else if k = 3 ∨ k = 6 then 2 * n else n) := by
  unfold mO_earOf
  rw [z_isOf a w hk ⟨by decide, by decide⟩, z_isOf a w hk ⟨by decide, by decide⟩]
  rcases z_kinds hk with rfl | rfl | rfl | rfl | rfl | rfl | rfl <;> rfl
theorem z_kI {k : Int32} (n : Int32) : (k = n) = (k.toInt = n.toInt) := by rw [Int32.toInt_inj]
theorem q_sounds {u : SV} {v : SM} {a j : Int32} (hV : zV u v a) (hm : zrg 0 40 (M_mouth v)) (hj : zrg 0 40 j) : mM_soundsOf a j v = some (xS v a j) := by
  have hI := xS_I hV hm hj
  obtain ⟨ha, _, _, hk, hv⟩ := hV
  unfold zrg at hm hj hv hk
  have hap := z_apart (a := M_mouth v) (b := j) (by omega) (by omega)
  have hmin : (mM_min (M_v v a.toInt.toNat) (mM_apart (M_mouth v) j)).toInt = if (mM_apart (M_mouth v) j).toInt < (M_v v a.toInt.toNat).toInt then (mM_apart (M_mouth v) j).toInt else (M_v v a.toInt.toNat).toInt := by rw [z_min2, zmin_I]
  generalize hd : mM_min (M_v v a.toInt.toNat) (mM_apart (M_mouth v) j) = dd at *
  have b1 : 0 ≤ dd.toInt ∧ dd.toInt ≤ 40 := by split at hmin <;> split at hap <;> omega
  have a1 : (M_mouth v + dd).toInt = (M_mouth v).toInt + dd.toInt := z_addI (by omega) (by omega)
  have a2 : (M_mouth v - dd).toInt = (M_mouth v).toInt - dd.toInt := z_subI (by omega) (by omega)
  have a3 : (M_mouth v + M_v v a.toInt.toNat).toInt = (M_mouth v).toInt + (M_v v a.toInt.toNat).toInt := z_addI (by omega) (by omega)
  have a4 : (M_mouth v - M_v v a.toInt.toNat).toInt = (M_mouth v).toInt - (M_v v a.toInt.toNat).toInt := z_subI (by omega) (by omega)
  unfold mM_soundsOf mM_soundsOf_J17 mM_soundsOf_J80 mM_soundsOf_J113
  simp only [zgi_ok (n := 10) _ ha.1 (by omega), z_nat, hd]
  simp only [Int32.lt_iff_toInt_lt, Int32.le_iff_toInt_le, z_kI (k := M_kind v a.toInt.toNat), Int32.reduceToInt]
  unfold sI at hI
  by_cases k1 : (M_kind v a.toInt.toNat).toInt = 1 ∨ (M_kind v a.toInt.toNat).toInt = 4
  · rw [if_pos k1] at hI
    have : ∀ X Y : Option Int32, (if (M_kind v a.toInt.toNat).toInt = 1 then X else if (M_kind v a.toInt.toNat).toInt = 4 then X else Y) = X := by
      intro X Y
      split
      · rfl
      · rw [if_pos (by omega)]
    rw [this]
    by_cases c : (M_mouth v).toInt ≤ j.toInt
    · rw [if_pos c]
      refine congrArg some (Int32.toInt_inj.mp ?_)
      rw [hI, a1, if_neg (by omega)]
      split <;> split at hmin <;> split at hap <;> omega
    · rw [if_neg c]
      refine congrArg some (Int32.toInt_inj.mp ?_)
      rw [hI, a2, if_pos (by omega)]
      split <;> split at hmin <;> split at hap <;> omega
  · rw [if_neg k1] at hI
    rw [if_neg (by omega), if_neg (by omega)]
    by_cases k2 : (M_kind v a.toInt.toNat).toInt = 3 ∨ (M_kind v a.toInt.toNat).toInt = 6
    · rw [if_pos k2] at hI
      have : ∀ X Y : Option Int32, (if (M_kind v a.toInt.toNat).toInt = 3 then X else if (M_kind v a.toInt.toNat).toInt = 6 then X else Y) = X := by
        intro X Y
        split
        · rfl
        · rw [if_pos (by omega)]
      rw [this, a3, a4]
      by_cases c : j.toInt ≤ (M_mouth v).toInt
      · rw [if_pos c, if_pos (by omega)]
        rw [if_neg (by omega)] at hI
        by_cases d : (M_mouth v).toInt + (M_v v a.toInt.toNat).toInt ≤ 40
        · rw [if_pos d]
          rw [if_neg (by omega)] at hI
          exact congrArg some (Int32.toInt_inj.mp (by rw [hI, a3]))
        · rw [if_neg d]
          rw [if_pos (by omega)] at hI
          exact congrArg some (Int32.toInt_inj.mp (by rw [hI]; rfl))
      · rw [if_neg c]
        rw [if_pos (by omega)] at hI
        by_cases d : 0 ≤ (M_mouth v).toInt - (M_v v a.toInt.toNat).toInt
        · rw [if_pos d, if_pos (by omega)]
          rw [if_neg (by omega)] at hI
          exact congrArg some (Int32.toInt_inj.mp (by rw [hI, a4]))
        · rw [if_neg d]
          rw [if_pos (by omega)] at hI
          exact congrArg some (Int32.toInt_inj.mp (by rw [hI]; rfl))
    · rw [if_neg k2] at hI
      rw [if_neg (by omega), if_neg (by omega)]
      exact congrArg some (Int32.toInt_inj.mp hI.symm)
theorem c_sounds {u : SV} {v : SM} {a j : Int32} (hV : zV u v a) (hm : zrg 0 40 (M_mouth v)) (hj : zrg 0 40 j) : mO_soundsAt (M_mouth v) j (a, (M_kind v a.toInt.toNat, M_v v a.toInt.toNat)) = some (xS v a j) := by
  have hI := xS_I hV hm hj
  obtain ⟨ha, _, _, hk, hv⟩ := hV
  have hk' := hk
  unfold zrg at hm hj hv hk
  have a3 : (M_mouth v + M_v v a.toInt.toNat).toInt = (M_mouth v).toInt + (M_v v a.toInt.toNat).toInt := z_addI (by omega) (by omega)
  have a4 : (M_mouth v - M_v v a.toInt.toNat).toInt = (M_mouth v).toInt - (M_v v a.toInt.toNat).toInt := z_subI (by omega) (by omega)
  unfold mO_soundsAt
  rw [z_isOf a _ hk' ⟨by decide, by decide⟩, z_isOf a _ hk' ⟨by decide, by decide⟩, Option.bind_some, Option.bind_some]
  show (if _ then (if _ then _ else (if j ≤ M_mouth v then some (zmin 40 (M_mouth v + M_v v a.toInt.toNat)) else some (zmax 0 (M_mouth v - M_v v a.toInt.toNat)))) else (if M_mouth v ≤ j then some (zmin j (M_mouth v + M_v v a.toInt.toNat)) else some (zmax j (M_mouth v - M_v v a.toInt.toNat)))) = _
  have m1 := zmin_I 40 (M_mouth v + M_v v a.toInt.toNat)
  have m2 := zmax_I 0 (M_mouth v - M_v v a.toInt.toNat)
  have m3 := zmin_I j (M_mouth v + M_v v a.toInt.toNat)
  have m4 := zmax_I j (M_mouth v - M_v v a.toInt.toNat)
  simp only [a3, a4, Int32.reduceToInt] at m1 m2 m3 m4
  generalize zmin 40 (M_mouth v + M_v v a.toInt.toNat) = Z1 at *
  generalize zmax 0 (M_mouth v - M_v v a.toInt.toNat) = Z2 at *
  generalize zmin j (M_mouth v + M_v v a.toInt.toNat) = Z3 at *
  generalize zmax j (M_mouth v - M_v v a.toInt.toNat) = Z4 at *
  unfold sI at hI
  simp only [Int32.le_iff_toInt_le]
  generalize M_kind v a.toInt.toNat = k at *
  have near : (k.toInt = 1 ∨ k.toInt = 4) → (if M_mouth v ≤ j then some Z3 else some Z4) = some (xS v a j) := by
    intro h
    rw [if_pos h] at hI
    simp only [Int32.le_iff_toInt_le]
    split
    · refine congrArg some (Int32.toInt_inj.mp ?_)
      rw [hI, if_neg (by omega), m3]
    · refine congrArg some (Int32.toInt_inj.mp ?_)
      rw [hI, if_pos (by omega), m4]
      split <;> split <;> omega
  have far : (k.toInt = 3 ∨ k.toInt = 6) → (if j ≤ M_mouth v then some Z1 else some Z2) = some (xS v a j) := by
    intro h
    rw [if_neg (by omega), if_pos h] at hI
    simp only [Int32.le_iff_toInt_le]
    split
    · refine congrArg some (Int32.toInt_inj.mp ?_)
      rw [hI, if_neg (by omega), m1]
      split <;> split <;> omega
    · refine congrArg some (Int32.toInt_inj.mp ?_)
      rw [hI, if_pos (by omega), m2]
      split <;> split <;> omega
  have other : (¬ (k.toInt = 1 ∨ k.toInt = 4)) → (¬ (k.toInt = 3 ∨ k.toInt = 6)) → some (M_mouth v) = some (xS v a j) := by
    intro h h'
    rw [if_neg h, if_neg h'] at hI
    exact congrArg some (Int32.toInt_inj.mp hI.symm)
  simp only [Int32.le_iff_toInt_le] at near far
  rcases z_kinds hk' with rfl | rfl | rfl | rfl | rfl | rfl | rfl
  · exact other (by decide) (by decide)
  · exact near (by decide)
  · exact other (by decide) (by decide)
  · exact far (by decide)
  · exact near (by decide)
  · exact other (by decide) (by decide)
  · exact far (by decide)
