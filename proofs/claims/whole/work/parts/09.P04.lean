/-! 09.P4: text, image, voices, acts -/
theorem z_ofNat {x : Int32} (h : 0 ≤ x.toInt) : Int32.ofNat x.toInt.toNat = x := by
  have := z_lt x
  rw [← Int32.toInt_inj, Int32.toInt_ofNat_of_lt (by omega)]
  omega
theorem pS_trace : zS_trace Rel := by
  intro x1 u v R
  obtain ⟨R1, R2, R3, R4, R5, R6, R7, R8, R9⟩ := id R
  unfold mV_trace mM_trace mB_kept zmin
  rw [show B_ran (V_acting u) = M_ran v by rw [R7]; rfl, show B_bodies (V_acting u) = M_bodies v by rw [R7]; rfl]
  (try simp only [z_in0, z_isPlaceM, z_isPlaceN, z_isLetterN, z_isTenthN, z_isTapeN, z_isTapeM]); (try simp only [Int32.lt_iff_toInt_lt, Int32.le_iff_toInt_le, ← Int32.toInt_inj, Int32.reduceToInt, Int64.reduceToInt, apply_ite Int32.toInt])
  by_cases a : x1.toInt < 0
  · rw [if_pos a, if_pos (Or.inl a)]
    exact ⟨_, rfl, rfl, R⟩
  · rw [if_neg a]
    by_cases b : 19 < x1.toInt
    · rw [if_pos (Or.inr b), if_neg (by split <;> omega)]
      exact ⟨_, rfl, rfl, R⟩
    · rw [if_neg (by omega : ¬ (x1.toInt < 0 ∨ 19 < x1.toInt))]
      by_cases c : (M_ran v).toInt ≤ x1.toInt
      · rw [if_pos c, if_neg (by split <;> omega)]
        exact ⟨_, rfl, rfl, R⟩
      · rw [if_neg c, if_pos (by split <;> omega), zgi_ok _ (by omega) (by omega)]
        exact ⟨_, rfl, rfl, R⟩
theorem l_img (d : Nat) : ∀ (n i : Nat) (x : Int32) (u : SM), i + d = 20 → d < n → x.toInt = i → mM_image_L55 n x u = some (M_letters u, (M_hasImage u, M_imageThe u, M_imageMouth u, M_imageJaw u, M_imageLetters u, M_imageSlips u, M_imageMoves u, fun k => if i ≤ k ∧ k < 20 then M_letter u k else M_imageLetter u k)) := by
  induction d with
  | zero =>
    intro n i x u h1 h2 h3
    obtain ⟨n, rfl⟩ : ∃ m, n = m + 1 := ⟨n - 1, by omega⟩
    rw [mM_image_L55, if_pos (by (try simp only [z_in0, z_isPlaceM, z_isPlaceN, z_isLetterN, z_isTenthN, z_isTapeN, z_isTapeM]); (try simp only [Int32.lt_iff_toInt_lt, Int32.le_iff_toInt_le, ← Int32.toInt_inj, Int32.reduceToInt, Int64.reduceToInt]); omega)]
    have : (fun k => if i ≤ k ∧ k < 20 then M_letter u k else M_imageLetter u k) = M_imageLetter u := by
      funext k
      rw [if_neg (by omega)]
    rw [this]
  | succ d ih =>
    intro n i x u h1 h2 h3
    obtain ⟨n, rfl⟩ : ∃ m, n = m + 1 := ⟨n - 1, by omega⟩
    rw [mM_image_L55, if_neg (by (try simp only [z_in0, z_isPlaceM, z_isPlaceN, z_isLetterN, z_isTenthN, z_isTapeN, z_isTapeM]); (try simp only [Int32.lt_iff_toInt_lt, Int32.le_iff_toInt_le, ← Int32.toInt_inj, Int32.reduceToInt, Int64.reduceToInt]); omega), zgi_ok _ (by omega) (by omega), zgi_ok _ (by omega) (by omega), ih n (i + 1) (x + 1) _ (by omega) (by omega) (by rw [z_one x (by omega) (by omega), h3]; rfl)]
    have : (fun k => if i + 1 ≤ k ∧ k < 20 then M_letter u k else upd (M_imageLetter u) x.toNatClampNeg (M_letter u x.toNatClampNeg) k) = fun k => if i ≤ k ∧ k < 20 then M_letter u k else M_imageLetter u k := by
      funext k
      rw [z_nat]
      by_cases h : k = i
      · rw [if_neg (by omega), if_pos (by omega), show x.toInt.toNat = k by omega, upd_eq]
      · rw [upd_ne _ _ (by omega)]
        by_cases h5 : i + 1 ≤ k ∧ k < 20
        · rw [if_pos h5, if_pos (by omega)]
        · rw [if_neg h5, if_neg (by omega)]
    rw [← this]
    rfl
theorem l_und (d : Nat) : ∀ (n i : Nat) (x : Int32) (u : SM), i + d = 20 → d < n → x.toInt = i → mM_undo_L60 n x u = some (M_letters u, (M_mouth u, M_jaw u, M_letters u, M_slips u, M_moves u, M_the u, fun k => if i ≤ k ∧ k < 20 then M_imageLetter u k else M_letter u k)) := by
  induction d with
  | zero =>
    intro n i x u h1 h2 h3
    obtain ⟨n, rfl⟩ : ∃ m, n = m + 1 := ⟨n - 1, by omega⟩
    rw [mM_undo_L60, if_pos (by (try simp only [z_in0, z_isPlaceM, z_isPlaceN, z_isLetterN, z_isTenthN, z_isTapeN, z_isTapeM]); (try simp only [Int32.lt_iff_toInt_lt, Int32.le_iff_toInt_le, ← Int32.toInt_inj, Int32.reduceToInt, Int64.reduceToInt]); omega)]
    have : (fun k => if i ≤ k ∧ k < 20 then M_imageLetter u k else M_letter u k) = M_letter u := by
      funext k
      rw [if_neg (by omega)]
    rw [this]
  | succ d ih =>
    intro n i x u h1 h2 h3
    obtain ⟨n, rfl⟩ : ∃ m, n = m + 1 := ⟨n - 1, by omega⟩
    rw [mM_undo_L60, if_neg (by (try simp only [z_in0, z_isPlaceM, z_isPlaceN, z_isLetterN, z_isTenthN, z_isTapeN, z_isTapeM]); (try simp only [Int32.lt_iff_toInt_lt, Int32.le_iff_toInt_le, ← Int32.toInt_inj, Int32.reduceToInt, Int64.reduceToInt]); omega), zgi_ok _ (by omega) (by omega), zgi_ok _ (by omega) (by omega), ih n (i + 1) (x + 1) _ (by omega) (by omega) (by rw [z_one x (by omega) (by omega), h3]; rfl)]
    have : (fun k => if i + 1 ≤ k ∧ k < 20 then M_imageLetter u k else upd (M_letter u) x.toNatClampNeg (M_imageLetter u x.toNatClampNeg) k) = fun k => if i ≤ k ∧ k < 20 then M_imageLetter u k else M_letter u k := by
      funext k
      rw [z_nat]
      by_cases h : k = i
      · rw [if_neg (by omega), if_pos (by omega), show x.toInt.toNat = k by omega, upd_eq]
      · rw [upd_ne _ _ (by omega)]
        by_cases h5 : i + 1 ≤ k ∧ k < 20
        · rw [if_pos h5, if_pos (by omega)]
        · rw [if_neg h5, if_neg (by omega)]
    rw [← this]
    rfl
theorem z_cpy20 {f g f' : Nat → Int32} (h : ∀ k, k < 20 → f k = f' k) : ∀ k, k < 20 → va_cpy f g (0 : Int32).toNatClampNeg (0 : Int32).toNatClampNeg (20 : Int32).toNatClampNeg k = f' k := by
  intro k hk
  show (if 0 ≤ k ∧ k < 0 + 20 then f (0 + (k - 0)) else g k) = f' k
  rw [if_pos (by omega), show 0 + (k - 0) = k by omega]
  exact h k hk
theorem pS_image : zS_image Rel := by
  intro u v R
  obtain ⟨⟨⟨h1, h2, h3, h4, h5, h6⟩, hw, hr, hl⟩, R2, R3, R4, R5, R6, R7, R8, R9⟩ := id R
  unfold mM_image
  rw [l_img 20 256 0 0 _ rfl (by omega) rfl]
  refine ⟨M_letters v, (1, S_bec (S_mouth (V_stage u), S_jaw (V_stage u), S_moving (V_stage u), S_letters (V_stage u), S_slips (V_stage u), S_house (V_stage u), va_cpy (S_words (V_stage u)) (S_words (V_image u)) (0 : Int32).toNatClampNeg (0 : Int32).toNatClampNeg (20 : Int32).toNatClampNeg)), _, ?_, rfl, R.1, ⟨⟨⟨h1, h2, h3, h4, h5, h6⟩, ?_, hr, ?_⟩, rfl⟩, R3, R4, R5, R6, R7, R8, R9⟩
  · rw [← h4]; rfl
  · intro k hk
    show va_cpy (S_words (V_stage u)) (S_words (V_image u)) _ _ _ k = (if 0 ≤ k ∧ k < 20 then M_letter v k else M_imageLetter v k)
    rw [if_pos (by omega)]
    exact z_cpy20 hw k hk
  · intro k hk
    show zrg 0 9 (if 0 ≤ k ∧ k < 20 then M_letter v k else M_imageLetter v k)
    rw [if_pos (by omega)]
    exact hl k hk
theorem pS_undo : zS_undo Rel := by
  intro u v R
  obtain ⟨R1, ⟨⟨⟨h1, h2, h3, h4, h5, h6⟩, hw, hr, hl⟩, hi⟩, R3, R4, R5, R6, R7, R8, R9⟩ := id R
  unfold mV_undo mM_undo
  rw [hi]
  by_cases a : M_hasImage v = 0
  · rw [if_pos a, if_pos a]
    exact ⟨_, _, _, rfl, rfl, R⟩
  · rw [if_neg a, if_neg a, l_und 20 256 0 0 _ rfl (by omega) rfl]
    refine ⟨M_imageLetters v, S_bec (S_mouth (V_image u), S_jaw (V_image u), S_moving (V_image u), S_letters (V_image u), S_slips (V_image u), S_house (V_image u), va_cpy (S_words (V_image u)) (S_words (V_stage u)) (0 : Int32).toNatClampNeg (0 : Int32).toNatClampNeg (20 : Int32).toNatClampNeg), _, ?_, rfl, ⟨⟨h1, h2, h3, h4, h5, h6⟩, ?_, hr, ?_⟩, R.2.1, R3, R4, R5, R6, R7, R8, R9⟩
    · rw [← h4]; rfl
    · intro k hk
      show va_cpy (S_words (V_image u)) (S_words (V_stage u)) _ _ _ k = (if 0 ≤ k ∧ k < 20 then M_imageLetter v k else M_letter v k)
      rw [if_pos (by omega)]
      exact z_cpy20 hw k hk
    · intro k hk
      show zrg 0 9 (if 0 ≤ k ∧ k < 20 then M_imageLetter v k else M_letter v k)
      rw [if_pos (by omega)]
      exact hl k hk
theorem z_voice {u : SV} {v : SM} (R : Rel u v) (x : Int32) : (mV_voiceAt x u = some none ∧ mM_isVoice x v = 0) ∨ (mV_voiceAt x u = some (some x.toInt.toNat) ∧ ¬ mM_isVoice x v = 0 ∧ (0 ≤ x.toInt ∧ x.toInt ≤ 9) ∧ x.toInt.toNat < V_nv u ∧ V_vo u x.toInt.toNat = (x, (M_kind v x.toInt.toNat, M_v v x.toInt.toNat)) ∧ zrg 0 6 (M_kind v x.toInt.toNat) ∧ zrg 0 9 (M_v v x.toInt.toNat)) := by
  obtain ⟨R1, R2, R3, R4, R5, ⟨⟨h1, h2⟩, h3⟩, R7, R8, R9⟩ := id R
  unfold zrg at h2
  have e : (M_voices v - 1).toInt = (M_voices v).toInt - 1 := z_subI (by simp only [Int32.reduceToInt]; omega) (by simp only [Int32.reduceToInt]; omega)
  unfold mV_voiceAt mM_isVoice
  rw [h1]
  (try simp only [z_in0, z_isPlaceM, z_isPlaceN, z_isLetterN, z_isTenthN, z_isTapeN, z_isTapeM]); (try simp only [Int32.lt_iff_toInt_lt, Int32.le_iff_toInt_le, ← Int32.toInt_inj, Int32.reduceToInt, Int64.reduceToInt])
  rw [e]
  by_cases a : x.toInt < 0
  · exact Or.inl ⟨if_pos a, Or.inl a⟩
  · rw [if_neg a]
    by_cases b : (M_voices v).toInt ≤ x.toInt
    · exact Or.inl ⟨if_pos b, Or.inr (by omega)⟩
    · rw [if_neg b, zgi_ok _ (by omega) (by omega)]
      obtain ⟨h4, h5⟩ := h3 x.toInt.toNat (by omega)
      rw [z_ofNat (by omega)] at h4
      refine Or.inr ⟨rfl, by omega, by omega, ?_, h4, h5⟩
      unfold V_nv
      rw [h1, z_nat]
      omega
theorem pS_voice : zS_voice Rel := by
  intro x1 x2 u v R
  obtain ⟨R1, R2, R3, R4, R5, ⟨⟨h1, h2⟩, h3⟩, R7, R8, R9⟩ := id R
  have h2' := h2
  unfold zrg at h2
  unfold mV_voice mM_voice
  rw [h1]
  (try simp only [z_in0, z_isPlaceM, z_isPlaceN, z_isLetterN, z_isTenthN, z_isTapeN, z_isTapeM]); (try simp only [Int32.lt_iff_toInt_lt, Int32.le_iff_toInt_le, ← Int32.toInt_inj, Int32.reduceToInt, Int64.reduceToInt])
  by_cases a : x1.toInt < 0 ∨ 6 < x1.toInt
  · rw [if_pos a]
    refine ⟨-1, u, _, ?_, rfl, R⟩
    by_cases b : x1.toInt < 0
    · rw [if_pos b]
    · rw [if_neg b, if_neg (by omega)]
  · rw [if_neg a, if_neg (by omega), if_pos (by omega)]
    by_cases c : x2.toInt < 0 ∨ 9 < x2.toInt
    · rw [if_pos c]
      refine ⟨-2, u, _, ?_, rfl, R⟩
      by_cases b : x2.toInt < 0
      · rw [if_pos b]
      · rw [if_neg b, if_neg (by omega)]
    · rw [if_neg c, if_neg (by omega), if_pos (by omega)]
      by_cases d : (M_voices v).toInt = 10
      · rw [if_pos d, if_neg (by omega)]
        exact ⟨-4, u, _, rfl, rfl, R⟩
      · rw [if_neg d, if_pos (by omega), zgi_ok _ (by omega) (by omega), zgi_ok _ (by omega) (by omega), zgi_ok _ (by omega) (by omega)]
        refine ⟨_, _, _, rfl, rfl, R1, R2, R3, R4, R5, ⟨⟨?_, ?_⟩, ?_⟩, R7, R8, R9⟩
        · show V_voiceCount u + 1 = M_voices v + 1
          rw [h1]
        · show zrg 0 10 (M_voices v + 1)
          unfold zrg
          rw [z_one _ (by omega) (by omega)]
          omega
        · intro k hk
          have hk : k < (M_voices v + 1).toInt.toNat := hk
          rw [z_one _ (by omega) (by omega)] at hk
          have e : V_nv u = (M_voices v).toInt.toNat := by
            unfold V_nv
            rw [h1, z_nat]
            omega
          show (if k = V_nv u then (V_voiceCount u, (x1, x2)) else V_vo u k) = (Int32.ofNat k, (upd (M_kind v) (M_voices v).toInt.toNat x1 k, upd (M_v v) (M_voices v).toInt.toNat x2 k)) ∧ zrg 0 6 (upd (M_kind v) (M_voices v).toInt.toNat x1 k) ∧ zrg 0 9 (upd (M_v v) (M_voices v).toInt.toNat x2 k)
          rw [e]
          by_cases f : k = (M_voices v).toInt.toNat
          · rw [if_pos f, f, upd_eq, upd_eq, z_ofNat (by omega), h1]
            exact ⟨rfl, ⟨by omega, by omega⟩, ⟨by omega, by omega⟩⟩
          · rw [if_neg f, upd_ne _ _ f, upd_ne _ _ f]
            exact h3 k (by omega)
theorem z_kinds {k : Int32} (h : zrg 0 6 k) : k = 0 ∨ k = 1 ∨ k = 2 ∨ k = 3 ∨ k = 4 ∨ k = 5 ∨ k = 6 := by
  unfold zrg at h
  simp only [← Int32.toInt_inj, Int32.reduceToInt]
  omega
theorem z_isOf {k w : Int32} (n x : Int32) (h : zrg 0 6 k) (hw : zrg 0 6 w) : mO_isOf w (n, (k, x)) = some (if w = 0 ∨ k = w ∨ (w = 1 ∧ k = 4) ∨ (w = 2 ∧ k = 5) ∨ (w = 3 ∧ k = 6) then 1 else 0) := by
  rcases z_kinds h with rfl | rfl | rfl | rfl | rfl | rfl | rfl <;> rcases z_kinds hw with rfl | rfl | rfl | rfl | rfl | rfl | rfl <;> rfl
theorem pS_taken : zS_taken Rel := by
  intro x1 x2 u v R
  unfold mV_taken mM_taken
  simp only [z_in0, Int32.reduceToInt]
  rcases z_voice R x1 with ⟨a, b⟩ | ⟨a, b, c, d, e, f, g⟩
  · rw [a, if_pos b]
    (try simp only [z_in0, z_isPlaceM, z_isPlaceN, z_isLetterN, z_isTenthN, z_isTapeN, z_isTapeM]); (try simp only [Int32.lt_iff_toInt_lt, Int32.le_iff_toInt_le, ← Int32.toInt_inj, Int32.reduceToInt, Int64.reduceToInt, Option.bind_some, zcs])
    by_cases h : x2.toInt < 0 ∨ 6 < x2.toInt
    · rw [if_pos h]
      refine ⟨-2, ?_, rfl, R⟩
      by_cases h' : x2.toInt < 0
      · rw [if_pos h']
      · rw [if_neg h', if_neg (by omega)]
    · rw [if_neg h, if_neg (by omega), if_pos (by omega)]
      exact ⟨_, rfl, rfl, R⟩
  · rw [a, if_neg b]
    by_cases h : x2.toInt < 0 ∨ 6 < x2.toInt
    · rw [if_pos h]
      refine ⟨-2, ?_, rfl, R⟩
      (try simp only [z_in0, z_isPlaceM, z_isPlaceN, z_isLetterN, z_isTenthN, z_isTapeN, z_isTapeM]); (try simp only [Int32.lt_iff_toInt_lt, Int32.le_iff_toInt_le, ← Int32.toInt_inj, Int32.reduceToInt, Int64.reduceToInt])
      by_cases h' : x2.toInt < 0
      · rw [if_pos h']
      · rw [if_neg h', if_neg (by omega)]
    · have hw : zrg 0 6 x2 := ⟨by omega, by omega⟩
      rw [if_neg h, if_neg (by (try simp only [z_in0, z_isPlaceM, z_isPlaceN, z_isLetterN, z_isTenthN, z_isTapeN, z_isTapeM]); (try simp only [Int32.lt_iff_toInt_lt, Int32.le_iff_toInt_le, ← Int32.toInt_inj, Int32.reduceToInt, Int64.reduceToInt]); omega), if_pos (by (try simp only [z_in0, z_isPlaceM, z_isPlaceN, z_isLetterN, z_isTenthN, z_isTapeN, z_isTapeM]); (try simp only [Int32.lt_iff_toInt_lt, Int32.le_iff_toInt_le, ← Int32.toInt_inj, Int32.reduceToInt, Int64.reduceToInt]); omega), zgi_ok _ c.1 (by omega)]
      show ∃ r, (zgk x1.toInt.toNat (V_nv u) ((mO_isOf x2 (V_vo u x1.toInt.toNat)).bind fun q2 => if q2 = 0 then some (-12) else zgk x1.toInt.toNat (V_nv u) (some (O_kind (V_vo u x1.toInt.toNat))))) = some r ∧ _ ∧ _
      rw [zgk_ok _ d, e, z_isOf _ _ f hw, zgk_ok _ d, z_nat]
      generalize M_kind v x1.toInt.toNat = k at *
      unfold mM_taken_J51 mM_taken_J61
      rcases z_kinds f with rfl | rfl | rfl | rfl | rfl | rfl | rfl <;> rcases z_kinds hw with rfl | rfl | rfl | rfl | rfl | rfl | rfl <;> exact ⟨_, rfl, rfl, R⟩
