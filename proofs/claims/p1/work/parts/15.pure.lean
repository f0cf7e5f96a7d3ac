/-! what the class and the model answer on a fresh object, side by side -/
theorem tp_wi {x lo hi : Int32} : (wi x lo hi = 0) ↔ (x.toInt < lo.toInt ∨ hi.toInt < x.toInt) := by
  unfold wi
  rw [← Int32.lt_iff_toInt_lt, ← Int32.lt_iff_toInt_lt]
  by_cases h1 : x < lo
  · rw [if_pos h1]; exact ⟨fun _ => Or.inl h1, fun _ => rfl⟩
  · rw [if_neg h1]
    by_cases h2 : hi < x
    · rw [if_pos h2]; exact ⟨fun _ => Or.inr h2, fun _ => rfl⟩
    · rw [if_neg h2]; exact ⟨fun h => absurd h (by decide), fun h => (h.elim h1 h2).elim⟩
theorem tp_inl {x : Int32} {lo hi : Int64} : (inl x.toInt64 lo hi = 0) ↔ (x.toInt < lo.toInt ∨ hi.toInt < x.toInt) := by
  have e1 : (lg_cmp x.toInt64 lo < 0) ↔ x.toInt < lo.toInt := by rw [lg_cmp_lt, Int64.lt_iff_toInt_lt, Int32.toInt_toInt64]
  have e2 : (lg_cmp x.toInt64 hi > 0) ↔ hi.toInt < x.toInt := by
    have := lg_cmp_gt x.toInt64 hi
    rw [Int64.lt_iff_toInt_lt, Int32.toInt_toInt64] at this
    exact this
  unfold inl
  by_cases h1 : lg_cmp x.toInt64 lo < 0
  · rw [if_pos h1]; exact ⟨fun _ => Or.inl (e1.mp h1), fun _ => rfl⟩
  · rw [if_neg h1]
    by_cases h2 : lg_cmp x.toInt64 hi > 0
    · rw [if_pos h2]; exact ⟨fun _ => Or.inr (e2.mp h2), fun _ => rfl⟩
    · rw [if_neg h2]; exact ⟨fun h => absurd h (by decide), fun h => (h.elim (fun z => h1 (e1.mpr z)) (fun z => h2 (e2.mpr z))).elim⟩
theorem tw {x lo hi : Int32} {lo' hi' : Int64} (h1 : lo'.toInt = lo.toInt) (h2 : hi'.toInt = hi.toInt) : (inl x.toInt64 lo' hi' = 0) ↔ (wi x lo hi = 0) := by
  rw [tp_inl, tp_wi, h1, h2]
theorem ta {x : Int32} : (inl x.toInt64 0 3 = 0) ↔ (x < 0 ∨ ¬ x < 4) := by
  rw [tp_inl, Int32.lt_iff_toInt_lt, Int32.lt_iff_toInt_lt]
  have e0 : (0 : Int64).toInt = 0 := by decide
  have e1 : (3 : Int64).toInt = 3 := by decide
  have e2 : (0 : Int32).toInt = 0 := by decide
  have e3 : (4 : Int32).toInt = 4 := by decide
  omega
theorem t_ge {b : Int32} : (b ≥ 2000) ↔ ¬ (b ≤ 1999) := by
  rw [ge_iff_le, Int32.le_iff_toInt_le, Int32.le_iff_toInt_le]
  have e0 : (2000 : Int32).toInt = 2000 := by decide
  have e1 : (1999 : Int32).toInt = 1999 := by decide
  omega
theorem tw_30_300 {x : Int32} : (inl x.toInt64 30 300 = 0) ↔ (wi x 30 300 = 0) := tw (by decide) (by decide)
theorem tw_0_2 {x : Int32} : (inl x.toInt64 0 2 = 0) ↔ (wi x 0 2 = 0) := tw (by decide) (by decide)
theorem tw_20_90 {x : Int32} : (inl x.toInt64 20 90 = 0) ↔ (wi x 20 90 = 0) := tw (by decide) (by decide)
theorem tw_1_300 {x : Int32} : (inl x.toInt64 1 300 = 0) ↔ (wi x 1 300 = 0) := tw (by decide) (by decide)
theorem tw_0_2000 {x : Int32} : (inl x.toInt64 0 2000 = 0) ↔ (wi x 0 2000 = 0) := tw (by decide) (by decide)
theorem tw_0_20 {x : Int32} : (inl x.toInt64 0 20 = 0) ↔ (wi x 0 20 = 0) := tw (by decide) (by decide)
theorem tw_0_1439 {x : Int32} : (inl x.toInt64 0 1439 = 0) ↔ (wi x 0 1439 = 0) := tw (by decide) (by decide)
theorem tw_1_7 {x : Int32} : (inl x.toInt64 1 7 = 0) ↔ (wi x 1 7 = 0) := tw (by decide) (by decide)
theorem tw_0_1999 {x : Int32} : (inl x.toInt64 0 1999 = 0) ↔ (wi x 0 1999 = 0) := tw (by decide) (by decide)
theorem tw_0_3 {x : Int32} : (inl x.toInt64 0 3 = 0) ↔ (wi x 0 3 = 0) := tw (by decide) (by decide)
theorem tm_fly (a b c_ : Int32) : sp_m_fly a b c_ = sp_fly a b c_ := by
  unfold sp_m_fly sp_fly
  simp only [ta, tw_30_300]
theorem tv_fly (a b c_ : Int32) (h : sp_fly a b c_ = 0) : sv_fly a b c_ = sv_m_fly a b c_ := by
  unfold sp_fly at h
  unfold sv_fly sv_m_fly
  simp only [ta, tw_30_300]
  by_cases h0 : (a < 0 ∨ ¬ a < 4)
  · rw [if_pos h0] at h; exact absurd h (by decide)
  rw [if_neg h0] at h
  by_cases h1 : (b < 0 ∨ ¬ b < 4)
  · rw [if_pos h1] at h; exact absurd h (by decide)
  rw [if_neg h1] at h
  by_cases h2 : a = b
  · rw [if_pos h2] at h; exact absurd h (by decide)
  rw [if_neg h2] at h
  by_cases h3 : wi c_ 30 300 = 0
  · rw [if_pos h3] at h; exact absurd h (by decide)
  rw [if_neg h0, if_neg h1, if_neg h2, if_neg h3, if_neg h0, if_neg h1, if_neg h2, if_neg h3]
theorem tm_addAircraft (a b c_ d_ f_ g_ : Int32) : sp_m_addAircraft a b c_ d_ f_ g_ = sp_addAircraft a b c_ d_ f_ g_ := by
  unfold sp_m_addAircraft sp_addAircraft
  simp only [ta, tw_0_2, tw_20_90, tw_1_300, tw_0_2000, tw_0_20]
  by_cases h0 : (b < 0 ∨ ¬ b < 4) <;> by_cases h1 : wi a 0 2 = 0 <;> by_cases h2 : wi c_ 20 90 = 0 <;> by_cases h3 : wi d_ 1 300 = 0 <;> by_cases h4 : wi f_ 0 2000 = 0 <;> by_cases h5 : wi g_ 0 20 = 0 <;> simp only [h0, h1, h2, h3, h4, h5, if_true, if_false]
theorem tv_addAircraft (a b c_ d_ f_ g_ : Int32) (h : sp_addAircraft a b c_ d_ f_ g_ = 0) : sv_addAircraft a b c_ d_ f_ g_ = sv_m_addAircraft a b c_ d_ f_ g_ := by
  unfold sp_addAircraft at h
  unfold sv_addAircraft sv_m_addAircraft
  simp only [ta, tw_0_2, tw_20_90, tw_1_300, tw_0_2000, tw_0_20]
  repeat' split at h
  all_goals first | exact absurd h (by decide) | simp_all
theorem tm_addCrew (a b c_ d_ : Int32) : sp_m_addCrew a b c_ d_ = sp_addCrew a b c_ d_ := by
  unfold sp_m_addCrew sp_addCrew
  simp only [ta, tw_0_1439, tw_1_7]
theorem tv_addCrew (a b c_ d_ : Int32) (h : sp_addCrew a b c_ d_ = 0) : sv_addCrew a b c_ d_ = sv_m_addCrew a b c_ d_ := by
  unfold sp_addCrew at h
  unfold sv_addCrew sv_m_addCrew
  simp only [ta, tw_0_1439, tw_1_7]
  repeat' split at h
  all_goals first | exact absurd h (by decide) | simp_all
theorem tm_addStand (a b : Int32) : sp_m_addStand a b = sp_addStand a b := by
  unfold sp_m_addStand sp_addStand
  simp only [tw_0_2, ite_self]
theorem tv_addStand (a b : Int32) (h : sp_addStand a b = 0) : sv_addStand a b = sv_m_addStand a b := by
  unfold sp_addStand at h
  unfold sv_addStand sv_m_addStand
  simp only [tw_0_2, ite_self]
  split at h
  · exact absurd h (by decide)
  · simp_all
theorem tm_turnRunway (a : Int32) : sp_m_turnRunway a = sp_turnRunway a := by
  unfold sp_m_turnRunway sp_turnRunway
  simp only [tw_0_1999]
theorem tv_turnRunway (a : Int32) (h : sp_turnRunway a = 0) : sv_turnRunway a = sv_m_turnRunway a := by
  unfold sp_turnRunway at h
  unfold sv_turnRunway sv_m_turnRunway
  simp only [tw_0_1999]
  split at h
  · exact absurd h (by decide)
  · simp_all
theorem tm_ice (a b : Int32) : sp_m_ice a b = sp_ice a b := by
  unfold sp_m_ice sp_ice
  simp only [tw_0_1999, t_ge]
  by_cases h0 : wi a 0 1999 = 0 <;> by_cases h1 : b ≤ 1999 <;> by_cases h2 : b ≥ a <;> simp only [h0, h1, h2, if_true, if_false, not_true, not_false_eq_true, ite_self]
theorem tv_ice (a b : Int32) (h : sp_ice a b = 0) : sv_ice a b = sv_m_ice a b := by
  unfold sp_ice at h
  unfold sv_ice sv_m_ice
  simp only [tw_0_1999, t_ge] at h ⊢
  by_cases h0 : wi a 0 1999 = 0 <;> by_cases h1 : b ≤ 1999 <;> by_cases h2 : b ≥ a <;> simp only [h0, h1, h2, if_true, if_false, not_true, not_false_eq_true, ite_self] at h ⊢ <;> exact absurd h (by decide)
theorem tm_setPads (a : Int32) : sp_m_setPads a = sp_setPads a := by
  unfold sp_m_setPads sp_setPads
  simp only [tw_0_3]
theorem tv_setPads (a : Int32) (h : sp_setPads a = 0) : sv_setPads a = sv_m_setPads a := by
  unfold sp_setPads at h
  unfold sv_setPads sv_m_setPads
  simp only [tw_0_3]
  split at h
  · exact absurd h (by decide)
  · simp_all
theorem tm_choose (a : Int32) : sp_m_isSet a = sp_choose a := by
  unfold sp_m_isSet sp_choose
  have e : a >>> (0 &&& 31) = a := by rw [show ((0 : Int32) &&& 31) = 0 by decide]; simp
  rw [e]
  have h1 : (inl a.toInt64 0 0 = 0) ↔ (a < 0 ∨ ¬ a = 0) := by
    rw [tp_inl, Int32.lt_iff_toInt_lt, ← Int32.toInt_inj]
    have e0 : (0 : Int64).toInt = 0 := by decide
    have e2 : (0 : Int32).toInt = 0 := by decide
    omega
  simp only [h1]
  by_cases h2 : a < 0
  · rw [if_pos (Or.inl h2), if_pos h2]
  · by_cases h3 : a = 0
    · rw [if_neg (fun q => q.elim h2 (fun z => z h3)), if_neg h2, if_pos h3]
    · rw [if_pos (Or.inr h3), if_neg h2, if_neg h3]
theorem tm_recover (a : Int32) : sp_m_recover a = sp_choose a := tm_choose a
theorem tm_isBest (a : Int32) : sp_m_isBest a = sp_choose a := tm_choose a
theorem tm_addFlight (a b c_ d_ f_ : Int32) : sp_m_addFlight a b c_ d_ f_ = 1 := by
  unfold sp_m_addFlight
  simp only [ite_self]
theorem tm_tell (a b c_ d_ f_ : Int32) : sp_m_tell a b c_ d_ f_ = 1 := by
  unfold sp_m_tell
  simp only [ite_self]
