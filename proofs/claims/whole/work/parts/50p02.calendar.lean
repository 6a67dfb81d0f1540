/-! the calendar -/
theorem ms_tab {m : Int} (h : 1 ≤ m ∧ m ≤ 12) : (m = 1 ∧ msF m = 31 ∧ msF (m - 1) = 0) ∨ (m = 2 ∧ msF m = 59 ∧ msF (m - 1) = 31) ∨ (m = 3 ∧ msF m = 90 ∧ msF (m - 1) = 59) ∨ (m = 4 ∧ msF m = 120 ∧ msF (m - 1) = 90) ∨ (m = 5 ∧ msF m = 151 ∧ msF (m - 1) = 120) ∨ (m = 6 ∧ msF m = 181 ∧ msF (m - 1) = 151) ∨ (m = 7 ∧ msF m = 212 ∧ msF (m - 1) = 181) ∨ (m = 8 ∧ msF m = 243 ∧ msF (m - 1) = 212) ∨ (m = 9 ∧ msF m = 273 ∧ msF (m - 1) = 243) ∨ (m = 10 ∧ msF m = 304 ∧ msF (m - 1) = 273) ∨ (m = 11 ∧ msF m = 334 ∧ msF (m - 1) = 304) ∨ (m = 12 ∧ msF m = 365 ∧ msF (m - 1) = 334) := by
  rcases (show m = 1 ∨ m = 2 ∨ m = 3 ∨ m = 4 ∨ m = 5 ∨ m = 6 ∨ m = 7 ∨ m = 8 ∨ m = 9 ∨ m = 10 ∨ m = 11 ∨ m = 12 by omega) with rfl | rfl | rfl | rfl | rfl | rfl | rfl | rfl | rfl | rfl | rfl | rfl <;> decide
def yD (y : Int) : Int := 365 * y + (y + 3) / 4
def mD (y m : Int) : Int := yD y + msF (m - 1) + (if y % 4 = 0 ∧ 2 < m then 1 else 0)
def mL (y m : Int) : Int := msF m - msF (m - 1) + (if y % 4 = 0 ∧ m = 2 then 1 else 0)
def yO (d : Int) : Int := if 366 ≤ d % 1461 then d / 1461 * 4 + (d % 1461 - 1) / 365 else d / 1461 * 4
def mO (y d : Int) : Int := if d < mD y 2 then 1 else if d < mD y 3 then 2 else if d < mD y 4 then 3 else if d < mD y 5 then 4 else if d < mD y 6 then 5 else if d < mD y 7 then 6 else if d < mD y 8 then 7 else if d < mD y 9 then 8 else if d < mD y 10 then 9 else if d < mD y 11 then 10 else if d < mD y 12 then 11 else 12
theorem mD_step {y m : Int} (hm : 1 ≤ m ∧ m ≤ 11) : mD y (m + 1) = mD y m + mL y m := by
  have h1 := ms_tab (m := m) (by omega)
  unfold mD mL
  rw [show m + 1 - 1 = m by omega]
  split <;> split <;> split <;> omega
theorem mL_rng {y m : Int} (hm : 1 ≤ m ∧ m ≤ 12) : 28 ≤ mL y m ∧ mL y m ≤ 31 := by
  have h1 := ms_tab hm
  unfold mL; split <;> omega
theorem mD_1 {y : Int} : mD y 1 = yD y := by
  have h1 := ms_tab (m := 1) (by omega)
  unfold mD; rw [if_neg (by omega)]; omega
theorem mD_13 {y : Int} (hy : 0 ≤ y) : mD y 12 + mL y 12 = yD (y + 1) := by
  have h1 := ms_tab (m := 12) (by omega)
  unfold mD mL yD
  split <;> split <;> omega
theorem mD_mono {y i j : Int} (h1 : 1 ≤ i) (h2 : i ≤ j) (h3 : j ≤ 12) : mD y i ≤ mD y j := by
  have a := ms_tab (m := i) (by omega)
  have b := ms_tab (m := j) (by omega)
  unfold mD
  split <;> split <;> omega
theorem mD_rng {y m : Int} (hy : 0 ≤ y ∧ y ≤ 31) (hm : 1 ≤ m ∧ m ≤ 12) : 0 ≤ mD y m ∧ mD y m + mL y m ≤ 11688 := by
  have h1 := ms_tab hm
  unfold mD mL yD
  split <;> split <;> omega
theorem yO_rng {d : Int} (h : 0 ≤ d ∧ d ≤ 11687) : 0 ≤ yO d ∧ yO d ≤ 31 ∧ yD (yO d) ≤ d ∧ d < yD (yO d + 1) := by
  unfold yO yD; split <;> omega
theorem yD_mono {a b : Int} (h0 : 0 ≤ a) (h : a ≤ b) : yD a ≤ yD b := by unfold yD; omega
theorem mO_le {y d j : Int} (h : yD y ≤ d) (hj : 1 ≤ j ∧ j ≤ 12) : mD y j ≤ d ↔ j ≤ mO y d := by
  have h1 : mD y 1 = yD y := mD_1
  have a2 := mD_mono (y := y) (i := 1) (j := 2) (by omega) (by omega) (by omega)
  have a3 := mD_mono (y := y) (i := 2) (j := 3) (by omega) (by omega) (by omega)
  have a4 := mD_mono (y := y) (i := 3) (j := 4) (by omega) (by omega) (by omega)
  have a5 := mD_mono (y := y) (i := 4) (j := 5) (by omega) (by omega) (by omega)
  have a6 := mD_mono (y := y) (i := 5) (j := 6) (by omega) (by omega) (by omega)
  have a7 := mD_mono (y := y) (i := 6) (j := 7) (by omega) (by omega) (by omega)
  have a8 := mD_mono (y := y) (i := 7) (j := 8) (by omega) (by omega) (by omega)
  have a9 := mD_mono (y := y) (i := 8) (j := 9) (by omega) (by omega) (by omega)
  have a10 := mD_mono (y := y) (i := 9) (j := 10) (by omega) (by omega) (by omega)
  have a11 := mD_mono (y := y) (i := 10) (j := 11) (by omega) (by omega) (by omega)
  have a12 := mD_mono (y := y) (i := 11) (j := 12) (by omega) (by omega) (by omega)
  unfold mO
  rcases (show j = 1 ∨ j = 2 ∨ j = 3 ∨ j = 4 ∨ j = 5 ∨ j = 6 ∨ j = 7 ∨ j = 8 ∨ j = 9 ∨ j = 10 ∨ j = 11 ∨ j = 12 by omega) with rfl | rfl | rfl | rfl | rfl | rfl | rfl | rfl | rfl | rfl | rfl | rfl <;> omega
theorem mO_rng {y d : Int} : 1 ≤ mO y d ∧ mO y d ≤ 12 := by
  unfold mO; omega
theorem mO_in {d : Int} (h : 0 ≤ d ∧ d ≤ 11687) : mD (yO d) (mO (yO d) d) ≤ d ∧ d < mD (yO d) (mO (yO d) d) + mL (yO d) (mO (yO d) d) := by
  obtain ⟨h1, h2, h3, h4⟩ := yO_rng h
  have hm := mO_rng (y := yO d) (d := d)
  refine ⟨(mO_le h3 hm).mpr (Int.le_refl _), ?_⟩
  by_cases c : mO (yO d) d = 12
  · rw [c, mD_13 h1]; exact h4
  · have := mO_le (j := mO (yO d) d + 1) h3 (by omega)
    rw [mD_step (by omega)] at this
    omega
/-- the day of a date, -1 where the month has none -/
def wF (d w : Int) : Int := d + (w - (d + 5) % 7 + 7) % 7
def dB (y m date : Int) : Int :=
  if date ≤ 31 then (if date ≤ mL y m then mD y m + date - 1 else -1)
  else if date < 500 then (if wF (mD y m) (date % 100) + 7 * (date / 100 - 1) < mD y m + mL y m then wF (mD y m) (date % 100) + 7 * (date / 100 - 1) else -1)
  else if date < 1000 then wF (mD y m + mL y m - 7) (date % 100)
  else (if wF (mD y m + (date - 1000) / 10 - 1) (date % 10) < mD y m + mL y m then wF (mD y m + (date - 1000) / 10 - 1) (date % 10) else -1)
def dtOk (d : Int) : Prop := (1 ≤ d ∧ d ≤ 31) ∨ (100 ≤ d ∧ d ≤ 599 ∧ d % 100 ≤ 6) ∨ (1010 ≤ d ∧ d ≤ 1319 ∧ d % 10 ≤ 6)
theorem wF_rng {d w : Int} (hd : 0 ≤ d) (hw : 0 ≤ w ∧ w ≤ 6) : d ≤ wF d w ∧ wF d w ≤ d + 6 := by unfold wF; omega
theorem dB_rng {y m date : Int} (hy : 0 ≤ y ∧ y ≤ 31) (hm : 1 ≤ m ∧ m ≤ 12) (hd : dtOk date) : dB y m date = -1 ∨ (mD y m ≤ dB y m date ∧ dB y m date < mD y m + mL y m) := by
  have h1 := mD_rng hy hm
  have h2 := mL_rng (y := y) hm
  unfold dtOk at hd
  unfold dB
  split
  · split <;> omega
  · split
    · have := wF_rng (d := mD y m) (w := date % 100) (by omega) (by omega)
      split <;> omega
    · split
      · have := wF_rng (d := mD y m + mL y m - 7) (w := date % 100) (by omega) (by omega)
        omega
      · have := wF_rng (d := mD y m + (date - 1000) / 10 - 1) (w := date % 10) (by omega) (by omega)
        split <;> omega
/-! of the class -/
theorem pf_mS {y m : Int} : pf_X1_monthStart y m = mD y m := by
  unfold pf_X1_monthStart mD yD; omega
theorem pf_mL {y m : Int} : pf_X1_monthLength y m = mL y m := by
  unfold pf_X1_monthLength mL; omega
theorem pg_mS {y m : Int} (hy : 0 ≤ y ∧ y ≤ 40) (hm : 1 ≤ m ∧ m ≤ 12) : pg_X1_monthStart y m := by
  unfold pg_X1_monthStart rg; simp only [implies_true, and_true, true_and] <;> omega
theorem pg_mL {y m : Int} (hy : 0 ≤ y ∧ y ≤ 40) (hm : 1 ≤ m ∧ m ≤ 12) : pg_X1_monthLength y m := by
  unfold pg_X1_monthLength rg; simp only [implies_true, and_true, true_and] <;> omega
theorem pf_wF {d w : Int} : pf_X1_weekdayFrom d w = wF d w := rfl
theorem pg_wF {d w : Int} (hd : 0 ≤ d ∧ d ≤ 20000) (hw : 0 ≤ w ∧ w ≤ 6) : pg_X1_weekdayFrom d w := by
  unfold pg_X1_weekdayFrom; simp only [implies_true, and_true, true_and] <;> omega
theorem pf_yO {d : Int} : pf_X1_yearOf d = yO d := by unfold pf_X1_yearOf yO; split <;> omega
theorem pg_yO {d : Int} (h : 0 ≤ d ∧ d ≤ 11687) : pg_X1_yearOf d := by unfold pg_X1_yearOf rg; simp only [implies_true, and_true, true_and] <;> omega
theorem pf_dD {y m date : Int} (hy : 0 ≤ y ∧ y ≤ 31) (hm : 1 ≤ m ∧ m ≤ 12) (hd : dtOk date) : pf_X1_dayOfDate y m date = dB y m date := by
  have h1 := mD_rng hy hm
  have h2 := mL_rng (y := y) hm
  unfold dtOk at hd
  unfold pf_X1_dayOfDate dB
  rw [pf_mS, pf_mL, pf_wF, pf_wF, pf_wF]
  have a3 : 500 ≤ date → date < 1000 → wF (mD y m + mL y m - 7) (date % 100) < mD y m + mL y m := fun q1 q2 => by
    have := wF_rng (d := mD y m + mL y m - 7) (w := date % 100) (by omega) (by omega)
    omega
  have e1 : mD y m + ((date - 1000) / 10) - 1 = mD y m + (date - 1000) / 10 - 1 := rfl
  by_cases c1 : 31 < date
  · rw [if_pos c1, if_neg (show ¬ date ≤ 31 by omega)]
    by_cases c2 : 500 ≤ date
    · rw [if_pos c2, if_neg (show ¬ date < 500 by omega)]
      by_cases c3 : 1000 ≤ date
      · rw [if_pos c3, if_neg (show ¬ date < 1000 by omega)]
        omega
      · have := a3 c2 (by omega)
        rw [if_neg c3, if_pos (show date < 1000 by omega)]
        omega
    · rw [if_neg c2, if_pos (show date < 500 by omega)]
      omega
  · rw [if_neg c1, if_pos (show date ≤ 31 by omega)]
    omega
theorem pg_dD {y m date : Int} (hy : 0 ≤ y ∧ y ≤ 31) (hm : 1 ≤ m ∧ m ≤ 12) (hd : dtOk date) : pg_X1_dayOfDate y m date := by
  have h1 := mD_rng hy hm
  have h2 := mL_rng (y := y) hm
  unfold dtOk at hd
  unfold pg_X1_dayOfDate
  rw [pf_mS, pf_mL, pf_wF, pf_wF, pf_wF]
  refine ⟨pg_mS (by omega) hm, pg_mL (by omega) hm, ⟨by omega, by omega⟩, fun c1 => ⟨fun c2 => ⟨fun c3 => ⟨by omega, by omega, pg_wF (by omega) (by omega), ?_, ⟨by omega, by omega⟩, fun _ => trivial, fun _ => trivial⟩, fun c3 => ⟨by omega, pg_wF (by omega) (by omega), ?_, ⟨by omega, by omega⟩, fun _ => trivial, fun _ => trivial⟩⟩, fun c2 => ⟨by omega, pg_wF (by omega) (by omega), ?_, ⟨by omega, by omega⟩, fun _ => trivial, fun _ => trivial⟩⟩, fun c1 => ⟨⟨by omega, by omega⟩, ⟨by omega, by omega⟩, fun _ => trivial, fun _ => trivial⟩⟩
  · have := wF_rng (d := mD y m + (date - 1000) / 10 - 1) (w := date % 10) (by omega) (by omega)
    exact ⟨by omega, by omega⟩
  · have := wF_rng (d := mD y m + mL y m - 7) (w := date % 100) (by omega) (by omega)
    exact ⟨by omega, by omega⟩
  · have := wF_rng (d := mD y m) (w := date % 100) (by omega) (by omega)
    exact ⟨by omega, by omega⟩
theorem sp_X1_monthOf {M : jT} {y d : Int} {Q : Int → Prop} (hy : 0 ≤ y ∧ y ≤ 31) (hd : yD y ≤ d ∧ d ≤ 11687) (k : Q (mO y d)) : wp_X1_monthOf M y d Q := by
  unfold wp_X1_monthOf
  refine ⟨by omega, ?_⟩
  intro x2 e2
  have hr := mO_rng (y := y) (d := d)
  have hyd : 0 ≤ yD y := by unfold yD; omega
  refine ⟨fun n x3 x4 => x3 = min (mO y d) x4 ∧ 1 ≤ x4 ∧ x4 ≤ 12 ∧ (12 - x4).toNat ≤ n, ⟨11, by omega⟩, ?_⟩
  rintro n6 x3 x4 ⟨i1, i2, i3, i4⟩
  refine ⟨⟨by omega, by omega⟩, fun c => ?_, fun c => ⟨by omega, ?_⟩⟩
  · rw [i1, show min (mO y d) x4 = mO y d by omega]; exact k
  · have ht := ms_tab (m := x4) (by omega)
    have hle := mO_le (j := x4 + 1) hd.1 (by omega)
    have key : ∀ l : Int, (l = if y % 4 = 0 ∧ 2 < x4 + 1 then 1 else 0) → (msF x4 + l ≤ x2 ↔ x4 < mO y d) := by
      intro l hl
      have : mD y (x4 + 1) = yD y + msF x4 + l := by
        rw [hl]; unfold mD; rw [show x4 + 1 - 1 = x4 by omega]
      have e3 : x2 = d - yD y := by unfold yD; omega
      omega
    refine ⟨fun x17 => x17 = if y % 4 = 0 ∧ 2 < x4 + 1 then 1 else 0, fun x17 h17 => ⟨by omega, ⟨⟨by unfold yD at hd; omega, by omega⟩, ⟨by split at h17 <;> omega, by split at h17 <;> omega⟩, fun _ => trivial, fun _ => trivial⟩, ?_⟩, ?_⟩
    · intro x28 e28 x29 e29
      refine ⟨(12 - x29).toNat, by omega, ?_, by omega, by omega, by omega⟩
      rw [e28]
      by_cases q : x4 < mO y d
      · rw [b2i_t ((key x17 h17).mpr q)]; omega
      · rw [b2i_f (fun z => q ((key x17 h17).mp z))]; omega
    · refine ⟨¬ (y % 4 = 0 ∧ 2 < x4 + 1), fun q => by rw [if_neg q], ⟨by omega, by omega⟩, fun q => by omega, fun q => ⟨fun q2 => by omega, fun q2 => by rw [if_pos (by omega)]⟩⟩
/-! of the reference -/
theorem pf_yD {y : Int} : pf_X11_yearDay y = yD y := rfl
theorem pf_rmL {y m : Int} (hm : 1 ≤ m ∧ m ≤ 12) : pf_X11_monthLength y m = mL y m := by
  have h := ms_tab hm
  unfold pf_X11_monthLength mL
  omega
theorem pg_rmL {y m : Int} (hy : 0 ≤ y ∧ y ≤ 40) (hm : 1 ≤ m ∧ m ≤ 12) : pg_X11_monthLength y m := by
  unfold pg_X11_monthLength rg; simp only [implies_true, and_true, true_and] <;> omega
theorem pg_yD {y : Int} (hy : 0 ≤ y ∧ y ≤ 40) : pg_X11_yearDay y := by unfold pg_X11_yearDay; simp only [implies_true, and_true, true_and] <;> omega
theorem sp_monthDay {M : jT} {y m : Int} {Q : Int → Prop} (hy : 0 ≤ y ∧ y ≤ 31) (hm : 1 ≤ m ∧ m ≤ 12) (k : Q (mD y m)) : wp_X11_monthDay M y m Q := by
  unfold wp_X11_monthDay
  refine ⟨pg_yD (by omega), ?_⟩
  intro x4 e4
  refine ⟨fun n d j => d = mD y j ∧ 1 ≤ j ∧ j ≤ m ∧ (m - j).toNat ≤ n, ⟨m.toNat, by rw [e4, mD_1, pf_yD], by omega, by omega, by omega⟩, ?_⟩
  rintro n8 x5 x6 ⟨i1, i2, i3, i4⟩
  refine ⟨⟨by omega, by omega⟩, ⟨by omega, by omega⟩, fun c => ?_, fun c => ⟨pg_rmL (by omega) (by omega), ?_⟩⟩
  · rw [i1, show x6 = m by omega]; exact k
  · intro x15 e15 x16 e16
    refine ⟨(m - x16).toNat, by omega, ?_, by omega, by omega, by omega⟩
    rw [e16, mD_step (by omega), e15, i1, pf_rmL (by omega)]
theorem sp_yearOf {M : jT} {d : Int} {Q : Int → Prop} (hd : 0 ≤ d ∧ d ≤ 11687) (k : Q (yO d)) : wp_X11_yearOf M d Q := by
  obtain ⟨h1, h2, h3, h4⟩ := yO_rng hd
  unfold wp_X11_yearOf
  refine ⟨fun n y => 0 ≤ y ∧ y ≤ yO d ∧ (yO d - y).toNat ≤ n, ⟨(yO d).toNat, by omega, by omega, by omega⟩, ?_⟩
  rintro n3 x1 ⟨i1, i2, i3⟩
  rw [pf_yD]
  refine ⟨pg_yD (by omega), ⟨by unfold yD; omega, by unfold yD; omega⟩, ⟨by omega, by omega⟩, fun c => ?_, fun c => ?_⟩
  · have : x1 = yO d := by
      by_cases q : x1 = yO d
      · exact q
      · have := yD_mono (a := x1 + 1) (b := yO d) (by omega) (by omega)
        omega
    rw [this]; exact k
  · intro x10 e10
    have : x1 ≠ yO d := fun q => by rw [q] at c; omega
    exact ⟨(yO d - x10).toNat, by omega, by omega, by omega, by omega⟩
theorem sp_monthOf {M : jT} {d : Int} {Q : Int → Prop} (hd : 0 ≤ d ∧ d ≤ 11687) (k : Q (mO (yO d) d)) : wp_X11_monthOf M d Q := by
  obtain ⟨h1, h2, h3, h4⟩ := yO_rng hd
  have hr := mO_rng (y := yO d) (d := d)
  unfold wp_X11_monthOf
  refine sp_yearOf hd ?_
  refine ⟨fun n m => 1 ≤ m ∧ m ≤ mO (yO d) d ∧ (12 - m).toNat ≤ n, ⟨12, by omega, by omega, by omega⟩, ?_⟩
  rintro n5 x3 ⟨i1, i2, i3⟩
  refine ⟨x3 = mO (yO d) d, fun q => by rw [q]; exact k, ⟨by omega, by omega⟩, fun c => by omega, fun c => ?_⟩
  refine sp_monthDay ⟨h1, h2⟩ (by omega) ?_
  have hle := mO_le (j := x3 + 1) h3 (by omega)
  have hg := mD_rng (y := yO d) (m := x3 + 1) ⟨h1, h2⟩ (by omega)
  have hg2 := mL_rng (y := yO d) (m := x3 + 1) (by omega)
  refine ⟨⟨by omega, by omega⟩, ⟨by omega, by omega⟩, fun c2 => by omega, fun c2 => ?_⟩
  intro x23 e23
  exact ⟨(12 - x23).toNat, by omega, by omega, by omega, by omega⟩
theorem sp_dayOfMonth {M : jT} {d : Int} {Q : Int → Prop} (hd : 0 ≤ d ∧ d ≤ 11687) (k : Q (d - mD (yO d) (mO (yO d) d) + 1)) : wp_X11_dayOfMonth M d Q := by
  obtain ⟨h1, h2, h3, h4⟩ := yO_rng hd
  unfold wp_X11_dayOfMonth
  exact sp_yearOf hd (sp_monthOf hd (sp_monthDay ⟨h1, h2⟩ mO_rng k))
theorem sp_dayBy {M : jT} {y m date : Int} {Q : Int → Prop} (hy : 0 ≤ y ∧ y ≤ 31) (hm : 1 ≤ m ∧ m ≤ 12) (hd : dtOk date) (k : Q (dB y m date)) : wp_X11_dayBy M date y m Q := by
  have h1 := mD_rng hy hm
  have h2 := mL_rng (y := y) hm
  unfold dtOk at hd
  unfold wp_X11_dayBy
  refine sp_monthDay hy hm ⟨pg_rmL (by omega) hm, ?_⟩
  intro x6 e6
  rw [pf_rmL hm] at e6
  refine ⟨⟨by omega, by omega⟩, fun c1 => ⟨⟨fun _ => ⟨by omega, trivial⟩, fun _ => ⟨by omega, trivial⟩⟩, ?_⟩, fun c1 => ⟨⟨⟨by omega, by omega⟩, fun _ => trivial, fun _ => trivial⟩, ?_⟩⟩
  · intro x12 a1 a2
    refine ⟨⟨fun _ => ⟨fun _ => trivial, fun _ => trivial⟩, fun _ => ⟨by omega, trivial⟩⟩, ?_⟩
    intro x20 b1 b2 b3
    refine ⟨⟨by omega, by omega⟩, ⟨by omega, by omega⟩, fun c2 => ⟨?_, ?_, ?_⟩, fun c2 => ?_⟩
    · unfold pg_X11_weekday; simp only [implies_true, and_true, true_and] <;> omega
    · unfold pf_X11_weekday; omega
    · intro x32 e32
      have e33 : mD y m + x32 - 1 = wF (mD y m + x20 - 1) x12 := by
        rw [e32]; unfold wF pf_X11_weekday; omega
      have e34 := wF_rng (d := mD y m + x20 - 1) (w := x12) (by omega) (by omega)
      refine ⟨⟨fun _ => trivial, fun _ => ⟨by omega, trivial⟩⟩, ?_⟩
      intro x35 d1 d2
      refine ⟨⟨⟨by omega, by omega⟩, fun _ => trivial, fun _ => trivial⟩, ?_⟩
      intro x41 f1 f2
      have e42 : x41 = dB y m date := by
        unfold dB
        rw [if_neg (by omega)]
        by_cases c3 : date < 500
        · rw [if_pos c3]
          have g1 := b1 ⟨by omega, c3⟩
          have g2 := a2 (by omega)
          rw [g1, g2, show mD y m + 1 - 1 = mD y m by omega] at e33
          split <;> omega
        · rw [if_neg c3]
          by_cases c4 : date < 1000
          · rw [if_pos c4]
            have g1 := b2 ⟨c4, by omega⟩
            have g2 := a2 (by omega)
            rw [g1, g2, e6, show mD y m + (mL y m - 6) - 1 = mD y m + mL y m - 7 by omega] at e33
            omega
          · rw [if_neg c4]
            have g1 := b3 (by omega)
            have g2 := a1 (by omega)
            rw [g1, g2] at e33
            split <;> omega
      rw [e42]; exact k
    · have : dB y m date = -1 := by
        unfold dB
        have c3 : 1000 ≤ date := by omega
        rw [if_neg (by omega), if_neg (by omega), if_neg (by omega)]
        have := wF_rng (d := mD y m + (date - 1000) / 10 - 1) (w := date % 10) (by omega) (by omega)
        have g1 := b3 c3
        rw [if_neg (by omega)]
      rw [← this]; exact k
  · intro x47 f1 f2
    have e42 : x47 = dB y m date := by
      unfold dB
      rw [if_pos c1]
      split <;> omega
    rw [e42]; exact k
