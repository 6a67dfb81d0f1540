theorem nar_b {z : Int} (h : 0 ≤ z ∧ z ≤ 1) : narrow .boolean (.int (J z)) = .int (J z) := by
  rcases (show z = 0 ∨ z = 1 by omega) with rfl | rfl <;> rfl
theorem fit_b {z : Int} (h : 0 ≤ z ∧ z ≤ 1) : fits .boolean (.int (J z)) = true := by
  rcases (show z = 0 ∨ z = 1 by omega) with rfl | rfl <;> rfl
theorem nar_c {z : Int} (h : 0 ≤ z ∧ z < 65536) : narrow .char (.int (J z)) = .int (J z) := by
  rw [J_nI h.1]; exact (pk_charN (q := z.toNat) (by omega)).1
theorem b2i_iff {P R : Prop} (h : P ↔ R) : b2i R = b2i P := by rw [propext h]
theorem b2i_iff1 {P : Prop} (h : P ↔ True) : 1 = b2i P := (b2i_t (h.mpr trivial)).symm
theorem b2i_iff0 {P : Prop} (h : P ↔ False) : 0 = b2i P := (b2i_f (fun q => h.mp q)).symm
theorem pj_t {c d P1 P2 : Prop} (hc : c) (hd : ¬ d) : ((c ∧ P1) ∨ (d ∧ P2)) ↔ P1 := ⟨fun q => q.elim (fun q => q.2) (fun q => absurd q.1 hd), fun q => Or.inl ⟨hc, q⟩⟩
theorem pj_f {c d P1 P2 : Prop} (hc : ¬ c) (hd : d) : ((c ∧ P1) ∨ (d ∧ P2)) ↔ P2 := ⟨fun q => q.elim (fun q => absurd q.1 hc) (fun q => q.2), fun q => Or.inr ⟨hd, q⟩⟩
theorem em_eqI (a b : Int) : a = b ∨ a ≠ b := Classical.em (a = b)
theorem ra_20 : ra 20 = (6, 2, 4) := rfl
theorem ka_20 {k i : Int} (hk : kd k = 20) (hi : 0 ≤ i ∧ i < 6) : kd (k + 2 + 4 * i) = 9 := by
  obtain ⟨q, rfl, h⟩ := kd_all 20 (by decide) (fun q => ∀ i, i < 6 → kdN (q + 2 + 4 * i) = 9) (by decide +kernel) hk
  obtain ⟨j, rfl⟩ := Int.eq_ofNat_of_zero_le hi.1
  have h2 := h j (by omega)
  rw [← kd_nat] at h2
  rw [← h2]; congr 1
theorem ra_21 : ra 21 = (10, 25, 2) := rfl
theorem ka_21 {k i : Int} (hk : kd k = 21) (hi : 0 ≤ i ∧ i < 10) : kd (k + 25 + 2 * i) = 4 := by
  obtain ⟨q, rfl, h⟩ := kd_all 21 (by decide) (fun q => ∀ i, i < 10 → kdN (q + 25 + 2 * i) = 4) (by decide +kernel) hk
  obtain ⟨j, rfl⟩ := Int.eq_ofNat_of_zero_le hi.1
  have h2 := h j (by omega)
  rw [← kd_nat] at h2
  rw [← h2]; congr 1
theorem ra_22 : ra 22 = (9, 1, 47) := rfl
theorem ka_22 {k i : Int} (hk : kd k = 22) (hi : 0 ≤ i ∧ i < 9) : kd (k + 1 + 47 * i) = 1 := by
  obtain ⟨q, rfl, h⟩ := kd_all 22 (by decide) (fun q => ∀ i, i < 9 → kdN (q + 1 + 47 * i) = 1) (by decide +kernel) hk
  obtain ⟨j, rfl⟩ := Int.eq_ofNat_of_zero_le hi.1
  have h2 := h j (by omega)
  rw [← kd_nat] at h2
  rw [← h2]; congr 1
theorem ra_23 : ra 23 = (6, 1, 8) := rfl
theorem ka_23 {k i : Int} (hk : kd k = 23) (hi : 0 ≤ i ∧ i < 6) : kd (k + 1 + 8 * i) = 7 := by
  obtain ⟨q, rfl, h⟩ := kd_all 23 (by decide) (fun q => ∀ i, i < 6 → kdN (q + 1 + 8 * i) = 7) (by decide +kernel) hk
  obtain ⟨j, rfl⟩ := Int.eq_ofNat_of_zero_le hi.1
  have h2 := h j (by omega)
  rw [← kd_nat] at h2
  rw [← h2]; congr 1
theorem ra_24 : ra 24 = (10, 1, 3) := rfl
theorem ka_24 {k i : Int} (hk : kd k = 24) (hi : 0 ≤ i ∧ i < 10) : kd (k + 1 + 3 * i) = 5 := by
  obtain ⟨q, rfl, h⟩ := kd_all 24 (by decide) (fun q => ∀ i, i < 10 → kdN (q + 1 + 3 * i) = 5) (by decide +kernel) hk
  obtain ⟨j, rfl⟩ := Int.eq_ofNat_of_zero_le hi.1
  have h2 := h j (by omega)
  rw [← kd_nat] at h2
  rw [← h2]; congr 1
theorem dl_1_2 : dl 1 2 = 1 := rfl
theorem kf_1_2 {k : Int} (hk : kd k = 1) : kd (k + 1) = 20 := by
  obtain ⟨q, rfl, h⟩ := kd_all 1 (by decide) (fun q => kdN (q + 1) = 20) (by decide +kernel) hk
  rw [← kd_nat] at h
  exact h
theorem dl_1_3 : dl 1 3 = 2 := rfl
theorem kf_1_3 {k : Int} (hk : kd k = 1) : kd (k + 2) = 21 := by
  obtain ⟨q, rfl, h⟩ := kd_all 1 (by decide) (fun q => kdN (q + 2) = 21) (by decide +kernel) hk
  rw [← kd_nat] at h
  exact h
theorem dl_3_2 : dl 3 2 = 1 := rfl
theorem kf_3_2 {k : Int} (hk : kd k = 3) : kd (k + 1) = 1 := by
  obtain ⟨q, rfl, h⟩ := kd_all 3 (by decide) (fun q => kdN (q + 1) = 1) (by decide +kernel) hk
  rw [← kd_nat] at h
  exact h
theorem dl_3_4 : dl 3 4 = 48 := rfl
theorem kf_3_4 {k : Int} (hk : kd k = 3) : kd (k + 48) = 22 := by
  obtain ⟨q, rfl, h⟩ := kd_all 3 (by decide) (fun q => kdN (q + 48) = 22) (by decide +kernel) hk
  rw [← kd_nat] at h
  exact h
theorem dl_4_10 : dl 4 10 = 1 := rfl
theorem kf_4_10 {k : Int} (hk : kd k = 4) : kd (k + 1) = 1040 := by
  obtain ⟨q, rfl, h⟩ := kd_all 4 (by decide) (fun q => kdN (q + 1) = 1040) (by decide +kernel) hk
  rw [← kd_nat] at h
  exact h
theorem dl_5_3 : dl 5 3 = 1 := rfl
theorem kf_5_3 {k : Int} (hk : kd k = 5) : kd (k + 1) = 1040 := by
  obtain ⟨q, rfl, h⟩ := kd_all 5 (by decide) (fun q => kdN (q + 1) = 1040) (by decide +kernel) hk
  rw [← kd_nat] at h
  exact h
theorem dl_5_4 : dl 5 4 = 2 := rfl
theorem kf_5_4 {k : Int} (hk : kd k = 5) : kd (k + 2) = 1040 := by
  obtain ⟨q, rfl, h⟩ := kd_all 5 (by decide) (fun q => kdN (q + 2) = 1040) (by decide +kernel) hk
  rw [← kd_nat] at h
  exact h
theorem dl_6_4 : dl 6 4 = 1 := rfl
theorem kf_6_4 {k : Int} (hk : kd k = 6) : kd (k + 1) = 200060 := by
  obtain ⟨q, rfl, h⟩ := kd_all 6 (by decide) (fun q => kdN (q + 1) = 200060) (by decide +kernel) hk
  rw [← kd_nat] at h
  exact h
theorem dl_6_5 : dl 6 5 = 2 := rfl
theorem kf_6_5 {k : Int} (hk : kd k = 6) : kd (k + 2) = 1090 := by
  obtain ⟨q, rfl, h⟩ := kd_all 6 (by decide) (fun q => kdN (q + 2) = 1090) (by decide +kernel) hk
  rw [← kd_nat] at h
  exact h
theorem dl_7_6 : dl 7 6 = 1 := rfl
theorem kf_7_6 {k : Int} (hk : kd k = 7) : kd (k + 1) = 1260 := by
  obtain ⟨q, rfl, h⟩ := kd_all 7 (by decide) (fun q => kdN (q + 1) = 1260) (by decide +kernel) hk
  rw [← kd_nat] at h
  exact h
theorem dl_7_7 : dl 7 7 = 2 := rfl
theorem kf_7_7 {k : Int} (hk : kd k = 7) : kd (k + 2) = 1260 := by
  obtain ⟨q, rfl, h⟩ := kd_all 7 (by decide) (fun q => kdN (q + 2) = 1260) (by decide +kernel) hk
  rw [← kd_nat] at h
  exact h
theorem dl_7_8 : dl 7 8 = 3 := rfl
theorem kf_7_8 {k : Int} (hk : kd k = 7) : kd (k + 3) = 1260 := by
  obtain ⟨q, rfl, h⟩ := kd_all 7 (by decide) (fun q => kdN (q + 3) = 1260) (by decide +kernel) hk
  rw [← kd_nat] at h
  exact h
theorem dl_7_9 : dl 7 9 = 4 := rfl
theorem kf_7_9 {k : Int} (hk : kd k = 7) : kd (k + 4) = 1260 := by
  obtain ⟨q, rfl, h⟩ := kd_all 7 (by decide) (fun q => kdN (q + 4) = 1260) (by decide +kernel) hk
  rw [← kd_nat] at h
  exact h
theorem dl_7_10 : dl 7 10 = 5 := rfl
theorem kf_7_10 {k : Int} (hk : kd k = 7) : kd (k + 5) = 1260 := by
  obtain ⟨q, rfl, h⟩ := kd_all 7 (by decide) (fun q => kdN (q + 5) = 1260) (by decide +kernel) hk
  rw [← kd_nat] at h
  exact h
theorem dl_7_11 : dl 7 11 = 6 := rfl
theorem kf_7_11 {k : Int} (hk : kd k = 7) : kd (k + 6) = 1260 := by
  obtain ⟨q, rfl, h⟩ := kd_all 7 (by decide) (fun q => kdN (q + 6) = 1260) (by decide +kernel) hk
  rw [← kd_nat] at h
  exact h
theorem dl_7_12 : dl 7 12 = 7 := rfl
theorem kf_7_12 {k : Int} (hk : kd k = 7) : kd (k + 7) = 1261 := by
  obtain ⟨q, rfl, h⟩ := kd_all 7 (by decide) (fun q => kdN (q + 7) = 1261) (by decide +kernel) hk
  rw [← kd_nat] at h
  exact h
theorem dl_8_1 : dl 8 1 = 1 := rfl
theorem kf_8_1 {k : Int} (hk : kd k = 8) : kd (k + 1) = 200060 := by
  obtain ⟨q, rfl, h⟩ := kd_all 8 (by decide) (fun q => kdN (q + 1) = 200060) (by decide +kernel) hk
  rw [← kd_nat] at h
  exact h
theorem dl_9_3 : dl 9 3 = 1 := rfl
theorem kf_9_3 {k : Int} (hk : kd k = 9) : kd (k + 1) = 1056 := by
  obtain ⟨q, rfl, h⟩ := kd_all 9 (by decide) (fun q => kdN (q + 1) = 1056) (by decide +kernel) hk
  rw [← kd_nat] at h
  exact h
theorem dl_9_4 : dl 9 4 = 2 := rfl
theorem kf_9_4 {k : Int} (hk : kd k = 9) : kd (k + 2) = 1004 := by
  obtain ⟨q, rfl, h⟩ := kd_all 9 (by decide) (fun q => kdN (q + 2) = 1004) (by decide +kernel) hk
  rw [← kd_nat] at h
  exact h
theorem dl_9_5 : dl 9 5 = 3 := rfl
theorem kf_9_5 {k : Int} (hk : kd k = 9) : kd (k + 3) = 1004 := by
  obtain ⟨q, rfl, h⟩ := kd_all 9 (by decide) (fun q => kdN (q + 3) = 1004) (by decide +kernel) hk
  rw [← kd_nat] at h
  exact h
theorem dl_10_0 : dl 10 0 = 1 := rfl
theorem kf_10_0 {k : Int} (hk : kd k = 10) : kd (k + 1) = 1 := by
  obtain ⟨q, rfl, h⟩ := kd_all 10 (by decide) (fun q => kdN (q + 1) = 1) (by decide +kernel) hk
  rw [← kd_nat] at h
  exact h
theorem dl_10_1 : dl 10 1 = 48 := rfl
theorem kf_10_1 {k : Int} (hk : kd k = 10) : kd (k + 48) = 3 := by
  obtain ⟨q, rfl, h⟩ := kd_all 10 (by decide) (fun q => kdN (q + 48) = 3) (by decide +kernel) hk
  rw [← kd_nat] at h
  exact h
theorem dl_10_2 : dl 10 2 = 520 := rfl
theorem kf_10_2 {k : Int} (hk : kd k = 10) : kd (k + 520) = 23 := by
  obtain ⟨q, rfl, h⟩ := kd_all 10 (by decide) (fun q => kdN (q + 520) = 23) (by decide +kernel) hk
  rw [← kd_nat] at h
  exact h
theorem dl_10_3 : dl 10 3 = 569 := rfl
theorem kf_10_3 {k : Int} (hk : kd k = 10) : kd (k + 569) = 24 := by
  obtain ⟨q, rfl, h⟩ := kd_all 10 (by decide) (fun q => kdN (q + 569) = 24) (by decide +kernel) hk
  rw [← kd_nat] at h
  exact h
theorem dl_10_4 : dl 10 4 = 600 := rfl
theorem kf_10_4 {k : Int} (hk : kd k = 10) : kd (k + 600) = 2 := by
  obtain ⟨q, rfl, h⟩ := kd_all 10 (by decide) (fun q => kdN (q + 600) = 2) (by decide +kernel) hk
  rw [← kd_nat] at h
  exact h
theorem dl_10_5 : dl 10 5 = 601 := rfl
theorem kf_10_5 {k : Int} (hk : kd k = 10) : kd (k + 601) = 6 := by
  obtain ⟨q, rfl, h⟩ := kd_all 10 (by decide) (fun q => kdN (q + 601) = 6) (by decide +kernel) hk
  rw [← kd_nat] at h
  exact h
theorem dl_10_6 : dl 10 6 = 604 := rfl
theorem kf_10_6 {k : Int} (hk : kd k = 10) : kd (k + 604) = 8 := by
  obtain ⟨q, rfl, h⟩ := kd_all 10 (by decide) (fun q => kdN (q + 604) = 8) (by decide +kernel) hk
  rw [← kd_nat] at h
  exact h
theorem dl_10_7 : dl 10 7 = 606 := rfl
theorem kf_10_7 {k : Int} (hk : kd k = 10) : kd (k + 606) = 100260 := by
  obtain ⟨q, rfl, h⟩ := kd_all 10 (by decide) (fun q => kdN (q + 606) = 100260) (by decide +kernel) hk
  rw [← kd_nat] at h
  exact h
theorem dl_10_8 : dl 10 8 = 607 := rfl
theorem kf_10_8 {k : Int} (hk : kd k = 10) : kd (k + 607) = 100400 := by
  obtain ⟨q, rfl, h⟩ := kd_all 10 (by decide) (fun q => kdN (q + 607) = 100400) (by decide +kernel) hk
  rw [← kd_nat] at h
  exact h
theorem dl_11_1 : dl 11 1 = 1 := rfl
theorem kf_11_1 {k : Int} (hk : kd k = 11) : kd (k + 1) = 2294 := by
  obtain ⟨q, rfl, h⟩ := kd_all 11 (by decide) (fun q => kdN (q + 1) = 2294) (by decide +kernel) hk
  rw [← kd_nat] at h
  exact h
theorem dl_11_2 : dl 11 2 = 2 := rfl
theorem kf_11_2 {k : Int} (hk : kd k = 11) : kd (k + 2) = 11352 := by
  obtain ⟨q, rfl, h⟩ := kd_all 11 (by decide) (fun q => kdN (q + 2) = 11352) (by decide +kernel) hk
  rw [← kd_nat] at h
  exact h
theorem dl_11_4 : dl 11 4 = 3 := rfl
theorem kf_11_4 {k : Int} (hk : kd k = 11) : kd (k + 3) = 2294 := by
  obtain ⟨q, rfl, h⟩ := kd_all 11 (by decide) (fun q => kdN (q + 3) = 2294) (by decide +kernel) hk
  rw [← kd_nat] at h
  exact h
theorem dl_11_6 : dl 11 6 = 4 := rfl
theorem kf_11_6 {k : Int} (hk : kd k = 11) : kd (k + 4) = 2294 := by
  obtain ⟨q, rfl, h⟩ := kd_all 11 (by decide) (fun q => kdN (q + 4) = 2294) (by decide +kernel) hk
  rw [← kd_nat] at h
  exact h
theorem dl_11_7 : dl 11 7 = 5 := rfl
theorem kf_11_7 {k : Int} (hk : kd k = 11) : kd (k + 5) = 1060 := by
  obtain ⟨q, rfl, h⟩ := kd_all 11 (by decide) (fun q => kdN (q + 5) = 1060) (by decide +kernel) hk
  rw [← kd_nat] at h
  exact h
theorem dl_11_11 : dl 11 11 = 6 := rfl
theorem kf_11_11 {k : Int} (hk : kd k = 11) : kd (k + 6) = 1060 := by
  obtain ⟨q, rfl, h⟩ := kd_all 11 (by decide) (fun q => kdN (q + 6) = 1060) (by decide +kernel) hk
  rw [← kd_nat] at h
  exact h
theorem dl_11_13 : dl 11 13 = 7 := rfl
theorem kf_11_13 {k : Int} (hk : kd k = 11) : kd (k + 7) = 1008 := by
  obtain ⟨q, rfl, h⟩ := kd_all 11 (by decide) (fun q => kdN (q + 7) = 1008) (by decide +kernel) hk
  rw [← kd_nat] at h
  exact h
theorem dl_11_16 : dl 11 16 = 8 := rfl
theorem kf_11_16 {k : Int} (hk : kd k = 11) : kd (k + 8) = 1261 := by
  obtain ⟨q, rfl, h⟩ := kd_all 11 (by decide) (fun q => kdN (q + 8) = 1261) (by decide +kernel) hk
  rw [← kd_nat] at h
  exact h
theorem dl_11_17 : dl 11 17 = 9 := rfl
theorem kf_11_17 {k : Int} (hk : kd k = 11) : kd (k + 9) = 1261 := by
  obtain ⟨q, rfl, h⟩ := kd_all 11 (by decide) (fun q => kdN (q + 9) = 1261) (by decide +kernel) hk
  rw [← kd_nat] at h
  exact h
theorem dl_11_19 : dl 11 19 = 10 := rfl
theorem kf_11_19 {k : Int} (hk : kd k = 11) : kd (k + 10) = 1261 := by
  obtain ⟨q, rfl, h⟩ := kd_all 11 (by decide) (fun q => kdN (q + 10) = 1261) (by decide +kernel) hk
  rw [← kd_nat] at h
  exact h
theorem dl_11_20 : dl 11 20 = 11 := rfl
theorem kf_11_20 {k : Int} (hk : kd k = 11) : kd (k + 11) = 1261 := by
  obtain ⟨q, rfl, h⟩ := kd_all 11 (by decide) (fun q => kdN (q + 11) = 1261) (by decide +kernel) hk
  rw [← kd_nat] at h
  exact h
theorem dl_11_21 : dl 11 21 = 12 := rfl
theorem kf_11_21 {k : Int} (hk : kd k = 11) : kd (k + 12) = 1261 := by
  obtain ⟨q, rfl, h⟩ := kd_all 11 (by decide) (fun q => kdN (q + 12) = 1261) (by decide +kernel) hk
  rw [← kd_nat] at h
  exact h
theorem dl_11_22 : dl 11 22 = 13 := rfl
theorem kf_11_22 {k : Int} (hk : kd k = 11) : kd (k + 13) = 1261 := by
  obtain ⟨q, rfl, h⟩ := kd_all 11 (by decide) (fun q => kdN (q + 13) = 1261) (by decide +kernel) hk
  rw [← kd_nat] at h
  exact h
theorem dl_11_23 : dl 11 23 = 14 := rfl
theorem kf_11_23 {k : Int} (hk : kd k = 11) : kd (k + 14) = 1261 := by
  obtain ⟨q, rfl, h⟩ := kd_all 11 (by decide) (fun q => kdN (q + 14) = 1261) (by decide +kernel) hk
  rw [← kd_nat] at h
  exact h
theorem dl_11_25 : dl 11 25 = 15 := rfl
theorem kf_11_25 {k : Int} (hk : kd k = 11) : kd (k + 15) = 1261 := by
  obtain ⟨q, rfl, h⟩ := kd_all 11 (by decide) (fun q => kdN (q + 15) = 1261) (by decide +kernel) hk
  rw [← kd_nat] at h
  exact h
theorem dl_11_26 : dl 11 26 = 16 := rfl
theorem kf_11_26 {k : Int} (hk : kd k = 11) : kd (k + 16) = 1261 := by
  obtain ⟨q, rfl, h⟩ := kd_all 11 (by decide) (fun q => kdN (q + 16) = 1261) (by decide +kernel) hk
  rw [← kd_nat] at h
  exact h
theorem dl_11_27 : dl 11 27 = 17 := rfl
theorem kf_11_27 {k : Int} (hk : kd k = 11) : kd (k + 17) = 1261 := by
  obtain ⟨q, rfl, h⟩ := kd_all 11 (by decide) (fun q => kdN (q + 17) = 1261) (by decide +kernel) hk
  rw [← kd_nat] at h
  exact h
theorem dl_11_31 : dl 11 31 = 18 := rfl
theorem kf_11_31 {k : Int} (hk : kd k = 11) : kd (k + 18) = 1526 := by
  obtain ⟨q, rfl, h⟩ := kd_all 11 (by decide) (fun q => kdN (q + 18) = 1526) (by decide +kernel) hk
  rw [← kd_nat] at h
  exact h
theorem dl_11_32 : dl 11 32 = 19 := rfl
theorem kf_11_32 {k : Int} (hk : kd k = 11) : kd (k + 19) = 1040 := by
  obtain ⟨q, rfl, h⟩ := kd_all 11 (by decide) (fun q => kdN (q + 19) = 1040) (by decide +kernel) hk
  rw [← kd_nat] at h
  exact h
theorem dl_11_34 : dl 11 34 = 20 := rfl
theorem kf_11_34 {k : Int} (hk : kd k = 11) : kd (k + 20) = 1400 := by
  obtain ⟨q, rfl, h⟩ := kd_all 11 (by decide) (fun q => kdN (q + 20) = 1400) (by decide +kernel) hk
  rw [← kd_nat] at h
  exact h
theorem dl_11_35 : dl 11 35 = 21 := rfl
theorem kf_11_35 {k : Int} (hk : kd k = 11) : kd (k + 21) = 1400 := by
  obtain ⟨q, rfl, h⟩ := kd_all 11 (by decide) (fun q => kdN (q + 21) = 1400) (by decide +kernel) hk
  rw [← kd_nat] at h
  exact h
section JH
variable {p : Program} {l : Launch} {e : Env} {R : Room} {s : State} {m : MethodId} {args : Array Value} {below : List Frame} {meth : Method} {c : Code} {H H0 : Heap} {locs : List Loc} {cells slots : Nat} {Q : State → Prop} {cc : ByteArray} {pc : Nat} {ls : Array Slot} {rest : List Value} {D : va_G} {cy : Nat → ClassId} {o : Nat} {M : jT}
theorem j_tsw (hx : p.tables.exec = Jvm.exec) (hb : c.code = cc) {dflt lo hi : Int} {offs : Array Int} {len : Nat} {x k : Int} {off : Int} {tgt : Nat} (hdg : decode cc pc = .ok (.tableswitch dflt lo hi offs, len)) (hg : rg x) (hk : x = k) (ho : lo ≤ k ∧ k ≤ hi ∧ offs[(k - lo).toNat]? = some off) (ht : (pc : Int) + off = (tgt : Int)) (kk : W p l e R s m args below meth c H locs cells slots Q (F0 m tgt ls rest)) : W p l e R s m args below meth c H locs cells slots Q (F0 m pc ls (.int (J x) :: rest)) := by
  subst hk
  have e := J_toInt hg
  exact lv_tableIn hx hb hdg (by rw [e]; omega) (by rw [e]; omega) (by rw [e]; exact ho.2.2) ht kk
theorem j_tswd (hx : p.tables.exec = Jvm.exec) (hb : c.code = cc) {dflt lo hi : Int} {offs : Array Int} {len : Nat} {x : Int} {tgt : Nat} (hdg : decode cc pc = .ok (.tableswitch dflt lo hi offs, len)) (hg : rg x) (ho : x < lo ∨ hi < x) (ht : (pc : Int) + dflt = (tgt : Int)) (kk : W p l e R s m args below meth c H locs cells slots Q (F0 m tgt ls rest)) : W p l e R s m args below meth c H locs cells slots Q (F0 m pc ls (.int (J x) :: rest)) := by
  have e := J_toInt hg
  exact lv_tableOut hx hb hdg (by rw [e]; exact ho) ht kk
theorem j_lsw (hx : p.tables.exec = Jvm.exec) (hb : c.code = cc) {dflt : Int} {ps : Array (Int × Int)} {len : Nat} {x k : Int} {off : Int} {tgt : Nat} (hdg : decode cc pc = .ok (.lookupswitch dflt ps, len)) (hg : rg x) (hk : x = k) (ho : Op.lookupswitch.offset ps.toList dflt k = off) (hp : (ps.toList.zip (ps.toList.drop 1)).all (fun (a, next) => a.1 < next.1) = true) (ht : (pc : Int) + off = (tgt : Int)) (kk : W p l e R s m args below meth c H locs cells slots Q (F0 m tgt ls rest)) : W p l e R s m args below meth c H locs cells slots Q (F0 m pc ls (.int (J x) :: rest)) := by
  subst hk
  have e := J_toInt hg
  exact lv_lookup hx hb hdg hp (by rw [e]; exact ho) ht kk
theorem j_lswd (hx : p.tables.exec = Jvm.exec) (hb : c.code = cc) {dflt : Int} {ps : Array (Int × Int)} {len : Nat} {x : Int} {tgt : Nat} (hdg : decode cc pc = .ok (.lookupswitch dflt ps, len)) (hg : rg x) (ho : Op.lookupswitch.offset ps.toList dflt x = dflt) (hp : (ps.toList.zip (ps.toList.drop 1)).all (fun (a, next) => a.1 < next.1) = true) (ht : (pc : Int) + dflt = (tgt : Int)) (kk : W p l e R s m args below meth c H locs cells slots Q (F0 m tgt ls rest)) : W p l e R s m args below meth c H locs cells slots Q (F0 m pc ls (.int (J x) :: rest)) := by
  have e := J_toInt hg
  exact lv_lookup hx hb hdg hp (by rw [e]; exact ho) ht kk
end JH
