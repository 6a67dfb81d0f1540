/-! timed, with what it leaves as it is (began as copies of cc_laidOut, sp_time, cc_timed of part 15) -/
theorem cc_laidOutF {M : jT} {m : Int} {Q : Int → jT → Prop} (hD : D1 M) (hC : CC M) (hm : 0 ≤ m ∧ m < M 609 1)
    (kk : ∀ M', CFr M M' → CC M' → (∀ a, 570 ≤ a → a ≤ 599 → (a < 3 * m + 570 ∨ 3 * m + 572 < a) → M' a = M a) → M' (3 * m + 570) 0 ≠ 0 → PL M' (3 * m + 570) (msl (M 609) m) → Q (3 * m + 570) M') : wp_X10_laidOut M 0 m Q := by
  have a2 := hD.1.2.1
  have hge := hD.2.2.2.2 m hm.1 hm.2
  have hgo := (hD.1.2.2.2 m hm.1 hm.2).1
  have h3 := hC.2.2.1 m hm.1 (by omega)
  have h4 := hC.2.2.2 m hm.1 hm.2
  refine sp_laidOut (G := msl (M 609) m) (by omega) (by rw [show 2 * m + 28 = 1 + 27 + 2 * m by omega]; exact hge) hgo h3.1 h4.1 (fun M' F G hs hr h0 hP => ?_)
  have e609 : M' 609 = M 609 := F 609 (by omega) (by omega)
  refine kk M' (fun a ha => F a (by omega) (by omega)) (hC.plan hD (by omega) e609 (fun a b1 b2 b3 => F a (by omega) (by omega)) ⟨hr, by rw [G 1 (by omega) (by omega)]; exact h3.2⟩ (fun _ => ⟨fun _ => hP, fun q => ?_⟩)) (fun a b1 b2 b3 => F a (by omega) (by omega)) h0 hP
  rw [G 1 (by omega) (by omega)] at q
  obtain ⟨q1, q2, q3⟩ := h4.2 q
  refine ⟨h0, q2, fun i i0 i1 => ?_⟩
  rw [F (3 * m + 572) (by omega) (by omega)]; exact q3 i i0 i1
theorem sp_timeF {M : jT} {m : Int} {Q : jT → Prop} (hD : D1 M) (hC : CC M) (hm : 0 ≤ m ∧ m < M 609 1) (h0 : M (3 * m + 570) 0 ≠ 0) (hT : Tl M (8 * msl (M 609) m 0 + 521) (zsl (M 609) (msl (M 609) m 0)))
    (kk : ∀ M', CFr M M' → CC M' → (∀ a, 570 ≤ a → a ≤ 599 → (a < 3 * m + 570 ∨ 3 * m + 572 < a) → M' a = M a) → M' (3 * m + 570) 0 ≠ 0 → M' (3 * m + 570) 1 ≠ 0 → Q M') : wp_X5_time M (3 * m + 570) (2 * m + 28) (8 * msl (M 609) m 0 + 521) Q := by
  have a1 := hD.1.1
  have a2 := hD.1.2.1
  have hge := hD.2.2.2.2 m hm.1 hm.2
  obtain ⟨hgo, hz0, hz1⟩ := hD.1.2.2.2 m hm.1 hm.2
  have hzo := hD.1.2.2.1 _ hz0 hz1
  have hP := (hC.2.2.2 m hm.1 hm.2).1 h0
  have hn := nD_rng hgo
  have hr3 := hC.2.2.1 m hm.1 (by omega)
  have hK : LK (zsl (M 609) (msl (M 609) m 0)) := hT.2.1
  have hL := (LOk.of hzo hK).1
  have e0 : 1 + 27 + 2 * m = 2 * m + 28 := by omega
  rw [e0] at hge
  unfold wp_X5_time
  refine ⟨fun n x M2 => 0 ≤ x ∧ x ≤ nD (msl (M 609) m) ∧ (nD (msl (M 609) m) - x).toNat ≤ n ∧ (∀ a, a ≠ 3 * m + 572 → a ≠ 8 * msl (M 609) m 0 + 521 → M2 a = M a) ∧ (∀ b, b ≠ 13 → b ≠ 14 → b ≠ 15 → M2 (8 * msl (M 609) m 0 + 521) b = M (8 * msl (M 609) m 0 + 521) b) ∧ (∀ i, 0 ≤ i → i < x → M2 (3 * m + 572) i = bO (M 609) m i), ⟨(nD (msl (M 609) m)).toNat, by omega, by omega, by omega, fun _ _ _ => rfl, fun _ _ _ _ => rfl, fun i _ _ => by omega⟩, ?_⟩
  rintro n4 x1 M2 ⟨i1, i2, i3, F, G, hB⟩
  have hP2 : PL M2 (3 * m + 570) (msl (M 609) m) := hP.mv (by rw [F _ (by omega) (by omega)]) (F _ (by omega) (by omega))
  have hG2 : GEq M2 (2 * m + 28) (msl (M 609) m) := hge.mv (F _ (by omega) (by omega)) (F _ (by omega) (by omega))
  have hT2 : Tl M2 (8 * msl (M 609) m 0 + 521) (zsl (M 609) (msl (M 609) m 0)) := hT.mv (fun b b1 b2 => G b (by omega) (by omega) (by omega)) (fun r r1 r2 => F _ (by omega) (by omega))
  rw [hP2.1]
  refine ⟨⟨by omega, by omega⟩, ⟨by omega, by omega⟩, fun c => ?_, fun c => ?_⟩
  · refine up_in fun M8 h8 => ?_
    have F8 : ∀ a, a ≠ 3 * m + 570 → M8 a = M2 a := (fun a ha => funext fun b => by rw [h8 a b, if_neg (by omega)])
    have g0 : M8 (3 * m + 570) 0 = M (3 * m + 570) 0 := by rw [h8, if_neg (by omega), F _ (by omega) (by omega)]
    have g1 : M8 (3 * m + 570) 1 = 1 := by rw [h8, if_pos ⟨rfl, rfl⟩]
    have hTM : TM M8 (M 609) m := fun i j0 j1 => by rw [F8 _ (by omega)]; exact hB i j0 (by omega)
    have hC1 := CC.look (M' := fun a => if a = 8 * msl (M 609) m 0 + 521 then M2 a else M a) hD hC ⟨hz0, by omega⟩ (fun a ha => by simp only [if_neg ha]) (fun b b1 b2 b3 => by simp only [if_pos rfl]; exact G b b1 b2 b3)
    refine kk M8 (fun a ha => (F8 a (by omega)).trans (F a (by omega) (by omega))) ?_ (fun a b1 b2 b3 => (F8 a (by omega)).trans (F a (by omega) (by omega))) (by rw [g0]; exact h0) (by rw [g1]; omega)
    have hD1 : D1 (fun a => if a = 8 * msl (M 609) m 0 + 521 then M2 a else M a) := hC1.2.1.d1 hD
    have e609 : (if (609 : Int) = 8 * msl (M 609) m 0 + 521 then M2 609 else M 609) = M 609 := if_neg (by omega)
    refine hC1.1.plan hD1 (m := m) (by omega) ?_ (fun a b1 b2 b3 => ?_) ⟨by rw [g0]; exact hr3.1, by rw [g1]; exact ⟨by omega, by omega⟩⟩ (fun _ => ?_)
    · rw [e609, F8 609 (by omega), F 609 (by omega) (by omega)]
    · rw [F8 a (by omega)]
      by_cases q : a = 8 * msl (M 609) m 0 + 521
      · simp only [if_pos q]
      · simp only [if_neg q]; exact F a (by omega) q
    · rw [e609]
      exact ⟨fun _ => hP2.mv (by rw [h8, if_neg (by omega)]) (F8 _ (by omega)), fun _ => ⟨by rw [g0]; exact h0, hK, hTM⟩⟩
  · have hd := dO_rng hgo i1 c
    have hbl := bL_rng hgo i1 c
    have el : pf_X5_localOf M2 (3 * m + 570) (2 * m + 28) x1 = bL (M 609) m x1 := by
      unfold pf_X5_localOf bL
      rw [hP2.2 x1 i1 c, hG2.1 2 (by omega) (by omega), hG2.2.1 x1 i1 (by omega)]
    refine ⟨by unfold pg_X5_localOf; exact ⟨by omega, trivial⟩, ?_⟩
    rw [el]
    intro x12 e12
    have hpl : pg_X10_isLocal x12 := by unfold pg_X10_isLocal; exact ⟨⟨by omega, by omega⟩, fun _ => trivial, fun _ => ⟨fun _ => trivial, fun _ => trivial⟩⟩
    refine ⟨hpl, fun v M' => v = bO (M 609) m x1 ∧ (∀ a, a ≠ 3 * m + 572 → a ≠ 8 * msl (M 609) m 0 + 521 → M' a = M a) ∧ (∀ b, b ≠ 13 → b ≠ 14 → b ≠ 15 → M' (8 * msl (M 609) m 0 + 521) b = M (8 * msl (M 609) m 0 + 521) b) ∧ (∀ i, 0 ≤ i → i < x1 → M' (3 * m + 572) i = bO (M 609) m i), ?_, fun q => ?_, fun q => ?_⟩
    · rintro v M' ⟨k0, k1, k2, k3⟩
      refine ⟨by omega, up_in fun M23 h23 => ?_⟩
      have e572 : 3 * m + 570 + 2 = 3 * m + 572 := by omega
      rw [e572] at h23
      intro x24 e24
      refine ⟨(nD (msl (M 609) m) - x24).toNat, by omega, by omega, by omega, by omega, fun a b1 b2 => ?_, fun b b1 b2 b3 => ?_, fun i j0 j1 => ?_⟩
      · rw [← k1 a b1 b2]; funext b; rw [h23, if_neg (by omega)]
      · rw [h23, if_neg (by omega)]; exact k2 b b1 b2 b3
      · rw [h23]
        by_cases q : i = x1
        · rw [if_pos ⟨rfl, q⟩, q]; exact k0
        · rw [if_neg (by omega)]; exact k3 i j0 (by omega)
    · refine ⟨?_, F, G, hB⟩
      unfold bO; rw [if_neg (by rw [e12] at q; exact q)]
    · rw [hG2.1 4 (by omega) (by omega)]
      have q' : 0 ≤ x12 ∧ x12 < 16830720 := q
      refine sp_instantOf (CL.of hzo hT2) hL (by omega) (by have := hgo.2.2.2.1; omega) (fun M' F' G' => ?_)
      refine ⟨?_, fun a b1 b2 => (F' a b2).trans (F a b1 b2), fun b b1 b2 b3 => (G' b b1 b2 b3).trans (G b b1 b2 b3), fun i j0 j1 => by rw [F' _ (by omega)]; exact hB i j0 j1⟩
      unfold bO; rw [e12] at q'; rw [if_pos q', e12]
theorem cc_timedF {M : jT} {m : Int} {Q : Int → jT → Prop} (hD : D1 M) (hC : CC M) (hm : 0 ≤ m ∧ m < M 609 1)
    (kk : ∀ M', CFr M M' → CC M' → (∀ a, 570 ≤ a → a ≤ 599 → (a < 3 * m + 570 ∨ 3 * m + 572 < a) → M' a = M a) → M' (3 * m + 570) 0 ≠ 0 → M' (3 * m + 570) 1 ≠ 0 → PL M' (3 * m + 570) (msl (M 609) m) → TM M' (M 609) m → LK (zsl (M 609) (msl (M 609) m 0)) → Q (3 * m + 570) M') : wp_X10_timed M 0 m Q := by
  have a1 := hD.1.1
  have a2 := hD.1.2.1
  obtain ⟨hgo, hz0, hz1⟩ := hD.1.2.2.2 m hm.1 hm.2
  have fin : ∀ M', CFr M M' → CC M' → (∀ a, 570 ≤ a → a ≤ 599 → (a < 3 * m + 570 ∨ 3 * m + 572 < a) → M' a = M a) → M' (3 * m + 570) 0 ≠ 0 → M' (3 * m + 570) 1 ≠ 0 → Q (3 * m + 570) M' := by
    intro M' f hC' g h0 h1
    have e : M' 609 = M 609 := f 609 (by omega)
    have h4 := hC'.2.2.2 m hm.1 (by rw [e]; exact hm.2)
    rw [e] at h4
    exact kk M' f hC' g h0 h1 (h4.1 h0) (h4.2 h1).2.2 (h4.2 h1).2.1
  unfold wp_X10_timed
  simp only [Int.zero_add]
  refine cc_laidOutF hD hC hm (fun M2 f2 hC2 g2 h0 hP => ?_)
  have e : M2 609 = M 609 := f2 609 (by omega)
  have hD2 := f2.d1 hD
  refine ⟨fun M' => Q (3 * m + 570) M', fun _ q => q, (hC2.2.2.1 m hm.1 (by omega)).2, fun c => fin M2 f2 hC2 g2 h0 c, fun c => ⟨by omega, ?_⟩⟩
  have hge := hD2.2.2.2.2 m hm.1 (by rw [e]; exact hm.2)
  rw [show 1 + 27 + 2 * m = 2 * m + 28 by omega, e] at hge
  rw [hge.1 0 (by omega) (by omega)]
  refine cc_compiled hD2 hC2 (by rw [e]; exact ⟨hz0, hz1⟩) (fun M20 f20 hC20 fp hT => ?_)
  have e20 : M20 609 = M 609 := (f20 609 (by omega)).trans e
  rw [e] at hT
  have := sp_timeF (M := M20) (m := m) (Q := fun M22 => Q (3 * m + 570) M22) (f20.d1 hD2) hC20 (by rw [e20]; exact hm) (by rw [fp _ (by omega) (by omega)]; exact h0) (by rw [e20]; exact hT) (fun M' f' hC' g9 g0 g1 => fin M' ((f2.trans f20).trans f') hC' (fun a b1 b2 b3 => (g9 a b1 b2 b3).trans ((fp a (by omega) b2).trans (g2 a b1 b2 b3))) g0 g1)
  rw [e20] at this
  exact this
