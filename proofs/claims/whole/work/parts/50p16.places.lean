/-! the reference's zones and meetings, told by the row A -/
def RC (M : jT) : Prop := rg (M 608 14) ∧ ∀ z, 0 ≤ z → z < M 609 0 → M 608 14 = z → Rl M (zsl (M 609) z)
def RFr (M M' : jT) : Prop := (∀ a, a < 608 → M' a = M a) ∧ (M' 609 = M 609 ∧ M' 610 = M 610 ∧ M' 611 = M 611 ∧ M' 613 = M 613 ∧ M' 614 = M 614) ∧ (M' 608 3 = M 608 3 ∧ M' 608 5 = M 608 5 ∧ M' 608 8 = M 608 8 ∧ M' 608 10 = M 608 10 ∧ M' 608 12 = M 608 12 ∧ M' 608 0 = M 608 0)
theorem RFr.rfl {M : jT} : RFr M M := ⟨fun _ _ => Eq.refl _, ⟨Eq.refl _, Eq.refl _, Eq.refl _, Eq.refl _, Eq.refl _⟩, ⟨Eq.refl _, Eq.refl _, Eq.refl _, Eq.refl _, Eq.refl _, Eq.refl _⟩⟩
theorem RFr.trans {M M1 M2 : jT} (a : RFr M M1) (b : RFr M1 M2) : RFr M M2 := by
  obtain ⟨a1, ⟨a2, a3, a4, a5, a6⟩, a7, a8, a9, a10, a11, a12⟩ := a
  obtain ⟨b1, ⟨b2, b3, b4, b5, b6⟩, b7, b8, b9, b10, b11, b12⟩ := b
  exact ⟨fun x h => (b1 x h).trans (a1 x h), ⟨b2.trans a2, b3.trans a3, b4.trans a4, b5.trans a5, b6.trans a6⟩, ⟨b7.trans a7, b8.trans a8, b9.trans a9, b10.trans a10, b11.trans a11, b12.trans a12⟩⟩
theorem RFr.of {M M' : jT} (h : ∀ a, a ≠ 608 → (a < 615 ∨ 629 < a) → a ≠ 612 → M' a = M a) (h3 : M' 608 3 = M 608 3) (h5 : M' 608 5 = M 608 5) (h8 : M' 608 8 = M 608 8) (h10 : M' 608 10 = M 608 10) (h12 : M' 608 12 = M 608 12) (h0 : M' 608 0 = M 608 0) : RFr M M' :=
  ⟨fun a ha => h a (by omega) (by omega) (by omega), ⟨h 609 (by omega) (by omega) (by omega), h 610 (by omega) (by omega) (by omega), h 611 (by omega) (by omega) (by omega), h 613 (by omega) (by omega) (by omega), h 614 (by omega) (by omega) (by omega)⟩, h3, h5, h8, h10, h12, h0⟩
theorem Fr2.rf {M M' : jT} (f : Fr2 M M') : RFr M M' := RFr.of (fun a a1 a2 a3 => f.1 a a1 (by omega) (by omega)) (f.2 3 (by omega) (by omega) (by omega) (by omega) (by omega) (by omega) (by omega)) (f.2 5 (by omega) (by omega) (by omega) (by omega) (by omega) (by omega) (by omega)) (f.2 8 (by omega) (by omega) (by omega) (by omega) (by omega) (by omega) (by omega)) (f.2 10 (by omega) (by omega) (by omega) (by omega) (by omega) (by omega) (by omega)) (f.2 12 (by omega) (by omega) (by omega) (by omega) (by omega) (by omega) (by omega)) (f.2 0 (by omega) (by omega) (by omega) (by omega) (by omega) (by omega) (by omega))
theorem Fr1.rf {M M' : jT} (f : Fr1 M M') : RFr M M' := f.to2.rf
theorem Fr3.rf {M M' : jT} (f : Fr3 M M') : RFr M M' := RFr.of (fun a a1 a2 a3 => f.1 a a1 (by omega)) (f.2 3 (by omega)) (f.2 5 (by omega)) (f.2 8 (by omega)) (f.2 10 (by omega)) (f.2 12 (by omega)) (f.2 0 (by omega))
theorem ZR.zsl {M : jT} {z : Int} : ZR M z (zsl (M 609) z) := fun i i0 i1 => (zsl_at ⟨i0, i1⟩).symm
theorem GR.msl {M : jT} {m : Int} : GR M m (msl (M 609) m) := fun i i0 i1 => (msl_at ⟨i0, i1⟩).symm
theorem RC.rz {M : jT} {z : Int} (hA : AOk (M 609)) (h : RC M) (hz : 0 ≤ z ∧ z < M 609 0) : RZ M z (zsl (M 609) z) := by
  have a1 := hA.1
  exact ⟨hA.2.2.1 z hz.1 hz.2, by omega, ZR.zsl, h.1, h.2 z hz.1 hz.2⟩
theorem RC.of {M M' : jT} {z : Int} (hz : 0 ≤ z ∧ z < 6) (e : M' 609 = M 609) (h14 : M' 608 14 = z) (hl : Rl M' (zsl (M 609) z)) : RC M' := by
  refine ⟨by rw [h14]; exact ⟨by omega, by omega⟩, fun y y0 y1 q => ?_⟩
  rw [h14] at q
  rw [e, ← q]; exact hl
theorem RC.mv {M M' : jT} (h : RC M) (e : M' 609 = M 609) (c : ∀ b, b = 14 ∨ b = 15 ∨ b = 18 ∨ b = 24 → M' 608 b = M 608 b) (r : ∀ a, 618 ≤ a → a ≤ 625 → M' a = M a) : RC M' := by
  have h14 := c 14 (by omega)
  refine ⟨by rw [h14]; exact h.1, fun z z0 z1 q => ?_⟩
  rw [e] at z1 ⊢
  rw [h14] at q
  exact (h.2 z z0 z1 q).mv (c 15 (by omega)) (c 18 (by omega)) (c 24 (by omega)) r
theorem RC.mv3 {M M' : jT} (h : RC M) (f : Fr3 M M') : RC M' := h.mv (f.1 609 (by omega) (by omega)) (fun b hb => f.2 b (by omega)) (fun a a1 a2 => f.1 a (by omega) (by omega))
noncomputable abbrev tk (A : Int → Int) (m o : Int) : Prop := bO A m o ≠ -1000000000 ∧ msl A m (49 + o) = 0
theorem rc_lists {M : jT} {m : Int} {Q : jT → Prop} (hA : AOk (M 609)) (hR : RC M) (hm : 0 ≤ m ∧ m < M 609 1)
    (kk : ∀ M', RC M' → Fr3 M M' → RLs M' (msl (M 609) m) → Q M') : wp_X11_lists M 608 m Q := by
  have a2 := hA.2.1
  exact sp_lists (by omega) GR.msl (hA.2.2.2 m hm.1 hm.2).1 (fun M' f hl => kk M' (hR.mv3 f) f hl)
theorem r_local {M : jT} {m o : Int} (hA : AOk (M 609)) (hm : 0 ≤ m ∧ m < M 609 1) (hl : RLs M (msl (M 609) m)) (ho : 0 ≤ o ∧ o < nD (msl (M 609) m)) : pg_X11_localOf M 608 m o ∧ pf_X11_localOf M 608 m o = bL (M 609) m o ∧ -1440 ≤ bL (M 609) m o ∧ bL (M 609) m o ≤ 16833598 := by
  have a2 := hA.2.1
  have hgo := (hA.2.2.2 m hm.1 hm.2).1
  have hn := nD_rng hgo
  refine ⟨?_, ?_, bL_rng hgo ho.1 ho.2⟩
  · unfold pg_X11_localOf; rw [mAt]; exact ⟨by omega, by omega, by omega, trivial⟩
  · unfold pf_X11_localOf bL
    simp only [Int.reduceAdd]
    rw [mAt, hl.2 o ho.1 ho.2, (GR.msl (M := M)).at' (m := m) (p := 404 + 89 * m + 2) (i := 2) (by omega) (by omega), (GR.msl (M := M)).at' (m := m) (p := 404 + 89 * m + 9 + o) (i := 9 + o) (by omega) (by omega)]
theorem pg_loc {l : Int} (h : rg l) : pg_X11_isLocal l := by
  unfold pg_X11_isLocal pg_X11_in; exact ⟨⟨h, ⟨by omega, by omega⟩, fun _ => trivial, fun _ => ⟨⟨by omega, by omega⟩, fun _ => trivial, fun _ => trivial⟩⟩, trivial⟩
theorem rc_isVoid {M : jT} {m o : Int} {Q : Int → jT → Prop} (hA : AOk (M 609)) (hR : RC M) (hm : 0 ≤ m ∧ m < M 609 1) (hl : RLs M (msl (M 609) m)) (ho : 0 ≤ o ∧ o < nD (msl (M 609) m))
    (kk : ∀ M' t, RC M' → Fr1 M M' → (t = 1 ∧ bO (M 609) m o = -1000000000 ∨ t = 0 ∧ M' 608 28 = bO (M 609) m o ∧ -960 ≤ bO (M 609) m o ∧ bO (M 609) m o ≤ 16833000) → Q t M') : wp_X11_isVoid M 608 m o Q := by
  have a2 := hA.2.1
  obtain ⟨hgo, hz0, hz1⟩ := hA.2.2.2 m hm.1 hm.2
  obtain ⟨p1, p2, p3, p4⟩ := r_local hA hm hl ho
  unfold wp_X11_isVoid
  simp only [Int.reduceAdd]
  intro x3 e3
  rw [mAt] at e3
  rw [p2, (GR.msl (M := M)).at' (m := m) (p := x3) (i := 0) (by omega) (by omega), (GR.msl (M := M)).at' (m := m) (p := x3 + 4) (i := 4) (by omega) (by omega)]
  refine ⟨p1, pg_loc ⟨by omega, by omega⟩, fun t M' => (t = 0 ∨ t = 1) ∧ Q t M', fun t M' q => ⟨by omega, q.2⟩, fun M' => Q 1 M', fun M' q => ⟨Or.inr rfl, q⟩, fun c => ?_, fun c => ⟨by omega, by omega, ?_⟩⟩
  · refine kk M 1 hR Fr1.rfl (Or.inl ⟨rfl, ?_⟩)
    unfold bO; rw [if_neg (fun q => c (show 0 ≤ _ ∧ _ ≤ 16830719 from ⟨q.1, by omega⟩))]
  · have c : 0 ≤ bL (M 609) m o ∧ bL (M 609) m o ≤ 16830719 := c
    have eb : bO (M 609) m o = iO (lm (zsl (M 609) (msl (M 609) m 0))) (lS (zsl (M 609) (msl (M 609) m 0))) (lF (zsl (M 609) (msl (M 609) m 0))) (bL (M 609) m o) (msl (M 609) m 4) := by
      unfold bO; rw [if_pos ⟨c.1, by omega⟩]
    refine sp_tells (hR.rz hA ⟨hz0, hz1⟩) (by omega) (by have := hgo.2.2.2.1; omega) (fun M' t f h14 hl' hz' e30 ht => ?_)
    rw [← eb] at ht
    have hR' : RC M' := RC.of (by have := hA.1; omega) (f.1 609 (by omega) (by omega)) h14 hl'
    rcases ht with ⟨t0, t1⟩ | ⟨t0, t1, t2, t3⟩
    · rw [t0]
      exact ⟨⟨by omega, by omega⟩, fun q => absurd rfl q, fun _ => kk M' 1 hR' f (Or.inl ⟨rfl, t1⟩)⟩
    · rw [t0]
      exact ⟨⟨by omega, by omega⟩, fun _ => ⟨Or.inl rfl, kk M' 0 hR' f (Or.inr ⟨rfl, t1, t2, t3⟩)⟩, fun q => absurd q (by omega)⟩
theorem rc_takesPlace {M : jT} {m o : Int} {Q : Int → jT → Prop} (hA : AOk (M 609)) (hR : RC M) (hm : 0 ≤ m ∧ m < M 609 1) (hl : RLs M (msl (M 609) m)) (ho : 0 ≤ o ∧ o < nD (msl (M 609) m))
    (kk : ∀ M' t, RC M' → Fr1 M M' → (t = 0 ∧ ¬ tk (M 609) m o ∨ t = 1 ∧ tk (M 609) m o ∧ M' 608 28 = bO (M 609) m o ∧ -960 ≤ bO (M 609) m o ∧ bO (M 609) m o ≤ 16833000) → Q t M') : wp_X11_takesPlace M 608 m o Q := by
  have a2 := hA.2.1
  have hgo := (hA.2.2.2 m hm.1 hm.2).1
  have hn := nD_rng hgo
  have h01 := hgo.2.2.2.2.2.2.2.2.2 o ho.1 (by omega)
  unfold wp_X11_takesPlace
  simp only [Int.reduceAdd]
  rw [mAt, (GR.msl (M := M)).at' (m := m) (p := 404 + 89 * m + 49 + o) (i := 49 + o) (by omega) (by omega)]
  refine ⟨by omega, fun t M' => (t = 0 ∨ t = 1) ∧ Q t M', fun t M' q => ⟨by omega, q.2⟩, fun M' => Q 0 M', fun M' q => ⟨Or.inl rfl, q⟩, ⟨by omega, by omega⟩, fun c => ?_, fun c => ?_⟩
  · exact kk M 0 hR Fr1.rfl (Or.inl ⟨rfl, fun q => c q.2⟩)
  · refine rc_isVoid hA hR hm hl ho (fun M' t hR' f ht => ?_)
    rcases ht with ⟨t0, t1⟩ | ⟨t0, t1, t2, t3⟩
    · rw [t0]
      exact ⟨⟨by omega, by omega⟩, fun _ => kk M' 0 hR' f (Or.inl ⟨rfl, fun q => q.1 t1⟩), fun q => absurd q (by omega)⟩
    · rw [t0]
      exact ⟨⟨by omega, by omega⟩, fun q => absurd rfl q, fun _ => ⟨Or.inr rfl, kk M' 1 hR' f (Or.inr ⟨rfl, ⟨by omega, c⟩, t1, t2, t3⟩)⟩⟩
noncomputable def nTk (A : Int → Int) (m : Int) : Nat → Int
  | 0 => 0
  | n + 1 => if tk A m n then nTk A m n + 1 else nTk A m n
theorem rc_placed {M : jT} {m : Int} {Q : Int → jT → Prop} (hA : AOk (M 609)) (hR : RC M) (hm : 0 ≤ m ∧ m < M 609 1)
    (kk : ∀ M', RC M' → RFr M M' → (∀ b, b = 0 → M' 608 b = M 608 b) → Q (nTk (M 609) m (nD (msl (M 609) m)).toNat) M') : wp_X11_placed M 608 m Q := by
  have hgo := (hA.2.2.2 m hm.1 hm.2).1
  have hn := nD_rng hgo
  unfold wp_X11_placed
  refine rc_lists hA hR hm (fun M2 hR2 f2 hl => ?_)
  refine ⟨fun n x y M5 => ∃ i : Nat, y = i ∧ (i : Int) ≤ nD (msl (M 609) m) ∧ (nD (msl (M 609) m) - i).toNat ≤ n ∧ x = nTk (M 609) m i ∧ RC M5 ∧ RFr M M5 ∧ M5 608 0 = M 608 0 ∧ RLs M5 (msl (M 609) m), ⟨(nD (msl (M 609) m)).toNat, 0, rfl, by omega, by omega, rfl, hR2, f2.rf, f2.2 0 (by omega), hl⟩, ?_⟩
  rintro n7 x3 x4 M5 ⟨i, rfl, i1, i2, ex, hR5, f5, e0, hl5⟩
  rw [hl5.1]
  refine ⟨⟨by omega, by omega⟩, ⟨by omega, by omega⟩, fun c => ?_, fun c => ?_⟩
  · have : i = (nD (msl (M 609) m)).toNat := by omega
    rw [ex, this]; exact kk M5 hR5 f5 (fun b hb => by rw [hb]; exact e0)
  · have e609 : M5 609 = M 609 := f5.2.1.1
    refine rc_takesPlace (by rw [e609]; exact hA) hR5 (by rw [e609]; exact hm) (by rw [e609]; exact hl5) (by rw [e609]; exact ⟨by omega, c⟩) (fun M' t hR' f' ht => ?_)
    rw [e609] at ht
    have hl' : RLs M' (msl (M 609) m) := hl5.mv (f'.2 33 (by omega) (by omega) (by omega) (by omega) (by omega) (by omega) (by omega)) (f'.1 627 (by omega) (by omega))
    have g0 : M' 608 0 = M 608 0 := (f'.2 0 (by omega) (by omega) (by omega) (by omega) (by omega) (by omega) (by omega)).trans e0
    have hx : nTk (M 609) m (i + 1) = if tk (M 609) m i then nTk (M 609) m i + 1 else nTk (M 609) m i := rfl
    refine ⟨⟨by rcases ht with ⟨t0, _⟩ | ⟨t0, _⟩ <;> rw [t0] <;> exact ⟨by omega, by omega⟩, fun _ => trivial, fun _ => trivial⟩, ?_⟩
    intro x16 b1 b2 x21 e21
    refine ⟨(nD (msl (M 609) m) - (i + 1)).toNat, by omega, i + 1, by omega, by omega, by omega, ?_, hR', f5.trans f'.rf, g0, hl'⟩
    rw [hx]
    rcases ht with ⟨t0, t1⟩ | ⟨t0, t1, _⟩
    · rw [if_neg t1, b1 t0, ex]
    · rw [if_pos t1, b2 (by omega), ex]
theorem pg_in {v a b : Int} (h1 : rg v) (h2 : rg a) (h3 : rg b) : pg_X11_in v a b := by
  unfold pg_X11_in; exact ⟨h1, h2, fun _ => trivial, fun _ => ⟨h3, fun _ => trivial, fun _ => trivial⟩⟩
theorem pg_meet {M : jT} {m : Int} (hA : AOk (M 609)) (hm : rg m) : pg_X11_isMeeting M 608 m := by
  have a2 := hA.2.1
  unfold pg_X11_isMeeting; simp only [Int.reduceAdd]; exact ⟨pg_in hm ⟨by omega, by omega⟩ ⟨by omega, by omega⟩, trivial⟩
theorem rc_isOccurrence {M : jT} {m o : Int} {Q : Int → jT → Prop} (hA : AOk (M 609)) (hR : RC M) (hm : rg m) (ho : rg o)
    (k0 : ∀ M', RC M' → Fr3 M M' → ¬ (0 ≤ m ∧ m < M 609 1 ∧ 0 ≤ o ∧ o < nD (msl (M 609) m)) → Q 0 M')
    (k1 : ∀ M', RC M' → Fr3 M M' → 0 ≤ m ∧ m < M 609 1 → 0 ≤ o ∧ o < nD (msl (M 609) m) → RLs M' (msl (M 609) m) → Q 1 M') : wp_X11_isOccurrence M 608 m o Q := by
  have a2 := hA.2.1
  unfold wp_X11_isOccurrence
  refine ⟨pg_meet hA hm, fun c => ?_, fun c => k0 M hR ⟨fun _ _ _ => rfl, fun _ _ => rfl⟩ (fun q => c ?_)⟩
  · have c : 0 ≤ m ∧ m ≤ M 609 1 - 1 := c
    have hm' : 0 ≤ m ∧ m < M 609 1 := ⟨c.1, by omega⟩
    have hn := nD_rng (hA.2.2.2 m hm'.1 hm'.2).1
    refine rc_lists hA hR hm' (fun M' hR' f hl => ?_)
    rw [hl.1]
    refine ⟨pg_in ho ⟨by omega, by omega⟩ ⟨by omega, by omega⟩, ?_⟩
    by_cases q : pb_X11_in o 0 (nD (msl (M 609) m) - 1)
    · rw [b2i_t q]
      have q : 0 ≤ o ∧ o ≤ nD (msl (M 609) m) - 1 := q
      exact k1 M' hR' f hm' ⟨q.1, by omega⟩ hl
    · rw [b2i_f q]
      exact k0 M' hR' f (fun z => q (show 0 ≤ o ∧ o ≤ nD (msl (M 609) m) - 1 from ⟨z.2.2.1, by omega⟩))
  · show 0 ≤ m ∧ m ≤ M 609 1 - 1
    exact ⟨q.1, by omega⟩
/-! the class: taking place -/
theorem c_tk {M : jT} {m o : Int} (hD : D1 M) (hm : 0 ≤ m ∧ m < M 609 1) (hT : TM M (M 609) m) (ho : 0 ≤ o ∧ o < nD (msl (M 609) m)) (hK : LK (zsl (M 609) (msl (M 609) m 0))) :
    pg_X5_takesPlace M (3 * m + 570) (2 * m + 28) o ∧ (pb_X5_takesPlace M (3 * m + 570) (2 * m + 28) o ↔ tk (M 609) m o) ∧ (pb_X4_isCancelled M (2 * m + 28) o ↔ msl (M 609) m (49 + o) ≠ 0) ∧ pg_X4_isCancelled M (2 * m + 28) o := by
  have hge := hD.2.2.2.2 m hm.1 hm.2
  rw [show 1 + 27 + 2 * m = 2 * m + 28 by omega] at hge
  have hn := nD_rng (hD.1.2.2.2 m hm.1 hm.2).1
  have hb := bO_rng (i := o) hD.1 hm hK
  have hr := hge.2.2.1
  have h4 := hge.2.2.2 o ho.1 (by omega)
  have e572 : 3 * m + 570 + 2 = 3 * m + 572 := by omega
  have hcan : pg_X4_isCancelled M (2 * m + 28) o := by
    unfold pg_X4_isCancelled
    exact ⟨by omega, ⟨by omega, by omega⟩, ⟨by omega, by omega⟩, fun _ => trivial, fun _ => trivial⟩
  refine ⟨?_, ?_, h4, hcan⟩
  · unfold pg_X5_takesPlace
    rw [e572, hT o ho.1 ho.2]
    exact ⟨by omega, ⟨by omega, by omega⟩, fun _ => trivial, fun _ => ⟨hcan, fun _ => trivial, fun _ => trivial⟩⟩
  · unfold pb_X5_takesPlace tk
    rw [e572, hT o ho.1 ho.2]
    have h4 : pb_X4_isCancelled M (2 * m + 28) o ↔ msl (M 609) m (49 + o) ≠ 0 := h4
    constructor
    · rintro ⟨a, b⟩
      refine ⟨a, ?_⟩
      by_cases q : msl (M 609) m (49 + o) = 0
      · exact q
      · exact absurd (h4.mpr q) b
    · rintro ⟨a, b⟩; exact ⟨a, fun q => h4.mp q b⟩
theorem cc_countTaking {M : jT} {m : Int} {Q : Int → Prop} (hD : D1 M) (hm : 0 ≤ m ∧ m < M 609 1) (hP : PL M (3 * m + 570) (msl (M 609) m)) (hT : TM M (M 609) m) (hK : LK (zsl (M 609) (msl (M 609) m 0)))
    (kk : Q (nTk (M 609) m (nD (msl (M 609) m)).toNat)) : wp_X5_countTaking M (3 * m + 570) (2 * m + 28) Q := by
  have hn := nD_rng (hD.1.2.2.2 m hm.1 hm.2).1
  unfold wp_X5_countTaking
  rw [hP.1]
  refine ⟨fun n x y => ∃ i : Nat, y = i ∧ (i : Int) ≤ nD (msl (M 609) m) ∧ (nD (msl (M 609) m) - i).toNat ≤ n ∧ x = nTk (M 609) m i, ⟨(nD (msl (M 609) m)).toNat, 0, rfl, by omega, by omega, rfl⟩, ?_⟩
  rintro n4 x1 x2 ⟨i, rfl, i1, i2, ex⟩
  refine ⟨⟨by omega, by omega⟩, ⟨by omega, by omega⟩, fun c => ?_, fun c => ?_⟩
  · have : i = (nD (msl (M 609) m)).toNat := by omega
    rw [ex, this]; exact kk
  · obtain ⟨t1, t2, t3, t4⟩ := c_tk hD hm hT (o := i) ⟨by omega, c⟩ hK
    refine ⟨t1, ⟨fun _ => trivial, fun _ => trivial⟩, ?_⟩
    intro x15 e15 x16 e16
    refine ⟨(nD (msl (M 609) m) - (i + 1)).toNat, by omega, i + 1, by omega, by omega, by omega, ?_⟩
    show x15 = if tk (M 609) m i then nTk (M 609) m i + 1 else nTk (M 609) m i
    by_cases q : tk (M 609) m i
    · rw [if_pos q, e15, b2i_t (t2.mpr q), ex]
    · rw [if_neg q, e15, b2i_f (fun z => q (t2.mp z)), ex]; omega
