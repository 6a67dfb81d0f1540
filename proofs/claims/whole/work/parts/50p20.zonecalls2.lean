/-! more calls that ask about zones -/
theorem Inv.f2 {M M' : jT} {z : Int} (h : Inv M) (hz : 0 ≤ z ∧ z < M 609 0) (f : Fr2 M M') (h14 : M' 608 14 = z) (hl : Rl M' (zsl (M 609) z)) : Inv M' ∧ M' 609 = M 609 ∧ M' 608 0 = M 608 0 := by
  have a1 := h.1.1.1
  have e := f.1 609 (by omega) (by omega) (by omega)
  exact ⟨h.r f.rf.fd (RC.of (by omega) e h14 hl), e, f.rf.z⟩
theorem sim_dayLength {M : jT} {z d : Int} (h : Inv M) (rz : rg z) (rd : rg d) : wp_X10_dayLength M 0 z d (fun v M1 => OKq (wp_X11_dayLength M1 608 z d) v) (fun e M1 => EXq (wp_X11_dayLength M1 608 z d) [1] e) := by
  unfold wp_X10_dayLength
  have bad : ¬ ((0 ≤ z ∧ z < M 609 0) ∧ (0 ≤ d ∧ d ≤ 11687)) → EXq (wp_X11_dayLength M 608 z d) [1] 1 := by
    intro hb
    refine ⟨by decide, ?_⟩
    unfold wp_X11_dayLength
    exact th0 h fun M2 h2 e2 t2 => ⟨pg_zone h2 rz, True, fun _ => rs h2 fun M3 h3 t3 => ⟨by rw [t3]; rfl, h3⟩, fun _ => trivial, fun q => ⟨(pgr rd).1, fun q2 => absurd ⟨by rw [← e2]; exact zi.mp q, q2⟩ hb, fun _ => trivial⟩⟩
  refine nz h.1 rz (fun hz => ⟨(pgd rd).1, ni (fun c => ?_) (fun c => bad (fun q => c q.2))⟩) (fun hz => bad (fun q => hz q.1))
  have c : 0 ≤ d ∧ d ≤ 11687 := c
  refine cmp' h hz fun M1 h1 e1 hT hC hL => sp_beginningOf hC hL (by omega) fun Ma Fa Ga => ?_
  obtain ⟨ha, ea, hTa⟩ := h1.lk (by rw [e1]; exact hz) Fa Ga
  refine sp_beginningOf (CL.of (h.1.1.2.2.1 z hz.1 hz.2) (hTa _ hT)) hL (by omega) fun Mb Fb Gb => ?_
  obtain ⟨hb, eb, _⟩ := ha.lk (by rw [ea, e1]; exact hz) Fb Gb
  unfold OKq wp_X11_dayLength
  have hz1 : 0 ≤ z ∧ z < Mb 609 0 := by rw [eb, ea, e1]; exact hz
  refine th0 hb fun M2 h2 e2 t2 => ⟨pg_zone h2 rz, False, fun q => q.elim, fun q => q (zi.mpr (by rw [e2]; exact hz1)), fun _ => ⟨(pgr rd).1, fun _ => ?_, fun q => q c⟩⟩
  have hz2 : 0 ≤ z ∧ z < M2 609 0 := by rw [e2]; exact hz1
  refine sp_begins (h2.rz hz2) (by omega) fun M3 f3 g3 l3 _ => ?_
  obtain ⟨i1, i2, i3⟩ := h2.f1 hz2 f3 g3 l3
  have hz3 : 0 ≤ z ∧ z < M3 609 0 := by rw [i2]; exact hz2
  refine sp_begins (i1.rz hz3) (by omega) fun M4 f4 g4 l4 _ => ?_
  obtain ⟨j1, j2, j3⟩ := i1.f1 hz3 f4 g4 l4
  exact ⟨by rw [j3, i3, t2], by rw [i2, e2, eb, ea, e1], j1⟩
theorem sim_account {M : jT} {z y w : Int} (h : Inv M) (rz : rg z) (ry : rg y) (rw' : rg w) : wp_X10_account M 0 z y w (fun v M1 => OKq (wp_X11_account M1 608 z y w) v) (fun e M1 => EXq (wp_X11_account M1 608 z y w) [1, 2] e) := by
  unfold wp_X10_account
  refine nz h.1 rz (fun hz => ⟨(pgd ry).2.1, ?_⟩) (fun hz => ⟨by decide, ?_⟩)
  · refine ⟨fun t => t = b2i ((0 ≤ y ∧ y < 32) ∧ (0 ≤ w ∧ w ≤ 3)), fun t et => ?_, ¬ ((0 ≤ y ∧ y < 32) ∧ (0 ≤ w ∧ w ≤ 3)), fun q => (b2i_f q).symm, fun c q => c q.1, fun c => ⟨rw', fun c2 => by omega, fun c2 => ⟨fun c3 => by omega, fun c3 => (b2i_t ⟨c, c2, c3⟩).symm⟩⟩⟩
    rw [et]
    refine na (fun c => ?_) (fun c => ?_)
    · obtain ⟨cy, cw⟩ := c
      refine cmp' h hz fun M1 h1 e1 hT hC hL => ?_
      have y1 : 0 ≤ yD y ∧ yD y ≤ yD (y + 1) ∧ yD (y + 1) ≤ 11688 := by unfold yD; omega
      have hz1 : 0 ≤ z ∧ z < M1 609 0 := by rw [e1]; exact hz
      have pre : ∀ (M5 : jT) (v : Int), Inv M5 → M5 609 = M 609 →
          (∀ M2, Inv M2 → M2 609 = M 609 → M2 608 0 = 0 → (w ≠ 0 → w ≠ 3 → wp_X11_minutes M2 608 z (1440 * yD y) (1440 * yD (y + 1)) (b2i (w = 1)) (fun b M2 => M2 608 0 = 0 ∧ b = v ∧ Inv M2)) ∧ (w = 3 → v = 1440 * (yD (y + 1) - yD y)) ∧ (w = 0 → wp_X11_begins M2 608 z (yD (y + 1)) (fun z80 M81 => wp_X11_begins M81 608 z (yD y) (fun z82 M83 => M83 608 0 = 0 ∧ z80 - z82 = v ∧ Inv M83)))) → OKq (wp_X11_account M5 608 z y w) v := by
        intro M5 v h5 e5 k
        unfold OKq wp_X11_account
        refine th0 h5 fun M2 h2 e2 t2 => ?_
        obtain ⟨k1, k2, k3⟩ := k M2 h2 (by rw [e2, e5]) t2
        rw [pf_yD, pf_yD]
        refine ⟨pg_zone h2 rz, fun _ => ⟨pg_in ry ⟨by omega, by omega⟩ ⟨by omega, by omega⟩, False, fun q => q.elim, fun q => q ⟨cy.1, by omega⟩, fun _ => ⟨pg_in rw' ⟨by omega, by omega⟩ ⟨by omega, by omega⟩, fun _ => ⟨pg_yD (by omega), ?_⟩, fun q => q cw⟩⟩, fun q => absurd (zi.mpr (by rw [e2, e5]; exact hz)) q⟩
        intro x56 e56
        refine ⟨pg_yD (by omega), ?_⟩
        intro x60 e60
        rw [e56, e60]
        exact ⟨rw', fun q => ⟨_, fun _ _ q => q, fun q2 => k1 q q2, fun q2 => ⟨t2, (k2 q2).symm, h2⟩⟩, fun q => k3 q⟩
      refine ⟨by unfold pg_X1_yearStart; exact ⟨by omega, trivial⟩, ?_⟩
      intro x24 e24
      refine ⟨by unfold pg_X1_yearStart; exact ⟨by omega, trivial⟩, ?_⟩
      intro x28 e28
      have e24 : x24 = yD y := e24
      have e28 : x28 = yD (y + 1) := e28
      rw [e24, e28]
      refine ⟨rw', fun q => ?_, fun q => ?_, fun q => ?_, fun q => pre M1 _ h1 e1 fun M2 _ _ _ => ⟨fun q2 q3 => by omega, fun _ => rfl, fun q2 => absurd q2 q.1⟩⟩
      · refine sp_beginningOf hC hL (by omega) fun Ma Fa Ga => ?_
        obtain ⟨ha, ea, hTa⟩ := h1.lk hz1 Fa Ga
        refine sp_beginningOf (CL.of (h.1.1.2.2.1 z hz.1 hz.2) (hTa _ hT)) hL (by omega) fun Mb Fb Gb => ?_
        obtain ⟨hb, eb, _⟩ := ha.lk (by rw [ea]; exact hz1) Fb Gb
        refine pre Mb _ hb (by rw [eb, ea, e1]) fun M2 h2 e2 t2 => ⟨fun q2 _ => absurd q q2, fun q2 => by omega, fun _ => ?_⟩
        have hz2 : 0 ≤ z ∧ z < M2 609 0 := by rw [e2]; exact hz
        refine sp_begins (h2.rz hz2) (by omega) fun M3 f3 g3 l3 _ => ?_
        obtain ⟨i1, i2, i3⟩ := h2.f1 hz2 f3 g3 l3
        have hz3 : 0 ≤ z ∧ z < M3 609 0 := by rw [i2]; exact hz2
        refine sp_begins (i1.rz hz3) (by omega) fun M4 f4 g4 l4 _ => ?_
        obtain ⟨j1, j2, j3⟩ := i1.f1 hz3 f4 g4 l4
        exact ⟨by rw [j3, i3, t2], by rw [i2, e2], j1⟩
      · refine sp_countGaps hC hL (by omega) (by omega) (by omega) fun Mb Fb Gb => ?_
        obtain ⟨hb, eb, _⟩ := h1.lk hz1 Fb Gb
        refine pre Mb _ hb (by rw [eb, e1]) fun M2 h2 e2 t2 => ⟨fun _ _ => ?_, fun q2 => by omega, fun q2 => by omega⟩
        have hz2 : 0 ≤ z ∧ z < M2 609 0 := by rw [e2]; exact hz
        refine sp_minutes (h2.rz hz2) (by omega) (by omega) (by omega) (b2i_rng _) fun M3 f3 g3 l3 _ => ?_
        obtain ⟨i1, i2, i3⟩ := h2.f2 hz2 f3 g3 l3
        exact ⟨by rw [i3, t2], by rw [e2, b2i_t q, if_neg (by omega)], i1⟩
      · refine sp_countFolds hC hL (by omega) (by omega) (by omega) fun Mb Fb Gb => ?_
        obtain ⟨hb, eb, _⟩ := h1.lk hz1 Fb Gb
        refine pre Mb _ hb (by rw [eb, e1]) fun M2 h2 e2 t2 => ⟨fun _ _ => ?_, fun q2 => by omega, fun q2 => by omega⟩
        have hz2 : 0 ≤ z ∧ z < M2 609 0 := by rw [e2]; exact hz
        refine sp_minutes (h2.rz hz2) (by omega) (by omega) (by omega) (b2i_rng _) fun M3 f3 g3 l3 _ => ?_
        obtain ⟨i1, i2, i3⟩ := h2.f2 hz2 f3 g3 l3
        exact ⟨by rw [i3, t2], by rw [e2, b2i_f (by omega), if_pos rfl], i1⟩
    · refine ⟨by decide, ?_⟩
      unfold wp_X11_account
      exact th0 h fun M2 h2 e2 t2 => ⟨pg_zone h2 rz, fun _ => ⟨pg_in ry ⟨by omega, by omega⟩ ⟨by omega, by omega⟩, True, fun _ => rs h2 fun M3 h3 t3 => ⟨by rw [t3]; rfl, h3⟩, fun _ => trivial, fun q => ⟨pg_in rw' ⟨by omega, by omega⟩ ⟨by omega, by omega⟩, fun q2 => absurd ⟨⟨q.1, by have : y ≤ 31 := q.2; omega⟩, q2⟩ c, fun _ => trivial⟩⟩, fun q => absurd (zi.mpr (by rw [e2]; exact hz)) q⟩
  · unfold wp_X11_account; exact bz h rz hz rfl (fun b M2 a1 a2 => ⟨a1, a2⟩)
theorem idx_ok {M : jT} {z r : Int} (hD : D1 M) (hz : rg z) (hr : rg r) : pg_X10_ruleIndexFault M 0 z r ∧ pf_X10_ruleIndexFault M 0 z r = if (0 ≤ z ∧ z < M 609 0) ∧ 0 ≤ r ∧ r < zsl (M 609) z 1 then 0 else 1 := by
  have a1 := hD.1.1
  have key : 0 ≤ z ∧ z < M 609 0 → M (4 * z + 4) 1 = zsl (M 609) z 1 ∧ 0 ≤ zsl (M 609) z 1 ∧ zsl (M 609) z 1 ≤ 8 := fun c => by
    have := (hD.2.2.2.1 z c.1 c.2).2.1
    rw [show 1 + 3 + 4 * z = 4 * z + 4 by omega] at this
    exact ⟨this, (hD.1.2.2.1 z c.1 c.2).2.1⟩
  constructor
  · unfold pg_X10_ruleIndexFault
    simp only [Int.zero_add]
    refine ⟨pg_hz hD hz, fun _ => trivial, fun c => ⟨hr, fun _ => trivial, fun c2 => ?_⟩⟩
    have c := (hz_iff hD).mp c
    obtain ⟨k1, k2, k3⟩ := key c
    rw [k1]
    exact ⟨by omega, ⟨by omega, by omega⟩, fun _ => trivial, fun _ => trivial⟩
  · unfold pf_X10_ruleIndexFault
    simp only [Int.zero_add]
    by_cases c : 0 ≤ z ∧ z < M 609 0
    · obtain ⟨k1, k2, k3⟩ := key c
      rw [if_neg (fun q => q ((hz_iff hD).mpr c)), k1]
      by_cases c2 : 0 ≤ r ∧ r < zsl (M 609) z 1
      · rw [if_neg (by omega), if_neg (by omega), if_pos ⟨c, c2⟩]
      · rw [if_neg (show ¬ ((0 ≤ z ∧ z < M 609 0) ∧ 0 ≤ r ∧ r < zsl (M 609) z 1) from fun q => c2 q.2)]
        by_cases c3 : r < 0
        · rw [if_pos c3]
        · rw [if_neg c3, if_pos (by omega)]
    · rw [if_pos (fun q => c ((hz_iff hD).mp q)), if_neg (fun q => c q.1)]
theorem rule_ok {M : jT} {z r : Int} (h : Inv M) (hz : rg z) (hr : rg r) : pg_X11_isRule M 608 z r ∧ (pb_X11_isRule M 608 z r ↔ (0 ≤ z ∧ z < M 609 0) ∧ 0 ≤ r ∧ r < zsl (M 609) z 1) := by
  have a1 := h.1.1.1
  have key : 0 ≤ z ∧ z < M 609 0 → M 609 (2 + 67 * z + 1) = zsl (M 609) z 1 ∧ 0 ≤ zsl (M 609) z 1 ∧ zsl (M 609) z 1 ≤ 8 := fun c => ⟨(zsl_at (by omega)).symm, (h.1.1.2.2.1 z c.1 c.2).2.1⟩
  constructor
  · unfold pg_X11_isRule
    simp only [Int.reduceAdd]
    refine ⟨pg_zone h hz, fun _ => trivial, fun c => ?_⟩
    obtain ⟨k1, k2, k3⟩ := key (zi.mp c)
    have := zi.mp c
    rw [zAt, k1]
    exact ⟨by omega, pg_in hr ⟨by omega, by omega⟩ ⟨by omega, by omega⟩, fun _ => trivial, fun _ => trivial⟩
  · constructor
    · rintro ⟨q1, q2⟩
      have c := zi.mp q1
      have q2 : 0 ≤ r ∧ r ≤ M 609 (2 + 67 * z + 1) - 1 := q2
      rw [(key c).1] at q2
      exact ⟨c, q2.1, by omega⟩
    · rintro ⟨c, q1, q2⟩
      refine ⟨zi.mpr c, ?_⟩
      show 0 ≤ r ∧ r ≤ M 609 (2 + 67 * z + 1) - 1
      rw [(key c).1]
      exact ⟨q1, by omega⟩
theorem sim_rule {M : jT} {z r w : Int} (h : Inv M) (rz : rg z) (rr : rg r) (rw' : rg w) : wp_X10_rule M 0 z r w (fun v M1 => OKq (wp_X11_rule M1 608 z r w) v) (fun e M1 => EXq (wp_X11_rule M1 608 z r w) [1, 2] e) := by
  obtain ⟨p1, p2⟩ := idx_ok h.1 rz rr
  unfold wp_X10_rule
  refine ⟨p1, refuse (by rw [p2]; split <;> omega) (fun q => ?_) (fun q => ?_)⟩
  · rw [p2] at q
    have c : (0 ≤ z ∧ z < M 609 0) ∧ 0 ≤ r ∧ r < zsl (M 609) z 1 := by
      by_cases c : (0 ≤ z ∧ z < M 609 0) ∧ 0 ≤ r ∧ r < zsl (M 609) z 1
      · exact c
      · rw [if_neg c] at q; omega
    have a1 := h.1.1.1
    have hzo := (h.1.1.2.2.1 z c.1.1 c.1.2).2.1
    have hze := h.1.2.2.2.1 z c.1.1 c.1.2
    rw [show 1 + 3 + 4 * z = 4 * z + 4 by omega] at hze
    simp only [Int.zero_add]
    refine ⟨fun t => t = b2i (0 ≤ w ∧ w < 7), fun t et => ?_, ¬ (0 ≤ w ∧ w < 7), fun q => (b2i_f q).symm, rw', fun c2 => by omega, fun c2 => ⟨fun c3 => by omega, fun c3 => (b2i_t ⟨c2, c3⟩).symm⟩⟩
    rw [et]
    refine na (fun cw => ⟨by omega, pg_rn (by omega) (by omega) (by omega), ?_⟩) (fun cw => ⟨by decide, ?_⟩)
    · rw [hze.rn w (3 + w) c.2.1 c.2.2 (by omega)]
      unfold OKq wp_X11_rule
      refine th0 h fun M2 h2 e2 t2 => ?_
      obtain ⟨r1, r2⟩ := rule_ok h2 rz rr
      rw [e2] at r2
      refine ⟨r1, fun _ => ⟨pg_in rw' ⟨by omega, by omega⟩ ⟨by omega, by omega⟩, _, fun _ _ q => q, fun q => absurd ⟨cw.1, by omega⟩ q, fun _ => ⟨by rw [rAt]; omega, t2, ?_, h2⟩⟩, fun q => absurd (r2.mpr c) q⟩
      rw [rAt, zsl_at (by omega), show (608 : Int) + 1 = 609 from rfl, e2]
      congr 1; omega
    · unfold wp_X11_rule
      refine th0 h fun M2 h2 e2 t2 => ?_
      obtain ⟨r1, r2⟩ := rule_ok h2 rz rr
      rw [e2] at r2
      exact ⟨r1, fun _ => ⟨pg_in rw' ⟨by omega, by omega⟩ ⟨by omega, by omega⟩, _, fun _ _ q => q, fun _ => rs h2 fun M3 h3 t3 => ⟨by rw [t3]; rfl, h3⟩, fun q => absurd ⟨q.1, by have : w ≤ 6 := q.2; omega⟩ cw⟩, fun q => absurd (r2.mpr c) q⟩
  · have c : ¬ ((0 ≤ z ∧ z < M 609 0) ∧ 0 ≤ r ∧ r < zsl (M 609) z 1) := fun c => q (by rw [p2, if_pos c])
    rw [p2, if_neg c]
    refine ⟨by decide, ?_⟩
    unfold wp_X11_rule
    refine th0 h fun M2 h2 e2 t2 => ?_
    obtain ⟨r1, r2⟩ := rule_ok h2 rz rr
    rw [e2] at r2
    exact ⟨r1, fun q => absurd (r2.mp q) c, fun _ => rs h2 fun M3 h3 t3 => ⟨by rw [t3]; rfl, h3⟩⟩
theorem dOE {M : jT} {k r y : Int} {Z : Int → Int} (hz : ZEq M k Z) (ho : ZOk Z) (hr : 0 ≤ r ∧ r < Z 1) (hy : 0 ≤ y ∧ y ≤ 31) : pg_X9_dayOfEvent M k r y ∧ pf_X9_dayOfEvent M k r y = if Z (3 + 7 * r) ≤ y ∧ y ≤ Z (4 + 7 * r) then dR Z r y else -1 := by
  have h8 := ho.2.1
  have hR := ho.2.2.2.1 r hr.1 hr.2
  have g0 : M (k + 1) (r * 7 + 0) = Z (3 + 7 * r) := hz.rn 0 3 hr.1 hr.2 (by omega)
  have g1 : M (k + 1) (r * 7 + 1) = Z (4 + 7 * r) := hz.rn 1 4 hr.1 hr.2 (by omega)
  have g2 : M (k + 1) (r * 7 + 2) = Z (5 + 7 * r) := hz.rn 2 5 hr.1 hr.2 (by omega)
  have g3 : M (k + 1) (r * 7 + 3) = Z (6 + 7 * r) := hz.rn 3 6 hr.1 hr.2 (by omega)
  unfold pg_X9_dayOfEvent pf_X9_dayOfEvent
  rw [g0, g1, g2, g3]
  refine ⟨⟨by omega, ⟨by omega, by omega⟩, ⟨by omega, by omega⟩, fun _ => trivial, fun _ => ⟨by omega, ⟨by omega, by omega⟩, fun _ => ⟨by omega, by omega, pg_dD hy (by omega) hR.2.2.2.2.2.1, trivial⟩, fun _ => trivial⟩⟩, ?_⟩
  rw [pf_dD hy (by omega) hR.2.2.2.2.2.1]
  by_cases c1 : y < Z (3 + 7 * r)
  · rw [if_pos c1, if_neg (by omega)]
  · rw [if_neg c1]
    by_cases c2 : y ≤ Z (4 + 7 * r)
    · rw [if_pos c2, if_pos ⟨by omega, c2⟩]; rfl
    · rw [if_neg c2, if_neg (by omega)]
theorem sim_eventDay {M : jT} {z r y : Int} (h : Inv M) (rz : rg z) (rr : rg r) (ry : rg y) : wp_X10_eventDay M 0 z r y (fun v M1 => OKq (wp_X11_eventDay M1 608 z r y) v) (fun e M1 => EXq (wp_X11_eventDay M1 608 z r y) [1, 2, 4] e) := by
  obtain ⟨p1, p2⟩ := idx_ok h.1 rz rr
  unfold wp_X10_eventDay
  refine ⟨p1, refuse (by rw [p2]; split <;> omega) (fun q => ?_) (fun q => ?_)⟩
  · rw [p2] at q
    have c : (0 ≤ z ∧ z < M 609 0) ∧ 0 ≤ r ∧ r < zsl (M 609) z 1 := by
      by_cases c : (0 ≤ z ∧ z < M 609 0) ∧ 0 ≤ r ∧ r < zsl (M 609) z 1
      · exact c
      · rw [if_neg c] at q; omega
    have a1 := h.1.1.1
    have hzo := h.1.1.2.2.1 z c.1.1 c.1.2
    have h8 := hzo.2.1
    have hR := hzo.2.2.2.1 r c.2.1 c.2.2
    have hze := h.1.2.2.2.1 z c.1.1 c.1.2
    rw [show 1 + 3 + 4 * z = 4 * z + 4 by omega] at hze
    simp only [Int.zero_add]
    refine ⟨(pgd ry).2.1, na (fun cy => ?_) (fun cy => ⟨by decide, ?_⟩)⟩
    · have cy : 0 ≤ y ∧ y < 32 := cy
      obtain ⟨d1, d2⟩ := dOE hze hzo c.2 (y := y) (by omega)
      have hd := dR_rng hzo c.2.1 c.2.2 (y := y) (by omega)
      refine ⟨by omega, d1, ?_⟩
      rw [d2]
      intro x16 e16
      have ref : ∀ {Q : Int → jT → Prop}, (0 ≤ x16 → ∀ M3, M3 608 0 = 0 → Inv M3 → Q x16 M3) → (x16 < 0 → ∀ M3, M3 608 0 = 3 → Inv M3 → Q 0 M3) → wp_X11_eventDay M 608 z r y Q := by
        intro Q k1 k2
        unfold wp_X11_eventDay
        refine th0 h fun M2 h2 e2 t2 => ?_
        obtain ⟨r1, r2⟩ := rule_ok h2 rz rr
        rw [e2] at r2
        have hZ2 : ZR M2 z (zsl (M 609) z) := by rw [← e2]; exact ZR.zsl
        refine ⟨r1, fun _ => ⟨pg_in ry ⟨by omega, by omega⟩ ⟨by omega, by omega⟩, fun _ => ?_, fun q => absurd ⟨cy.1, by omega⟩ q⟩, fun q => absurd (r2.mpr c) q⟩
        simp only [Int.reduceAdd]
        intro x12 e12
        rw [rAt] at e12
        rw [hZ2.at' (p := x12) (i := 3 + 7 * r) (by omega) (by omega), hZ2.at' (p := x12 + 1) (i := 4 + 7 * r) (by omega) (by omega), hZ2.at' (p := x12 + 3) (i := 6 + 7 * r) (by omega) (by omega), hZ2.at' (p := x12 + 2) (i := 5 + 7 * r) (by omega) (by omega)]
        refine ⟨by omega, by omega, pg_in ry ⟨by omega, by omega⟩ ⟨by omega, by omega⟩, fun x => x = x16, fun x23 e23 => ⟨Q, fun _ _ q => q, ?_, fun q => ?_, fun q => ?_⟩, fun q => ?_, fun q => ⟨by omega, by omega, ?_⟩⟩
        · rw [e23, e16]; split <;> exact ⟨by omega, by omega⟩
        · rw [e23] at q ⊢; exact k1 q M2 t2 h2
        · exact rs h2 fun M3 h3 t3 => k2 (by omega) M3 t3 h3
        · rw [e16, if_neg q]
        · refine sp_dayBy (by omega) (by omega) hR.2.2.2.2.2.1 ?_
          rw [e16, if_pos q]; rfl
      refine ⟨⟨by rw [e16]; split <;> exact ⟨by omega, by omega⟩, fun _ => trivial, fun _ => trivial⟩, ne' (fun q => ref (fun _ M3 t3 h3 => ⟨t3, rfl, h3⟩) (fun q2 => by omega)) (fun q => ⟨by decide, ref (fun q2 => absurd q2 q) (fun _ M3 t3 h3 => ⟨by rw [t3]; rfl, h3⟩)⟩)⟩
    · have cy : ¬ (0 ≤ y ∧ y < 32) := cy
      unfold wp_X11_eventDay
      refine th0 h fun M2 h2 e2 t2 => ?_
      obtain ⟨r1, r2⟩ := rule_ok h2 rz rr
      rw [e2] at r2
      exact ⟨r1, fun _ => ⟨pg_in ry ⟨by omega, by omega⟩ ⟨by omega, by omega⟩, fun q => absurd ⟨q.1, by have : y ≤ 31 := q.2; omega⟩ cy, fun _ => rs h2 fun M3 h3 t3 => ⟨by rw [t3]; rfl, h3⟩⟩, fun q => absurd (r2.mpr c) q⟩
  · have c : ¬ ((0 ≤ z ∧ z < M 609 0) ∧ 0 ≤ r ∧ r < zsl (M 609) z 1) := fun c => q (by rw [p2, if_pos c])
    rw [p2, if_neg c]
    refine ⟨by decide, ?_⟩
    unfold wp_X11_eventDay
    refine th0 h fun M2 h2 e2 t2 => ?_
    obtain ⟨r1, r2⟩ := rule_ok h2 rz rr
    rw [e2] at r2
    exact ⟨r1, fun q => absurd (r2.mp q) c, fun _ => rs h2 fun M3 h3 t3 => ⟨by rw [t3]; rfl, h3⟩⟩
theorem sim_transition {M : jT} {z t w : Int} (h : Inv M) (rz : rg z) (rt : rg t) (rw' : rg w) : wp_X10_transition M 0 z t w (fun v M1 => OKq (wp_X11_transition M1 608 z t w) v) (fun e M1 => EXq (wp_X11_transition M1 608 z t w) [1, 4, 2] e) := by
  unfold wp_X10_transition
  refine nz h.1 rz (fun hz => ?_) (fun hz => ⟨by decide, ?_⟩)
  · refine cmp' h hz fun M1 h1 e1 hT hC hL => ?_
    have hm := hL.1
    have hz1 : 0 ≤ z ∧ z < M1 609 0 := by rw [e1]; exact hz
    have ref : ∀ {Q : Int → jT → Prop}, (∀ M3, M3 609 = M 609 → M3 608 0 = 0 → Inv M3 → Rl M3 (zsl (M 609) z) → (0 ≤ t ∧ t < lm (zsl (M 609) z) → (w = 0 → Q (M3 618 t) M3) ∧ (w = 1 → Q (M3 619 t) M3) ∧ (w = 2 → Q (M3 620 t) M3) ∧ (w = 3 → Q (M3 621 t) M3) ∧ (w = 4 → Q (M3 622 t) M3) ∧ (w ≠ 0 ∧ w ≠ 1 ∧ w ≠ 2 ∧ w ≠ 3 ∧ w ≠ 4 → wp_X11_raises M3 608 3 Q)) ∧ (¬ (0 ≤ t ∧ t < lm (zsl (M 609) z)) → wp_X11_raises M3 608 2 Q)) → wp_X11_transition M1 608 z t w Q := by
      intro Q k
      unfold wp_X11_transition
      simp only [Int.reduceAdd]
      refine th0 h1 fun M2 h2 e2 t2 => ⟨pg_zone h2 rz, fun _ => ?_, fun q => absurd (zi.mpr (by rw [e2]; exact hz1)) q⟩
      have hz2 : 0 ≤ z ∧ z < M2 609 0 := by rw [e2]; exact hz1
      refine sp_comp (h2.rz hz2) fun M3 f h14 hl hz3 => ?_
      obtain ⟨i1, i2, i3⟩ := h2.f1 hz2 f h14 hl
      rw [e2, e1] at hl
      obtain ⟨k1, k2⟩ := k M3 (by rw [i2, e2, e1]) (by rw [i3, t2]) i1 hl
      have e18 : M3 608 18 = lm (zsl (M 609) z) := hl.2.2.1
      rw [e18]
      refine ⟨pg_in rt ⟨by omega, by omega⟩ ⟨by omega, by omega⟩, fun c => ?_, fun c => k2 (fun q => c (show 0 ≤ t ∧ t ≤ lm (zsl (M 609) z) - 1 from ⟨q.1, by omega⟩))⟩
      have c : 0 ≤ t ∧ t ≤ lm (zsl (M 609) z) - 1 := c
      obtain ⟨g0, g1, g2, g3, g4, g5⟩ := k1 ⟨c.1, by omega⟩
      exact ⟨rw', fun q => ⟨by omega, g0 q⟩, fun q => ⟨by omega, g1 q⟩, fun q => ⟨by omega, g2 q⟩, fun q => ⟨by omega, g3 q⟩, fun q => ⟨by omega, g4 q⟩, g5⟩
    obtain ⟨t0, t1, t2, t3, t4, t5, t6, t7, t8, t9, t10⟩ := hT
    have t2 : M1 (8 * z + 521) 2 = lm (zsl (M 609) z) := t2
    refine ⟨fun x => x = b2i (0 ≤ t ∧ t < lm (zsl (M 609) z)), fun x ex => ?_, ¬ (0 ≤ t ∧ t < lm (zsl (M 609) z)), fun q => (b2i_f q).symm, rt, fun q => by omega, fun q1 => ?_⟩
    · rw [ex]
      refine ne' (fun c => ?_) (fun c => ⟨by decide, ref fun M3 e3 z3 h3 hl => ⟨fun q => absurd q c, fun _ => rs h3 fun M4 h4 t4 => ⟨by rw [t4]; rfl, h4⟩⟩⟩)
      refine ⟨fun x => x = b2i (0 ≤ w ∧ w ≤ 4), fun x ex => ?_, ¬ (0 ≤ w ∧ w ≤ 4), fun q => (b2i_f q).symm, rw', fun q => by omega, fun q1 => ⟨fun q => by omega, fun q => (b2i_t ⟨q1, q⟩).symm⟩⟩
      rw [ex]
      refine na (fun cw => ?_) (fun cw => ⟨by decide, ref fun M3 e3 z3 h3 hl => ⟨fun q => ⟨by omega, by omega, by omega, by omega, by omega, fun _ => rs h3 fun M4 h4 t4 => ⟨by rw [t4]; rfl, h4⟩⟩, fun q => absurd c q⟩⟩)
      obtain ⟨s1, s2, s3⟩ := t4 t c.1 c.2
      have s4 := t5 t c.1 (by have : t < lm (zsl (M 609) z) := c.2; unfold lm at this; omega)
      have s5 := t5 (t + 1) (by omega) (by have : t < lm (zsl (M 609) z) := c.2; unfold lm at this; omega)
      have po : ∀ k, 0 ≤ k → k ≤ 260 → pg_X7_offsetIn M1 (8 * z + 521) k := fun k k0 k1 => by unfold pg_X7_offsetIn; exact ⟨by omega, trivial⟩
      have fin : ∀ v, (∀ M3, Rl M3 (zsl (M 609) z) → (w = 0 → M3 618 t = v) ∧ (w = 1 → M3 619 t = v) ∧ (w = 2 → M3 620 t = v) ∧ (w = 3 → M3 621 t = v) ∧ (w = 4 → M3 622 t = v)) → OKq (wp_X11_transition M1 608 z t w) v := fun v hv => ref fun M3 e3 z3 h3 hl => by
        obtain ⟨g0, g1, g2, g3, g4⟩ := hv M3 hl
        exact ⟨fun _ => ⟨fun q => ⟨z3, g0 q, h3⟩, fun q => ⟨z3, g1 q, h3⟩, fun q => ⟨z3, g2 q, h3⟩, fun q => ⟨z3, g3 q, h3⟩, fun q => ⟨z3, g4 q, h3⟩, fun q => by omega⟩, fun q => absurd c q⟩
      have rl : ∀ M3, Rl M3 (zsl (M 609) z) → _ := fun M3 hl => hl.2.2.2.2.1 t c.1 c.2
      refine ⟨rw', fun q => ⟨by omega, fin _ fun M3 hl => ⟨fun _ => by rw [s1, (rl M3 hl).1], by omega, by omega, by omega, by omega⟩⟩, fun q => ⟨po t (by omega) (by omega), fin _ fun M3 hl => ⟨by omega, fun _ => by unfold pf_X7_offsetIn; rw [s4, (rl M3 hl).2.1], by omega, by omega, by omega⟩⟩, fun q => ⟨po (t + 1) (by omega) (by omega), fin _ fun M3 hl => ⟨by omega, by omega, fun _ => by unfold pf_X7_offsetIn; rw [s5, (rl M3 hl).2.2.1], by omega, by omega⟩⟩, fun q => ⟨by omega, fin _ fun M3 hl => ⟨by omega, by omega, by omega, fun _ => by rw [s2, (rl M3 hl).2.2.2.1], by omega⟩⟩, fun q => ⟨by omega, fin _ fun M3 hl => ⟨by omega, by omega, by omega, by omega, fun _ => by rw [s3, (rl M3 hl).2.2.2.2]⟩⟩⟩
    · rw [t2]
      exact ⟨⟨by omega, by omega⟩, fun q => by omega, fun q => (b2i_t ⟨q1, q⟩).symm⟩
  · unfold wp_X11_transition; exact bz h rz hz rfl (fun b M2 a1 a2 => ⟨a1, a2⟩)
theorem lv_rng {Z : Int → Int} (ho : ZOk Z) (hK : LK Z) : 0 ≤ lv Z ∧ lv Z ≤ 260 := by
  have hn := nE_rng ho
  obtain ⟨i1, i2, i3, _⟩ := f5_inv ho hK (nE Z).toNat (by omega)
  unfold lv; omega
theorem sim_voidEvent {M : jT} {z t w : Int} (h : Inv M) (rz : rg z) (rt : rg t) (rw' : rg w) : wp_X10_voidEvent M 0 z t w (fun v M1 => OKq (wp_X11_voidEvent M1 608 z t w) v) (fun e M1 => EXq (wp_X11_voidEvent M1 608 z t w) [1, 4, 2] e) := by
  unfold wp_X10_voidEvent
  refine nz h.1 rz (fun hz => ?_) (fun hz => ⟨by decide, ?_⟩)
  · refine cmp' h hz fun M1 h1 e1 hT hC hL => ?_
    have hv := lv_rng (h.1.1.2.2.1 z hz.1 hz.2) hT.2.1
    have hz1 : 0 ≤ z ∧ z < M1 609 0 := by rw [e1]; exact hz
    have ref : ∀ {Q : Int → jT → Prop}, (∀ M3, M3 609 = M 609 → M3 608 0 = 0 → Inv M3 → Rl M3 (zsl (M 609) z) → (0 ≤ t ∧ t < lv (zsl (M 609) z) → (w = 0 → Q (M3 623 t) M3) ∧ (w = 1 → Q (M3 624 t) M3) ∧ (w = 2 → Q (M3 625 t) M3) ∧ (w ≠ 0 ∧ w ≠ 1 ∧ w ≠ 2 → wp_X11_raises M3 608 3 Q)) ∧ (¬ (0 ≤ t ∧ t < lv (zsl (M 609) z)) → wp_X11_raises M3 608 2 Q)) → wp_X11_voidEvent M1 608 z t w Q := by
      intro Q k
      unfold wp_X11_voidEvent
      simp only [Int.reduceAdd]
      refine th0 h1 fun M2 h2 e2 t2 => ⟨pg_zone h2 rz, fun _ => ?_, fun q => absurd (zi.mpr (by rw [e2]; exact hz1)) q⟩
      have hz2 : 0 ≤ z ∧ z < M2 609 0 := by rw [e2]; exact hz1
      refine sp_comp (h2.rz hz2) fun M3 f h14 hl hz3 => ?_
      obtain ⟨i1, i2, i3⟩ := h2.f1 hz2 f h14 hl
      rw [e2, e1] at hl
      obtain ⟨k1, k2⟩ := k M3 (by rw [i2, e2, e1]) (by rw [i3, t2]) i1 hl
      have e24 : M3 608 24 = lv (zsl (M 609) z) := hl.2.2.2.1
      rw [e24]
      refine ⟨pg_in rt ⟨by omega, by omega⟩ ⟨by omega, by omega⟩, fun c => ?_, fun c => k2 (fun q => c (show 0 ≤ t ∧ t ≤ lv (zsl (M 609) z) - 1 from ⟨q.1, by omega⟩))⟩
      have c : 0 ≤ t ∧ t ≤ lv (zsl (M 609) z) - 1 := c
      obtain ⟨g0, g1, g2, g5⟩ := k1 ⟨c.1, by omega⟩
      refine ⟨_, fun _ _ q => q, rw', fun q => ⟨fun q2 => ⟨fun q3 => g5 ⟨q, q2, q3⟩, fun q3 => ⟨by omega, g2 q3⟩⟩, fun q2 => ⟨by omega, g1 q2⟩⟩, fun q => ⟨by omega, g0 q⟩⟩
    obtain ⟨t0, t1, t2, t3, t4, t5, t6, t7, t8, t9, t10⟩ := hT
    have t3 : M1 (8 * z + 521) 3 = lv (zsl (M 609) z) := t3
    refine ⟨fun x => x = b2i (0 ≤ t ∧ t < lv (zsl (M 609) z)), fun x ex => ?_, ¬ (0 ≤ t ∧ t < lv (zsl (M 609) z)), fun q => (b2i_f q).symm, rt, fun q => by omega, fun q1 => ?_⟩
    · rw [ex]
      refine ne' (fun c => ?_) (fun c => ⟨by decide, ref fun M3 e3 z3 h3 hl => ⟨fun q => absurd q c, fun _ => rs h3 fun M4 h4 t4 => ⟨by rw [t4]; rfl, h4⟩⟩⟩)
      refine ⟨fun x => x = b2i (0 ≤ w ∧ w ≤ 2), fun x ex => ?_, ¬ (0 ≤ w ∧ w ≤ 2), fun q => (b2i_f q).symm, rw', fun q => by omega, fun q1 => ⟨fun q => by omega, fun q => (b2i_t ⟨q1, q⟩).symm⟩⟩
      rw [ex]
      refine na (fun cw => ?_) (fun cw => ⟨by decide, ref fun M3 e3 z3 h3 hl => ⟨fun q => ⟨by omega, by omega, by omega, fun _ => rs h3 fun M4 h4 t4 => ⟨by rw [t4]; rfl, h4⟩⟩, fun q => absurd c q⟩⟩)
      obtain ⟨s1, s2, s3⟩ := t6 t c.1 c.2
      have fin : ∀ v, (∀ M3, Rl M3 (zsl (M 609) z) → (w = 0 → M3 623 t = v) ∧ (w = 1 → M3 624 t = v) ∧ (w = 2 → M3 625 t = v)) → OKq (wp_X11_voidEvent M1 608 z t w) v := fun v hv => ref fun M3 e3 z3 h3 hl => by
        obtain ⟨g0, g1, g2⟩ := hv M3 hl
        exact ⟨fun _ => ⟨fun q => ⟨z3, g0 q, h3⟩, fun q => ⟨z3, g1 q, h3⟩, fun q => ⟨z3, g2 q, h3⟩, fun q => by omega⟩, fun q => absurd c q⟩
      have rl : ∀ M3, Rl M3 (zsl (M 609) z) → _ := fun M3 hl => hl.2.2.2.2.2 t c.1 c.2
      refine ⟨rw', fun q => ⟨by omega, fin _ fun M3 hl => ⟨fun _ => by rw [s1, (rl M3 hl).1], by omega, by omega⟩⟩, fun q => ⟨by omega, fin _ fun M3 hl => ⟨by omega, fun _ => by rw [s2, (rl M3 hl).2.1], by omega⟩⟩, fun q => ⟨by omega, fin _ fun M3 hl => ⟨by omega, by omega, fun _ => by rw [s3, (rl M3 hl).2.2]⟩⟩⟩
    · rw [t3]
      exact ⟨⟨by omega, by omega⟩, fun q => by omega, fun q => (b2i_t ⟨q1, q⟩).symm⟩
  · unfold wp_X11_voidEvent; exact bz h rz hz rfl (fun b M2 a1 a2 => ⟨a1, a2⟩)
