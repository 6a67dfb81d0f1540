/-! calls that ask about days and zones: class and reference answer alike -/
def kx (l : List Nat) (e : Nat) : Int := (l.idxOf e : Int) + 1
def OKq (W : (Int → jT → Prop) → Prop) (z : Int) : Prop := W (fun b M2 => M2 608 0 = 0 ∧ b = z ∧ Inv M2)
def EXq (W : (Int → jT → Prop) → Prop) (l : List Nat) (e : Nat) : Prop := e ∈ l ∧ W (fun _ M2 => M2 608 0 = kx l e ∧ Inv M2)
theorem Inv.rg0 {M : jT} (h : Inv M) : rg (M 609 0) ∧ rg (M 609 1) := by
  have a1 := h.1.1.1; have a2 := h.1.1.2.1
  exact ⟨⟨by omega, by omega⟩, ⟨by omega, by omega⟩⟩
theorem pg_zone {M : jT} {z : Int} (h : Inv M) (hz : rg z) : pg_X11_isZone M 608 z := by
  have a1 := h.1.1.1
  unfold pg_X11_isZone; simp only [Int.reduceAdd]
  exact ⟨pg_in hz ⟨by omega, by omega⟩ ⟨by omega, by omega⟩, trivial⟩
theorem zi {M : jT} {z : Int} : pb_X11_isZone M 608 z ↔ 0 ≤ z ∧ z < M 609 0 := by
  show (0 ≤ z ∧ z ≤ M 609 0 - 1) ↔ _
  omega
theorem mi {M : jT} {z : Int} : pb_X11_isMeeting M 608 z ↔ 0 ≤ z ∧ z < M 609 1 := by
  show (0 ≤ z ∧ z ≤ M 609 1 - 1) ↔ _
  omega
theorem nz {M : jT} {z : Int} {Q : Prop} {X : Nat → jT → Prop} (hD : D1 M) (hz : rg z) (k1 : 0 ≤ z ∧ z < M 609 0 → Q) (k2 : ¬ (0 ≤ z ∧ z < M 609 0) → X 1 M) : wo_X10_needZone M 0 z Q ∨ wp_X10_needZone M 0 z (fun _ => False) X := by
  by_cases c : 0 ≤ z ∧ z < M 609 0
  · exact Or.inl ⟨pg_hz hD hz, ni_o ((hz_iff hD).mpr c) (k1 c)⟩
  · exact Or.inr ⟨pg_hz hD hz, Or.inr (ni_x (fun q => c ((hz_iff hD).mp q)) (k2 c))⟩
theorem nm {M : jT} {m : Int} {Q : Prop} {X : Nat → jT → Prop} (hD : D1 M) (hm : rg m) (k1 : 0 ≤ m ∧ m < M 609 1 → Q) (k2 : ¬ (0 ≤ m ∧ m < M 609 1) → X 1 M) : wo_X10_needMeeting M 0 m Q ∨ wp_X10_needMeeting M 0 m (fun _ => False) X := by
  have a2 := hD.1.2.1
  have e := hD.2.2.1
  unfold wo_X10_needMeeting wp_X10_needMeeting
  simp only [Int.zero_add, e]
  by_cases c : 0 ≤ m ∧ m < M 609 1
  · exact Or.inl ⟨fun x => x = b2i (0 ≤ m ∧ m < M 609 1), fun x ex => by rw [ex]; exact ni_o c (k1 c), False, fun q => q.elim, hm, fun q => by omega, fun q => ⟨⟨by omega, by omega⟩, fun q2 => by omega, fun q2 => (b2i_t c).symm⟩⟩
  · exact Or.inr ⟨fun x => x = b2i (0 ≤ m ∧ m < M 609 1), fun x ex => by rw [ex]; exact Or.inr (ni_x c (k2 c)), True, fun _ => (b2i_f c).symm, hm, fun q => trivial, fun q => ⟨⟨by omega, by omega⟩, fun q2 => trivial, fun q2 => absurd ⟨q, q2⟩ c⟩⟩
theorem pgd {a : Int} (h : rg a) : pg_X10_isDay a ∧ pg_X10_isYear a ∧ pg_X10_isMonth a ∧ pg_X10_isBase a ∧ pg_X10_isInstant a ∧ pg_X10_isLocal a ∧ pg_X10_isMode a := by
  unfold pg_X10_isDay pg_X10_isYear pg_X10_isMonth pg_X10_isBase pg_X10_isInstant pg_X10_isLocal pg_X10_isMode
  exact ⟨⟨h, fun _ => trivial, fun _ => ⟨fun _ => trivial, fun _ => trivial⟩⟩, ⟨h, fun _ => trivial, fun _ => ⟨fun _ => trivial, fun _ => trivial⟩⟩, ⟨h, fun _ => trivial, fun _ => ⟨fun _ => trivial, fun _ => trivial⟩⟩, ⟨h, fun _ => trivial, fun _ => ⟨fun _ => trivial, fun _ => trivial⟩⟩, ⟨h, fun _ => trivial, fun _ => ⟨fun _ => trivial, fun _ => trivial⟩⟩, ⟨h, fun _ => trivial, fun _ => ⟨fun _ => trivial, fun _ => trivial⟩⟩, ⟨h, fun _ => trivial, fun _ => ⟨fun _ => trivial, fun _ => trivial⟩⟩⟩
theorem lI {n : Nat} (h : (-2147483648 : Int) ≤ n ∧ (n : Int) < 2147483648) : rg (n : Int) := h
theorem pgr {a : Int} (h : rg a) : pg_X11_isDay a ∧ pg_X11_isInstant a ∧ pg_X11_isLocal a ∧ pg_X11_isBase a := by
  unfold pg_X11_isDay pg_X11_isInstant pg_X11_isLocal pg_X11_isBase
  exact ⟨⟨pg_in h ⟨by omega, by omega⟩ ⟨by omega, by omega⟩, trivial⟩, ⟨pg_in h ⟨by omega, by omega⟩ ⟨by omega, by omega⟩, trivial⟩, ⟨pg_in h ⟨by omega, by omega⟩ ⟨by omega, by omega⟩, trivial⟩, ⟨pg_in h ⟨by omega, by omega⟩ ⟨by omega, by omega⟩, trivial⟩⟩
theorem sim_day {M : jT} {y m d : Int} (h : Inv M) (ry : rg y) (rm : rg m) (rd : rg d) : wp_X10_day M 0 y m d (fun z M1 => OKq (wp_X11_day M1 608 y m d) z) (fun e M1 => EXq (wp_X11_day M1 608 y m d) [2] e) := by
  have bad : ¬ ((0 ≤ y ∧ y < 32) ∧ (1 ≤ m ∧ m ≤ 12) ∧ 1 ≤ d ∧ d ≤ mL y m) → EXq (wp_X11_day M 608 y m d) [2] 2 := by
    intro hb
    refine ⟨by decide, ?_⟩
    unfold wp_X11_day
    refine th0 h fun M1 h1 e1 t1 => ?_
    refine ⟨pg_in ry ⟨by omega, by omega⟩ ⟨by omega, by omega⟩, True, fun _ => rs h1 fun M2 h2 t2 => ⟨by rw [t2]; rfl, h2⟩, fun _ => trivial, fun c => ⟨pg_in rm ⟨by omega, by omega⟩ ⟨by omega, by omega⟩, fun _ => trivial, fun c2 => ?_⟩⟩
    have c : 0 ≤ y ∧ y ≤ 31 := c
    have c2 : 1 ≤ m ∧ m ≤ 12 := c2
    have hl := mL_rng (y := y) c2
    rw [pf_rmL c2]
    exact ⟨pg_rmL (by omega) c2, pg_in rd ⟨by omega, by omega⟩ ⟨by omega, by omega⟩, fun c3 => absurd ⟨⟨c.1, by omega⟩, c2, show 1 ≤ d ∧ d ≤ mL y m from c3⟩ hb, fun _ => trivial⟩
  have good : ((0 ≤ y ∧ y < 32) ∧ (1 ≤ m ∧ m ≤ 12) ∧ 1 ≤ d ∧ d ≤ mL y m) → OKq (wp_X11_day M 608 y m d) (mD y m + d - 1) := by
    rintro ⟨a1, a2, a3⟩
    unfold OKq wp_X11_day
    refine th0 h fun M1 h1 e1 t1 => ?_
    have hl := mL_rng (y := y) a2
    rw [pf_rmL a2]
    refine ⟨pg_in ry ⟨by omega, by omega⟩ ⟨by omega, by omega⟩, False, fun q => q.elim, fun c => c ⟨a1.1, by omega⟩, fun c => ⟨pg_in rm ⟨by omega, by omega⟩ ⟨by omega, by omega⟩, fun c2 => c2 a2, fun c2 => ⟨pg_rmL (by omega) a2, pg_in rd ⟨by omega, by omega⟩ ⟨by omega, by omega⟩, fun c3 => ?_, fun c3 => c3 a3⟩⟩⟩
    exact sp_monthDay (by omega) a2 ⟨t1, rfl, h1⟩
  unfold wp_X10_day
  refine ⟨(pgd ry).2.1, fun x => x = b2i ((0 ≤ y ∧ y < 32) ∧ (1 ≤ m ∧ m ≤ 12)), fun x ex => ?_, ¬ ((0 ≤ y ∧ y < 32) ∧ (1 ≤ m ∧ m ≤ 12)), fun q => (b2i_f q).symm, fun c q => c q.1, fun c => ⟨(pgd rm).2.2.1, fun c2 q => c2 q.2, fun c2 => (b2i_t ⟨c, c2⟩).symm⟩⟩
  rw [ex]
  refine na (fun c => ?_) (fun c => bad (fun q => c ⟨q.1, q.2.1⟩))
  have hl := mL_rng (y := y) c.2
  rw [pf_mS, pf_mL]
  refine ⟨fun x => x = b2i (1 ≤ d ∧ d ≤ mL y m), fun x ex => ?_, ¬ (1 ≤ d ∧ d ≤ mL y m), fun q => (b2i_f q).symm, rd, fun c => by omega, fun c1 => ⟨pg_mL (by omega) c.2, ⟨by omega, by omega⟩, fun c => by omega, fun c2 => (b2i_t ⟨c1, c2⟩).symm⟩⟩
  rw [ex]
  exact na (fun c2 => ⟨pg_mS (by omega) c.2, good ⟨c.1, c.2, c2⟩⟩) (fun c2 => bad (fun q => c2 q.2.2))
theorem sim_date {M : jT} {d w : Int} (h : Inv M) (rd : rg d) (rw' : rg w) : wp_X10_date M 0 d w (fun z M1 => OKq (wp_X11_date M1 608 d w) z) (fun e M1 => EXq (wp_X11_date M1 608 d w) [1, 2] e) := by
  have bad1 : ¬ (0 ≤ d ∧ d ≤ 11687) → EXq (wp_X11_date M 608 d w) [1, 2] 1 := by
    intro hb
    refine ⟨by decide, ?_⟩
    unfold wp_X11_date
    exact th0 h fun M1 h1 e1 t1 => ⟨(pgr rd).1, fun c => absurd (show 0 ≤ d ∧ d ≤ 11687 from c) hb, fun c => rs h1 fun M2 h2 t2 => ⟨by rw [t2]; rfl, h2⟩⟩
  unfold wp_X10_date
  refine ⟨(pgd rd).1, ni (fun c => ?_) bad1⟩
  have c : 0 ≤ d ∧ d ≤ 11687 := c
  obtain ⟨y1, y2, y3, y4⟩ := yO_rng c
  have hin := mO_in c
  have hmo := mO_rng (y := yO d) (d := d)
  have hl := mL_rng (y := yO d) hmo
  refine ⟨fun x => x = b2i (0 ≤ w ∧ w ≤ 5), fun x ex => ?_, ¬ (0 ≤ w ∧ w ≤ 5), fun q => (b2i_f q).symm, rw', fun q => by omega, fun q1 => ⟨fun q => by omega, fun q2 => (b2i_t ⟨q1, q2⟩).symm⟩⟩
  rw [ex]
  refine na (fun c2 => ?_) (fun c2 => ?_)
  · rw [pf_yO]
    refine ⟨pg_yO c, ?_⟩
    intro x20 e20
    rw [e20]
    refine sp_X1_monthOf ⟨y1, y2⟩ ⟨y3, c.2⟩ ?_
    rw [pf_mS]
    refine ⟨pg_mS (by omega) hmo, ?_⟩
    intro x26 e26
    have ref : ∀ v, (w = 0 → v = yO d) → (w = 1 → v = mO (yO d) d) → (w = 2 → v = x26) → (w = 3 → v = (d + 5) % 7) → (w = 4 → v = d - yD (yO d) + 1) → (w = 5 → v = (x26 - 1) / 7 + 1) → OKq (wp_X11_date M 608 d w) v := by
      intro v g0 g1 g2 g3 g4 g5
      unfold OKq wp_X11_date
      refine th0 h fun M1 h1 e1 t1 => ⟨(pgr rd).1, fun _ => ⟨rw', fun q => ?_, fun q => ?_, fun q => ?_, fun q => ?_, fun q => ?_, fun q => ?_, fun q => by omega⟩, fun q => absurd c q⟩
      · exact sp_yearOf c ⟨t1, (g0 q).symm, h1⟩
      · exact sp_monthOf c ⟨t1, (g1 q).symm, h1⟩
      · exact sp_dayOfMonth c ⟨t1, by rw [g2 q, e26], h1⟩
      · exact ⟨by unfold pg_X11_weekday; exact ⟨by omega, trivial⟩, t1, by rw [g3 q]; rfl, h1⟩
      · exact sp_yearOf c ⟨pg_yD (by omega), t1, by rw [g4 q, pf_yD], h1⟩
      · exact sp_dayOfMonth c ⟨by omega, t1, by rw [g5 q, e26], h1⟩
    refine ⟨rw', fun q => ref _ (fun _ => rfl) (by omega) (by omega) (by omega) (by omega) (by omega), fun q => ref _ (by omega) (fun _ => rfl) (by omega) (by omega) (by omega) (by omega), fun q => ref _ (by omega) (by omega) (fun _ => rfl) (by omega) (by omega) (by omega), fun q => ⟨by unfold pg_X1_weekday; exact ⟨by omega, trivial⟩, ref _ (by omega) (by omega) (by omega) (fun _ => rfl) (by omega) (by omega)⟩, fun q => ⟨by unfold pg_X1_yearStart; exact ⟨by omega, trivial⟩, ref _ (by omega) (by omega) (by omega) (by omega) (fun _ => rfl) (by omega)⟩, fun q => ⟨by omega, ref _ (by omega) (by omega) (by omega) (by omega) (by omega) (fun _ => rfl)⟩⟩
  · refine ⟨by decide, ?_⟩
    unfold wp_X11_date
    exact th0 h fun M1 h1 e1 t1 => ⟨(pgr rd).1, fun _ => ⟨rw', fun q => by omega, fun q => by omega, fun q => by omega, fun q => by omega, fun q => by omega, fun q => by omega, fun q => rs h1 fun M2 h2 t2 => ⟨by rw [t2]; rfl, h2⟩⟩, fun q => absurd c q⟩
theorem Inv.rz {M : jT} {z : Int} (h : Inv M) (hz : 0 ≤ z ∧ z < M 609 0) : RZ M z (zsl (M 609) z) := h.2.2.1.rz h.1.1 hz
theorem Inv.f1 {M M' : jT} {z : Int} (h : Inv M) (hz : 0 ≤ z ∧ z < M 609 0) (f : Fr1 M M') (h14 : M' 608 14 = z) (hl : Rl M' (zsl (M 609) z)) : Inv M' ∧ M' 609 = M 609 ∧ M' 608 0 = M 608 0 := by
  have a1 := h.1.1.1
  have e := f.1 609 (by omega) (by omega)
  exact ⟨h.r f.rf.fd (RC.of (by omega) e h14 hl), e, f.rf.z⟩
/-- a bad zone -/
theorem bz {M : jT} {z : Int} {P1 : jT → Prop} {Q : Int → jT → Prop} {l : List Nat} (h : Inv M) (hz : rg z) (hb : ¬ (0 ≤ z ∧ z < M 609 0)) (hl : kx l 1 = 1) (hQ : ∀ b M2, M2 608 0 = kx l 1 → Inv M2 → Q b M2) : ∀ M1 : jT, M1 = up M 608 0 0 → (pg_X11_isZone M1 608 z) ∧ ((pb_X11_isZone M1 608 z → P1 M1) ∧ (¬ (pb_X11_isZone M1 608 z) → wp_X11_raises M1 608 1 (fun b M2 => Q b M2))) :=
  th0 h fun M1 h1 e1 t1 => ⟨pg_zone h1 hz, fun c => absurd (by rw [← e1]; exact zi.mp c) hb, fun _ => rs h1 fun M2 h2 t2 => hQ 0 M2 (by rw [t2, hl]) h2⟩
/-- after a class's look -/
theorem Inv.lk {M M' : jT} {z : Int} (h : Inv M) (hz : 0 ≤ z ∧ z < M 609 0) (F : ∀ a, a ≠ 8 * z + 521 → M' a = M a) (G : ∀ b, b ≠ 13 → b ≠ 14 → b ≠ 15 → M' (8 * z + 521) b = M (8 * z + 521) b) : Inv M' ∧ M' 609 = M 609 ∧ (∀ Z, Tl M (8 * z + 521) Z → Tl M' (8 * z + 521) Z) := by
  have a1 := h.1.1.1
  obtain ⟨c1, c2, c3⟩ := CC.look h.1 h.2.1 (z := z) (by omega) F G
  exact ⟨h.c c2.to7 c1, F 609 (by omega), c3⟩
theorem cmp' {M : jT} {z : Int} {Q : Int → jT → Prop} (h : Inv M) (hz : 0 ≤ z ∧ z < M 609 0) (kk : ∀ M', Inv M' → M' 609 = M 609 → Tl M' (8 * z + 521) (zsl (M 609) z) → CL M' (8 * z + 521) (lm (zsl (M 609) z)) (lS (zsl (M 609) z)) (lF (zsl (M 609) z)) → LOk (lm (zsl (M 609) z)) (lS (zsl (M 609) z)) (lF (zsl (M 609) z)) → Q (8 * z + 521) M') : wp_X10_compiled M 0 z Q :=
  cc_compiled h.1 h.2.1 hz fun M' f hC _ hT => kk M' (h.c f.to7 hC) (f 609 (by omega)) hT (CL.of (h.1.1.2.2.1 z hz.1 hz.2) hT) (LOk.of (h.1.1.2.2.1 z hz.1 hz.2) hT.2.1).1
theorem sim_offset {M : jT} {z x : Int} (h : Inv M) (rz : rg z) (rx : rg x) : wp_X10_offset M 0 z x (fun v M1 => OKq (wp_X11_offset M1 608 z x) v) (fun e M1 => EXq (wp_X11_offset M1 608 z x) [1, 2] e) := by
  unfold wp_X10_offset
  refine nz h.1 rz (fun hz => ⟨(pgd rx).2.2.2.2.1, na (fun c => ?_) (fun c => ?_)⟩) (fun hz => ⟨by decide, ?_⟩)
  · refine cmp' h hz fun M1 h1 e1 hT hC hL => sp_X7_offsetAt hC hL rx ?_
    unfold OKq wp_X11_offset
    refine th0 h1 fun M2 h2 e2 t2 => ⟨pg_zone h2 rz, fun _ => ⟨(pgr rx).2.1, _, fun _ _ q => q, fun q => absurd c q, fun _ => ?_⟩, fun q => absurd (zi.mpr (by rw [e2, e1]; exact hz)) q⟩
    have hz2 : 0 ≤ z ∧ z < M2 609 0 := by rw [e2, e1]; exact hz
    refine sp_offsetAt (h2.rz hz2) rx fun M3 f h14 hl hz3 => ?_
    obtain ⟨i1, i2, i3⟩ := h2.f1 hz2 f h14 hl
    exact ⟨by rw [i3, t2], by rw [e2, e1], i1⟩
  · refine ⟨by decide, ?_⟩
    unfold wp_X11_offset
    exact th0 h fun M2 h2 e2 t2 => ⟨pg_zone h2 rz, fun _ => ⟨(pgr rx).2.1, _, fun _ _ q => q, fun _ => rs h2 fun M3 h3 t3 => ⟨by rw [t3]; rfl, h3⟩, fun q => absurd q c⟩, fun q => absurd (zi.mpr (by rw [e2]; exact hz)) q⟩
  · unfold wp_X11_offset; exact bz h rz hz rfl (fun b M2 a1 a2 => ⟨a1, a2⟩)
theorem sim_toLocal {M : jT} {z x : Int} (h : Inv M) (rz : rg z) (rx : rg x) : wp_X10_toLocal M 0 z x (fun v M1 => OKq (wp_X11_toLocal M1 608 z x) v) (fun e M1 => EXq (wp_X11_toLocal M1 608 z x) [1, 2] e) := by
  unfold wp_X10_toLocal
  refine nz h.1 rz (fun hz => ⟨(pgd rx).2.2.2.2.1, na (fun c => ?_) (fun c => ?_)⟩) (fun hz => ⟨by decide, ?_⟩)
  · refine cmp' h hz fun M1 h1 e1 hT hC hL => sp_X7_offsetAt hC hL rx ?_
    unfold OKq wp_X11_toLocal
    refine th0 h1 fun M2 h2 e2 t2 => ⟨pg_zone h2 rz, fun _ => ⟨(pgr rx).2.1, _, fun _ _ q => q, fun q => absurd c q, fun _ => ?_⟩, fun q => absurd (zi.mpr (by rw [e2, e1]; exact hz)) q⟩
    have hz2 : 0 ≤ z ∧ z < M2 609 0 := by rw [e2, e1]; exact hz
    refine sp_offsetAt (h2.rz hz2) rx fun M3 f h14 hl hz3 => ?_
    obtain ⟨i1, i2, i3⟩ := h2.f1 hz2 f h14 hl
    exact ⟨by rw [i3, t2], by rw [e2, e1], i1⟩
  · refine ⟨by decide, ?_⟩
    unfold wp_X11_toLocal
    exact th0 h fun M2 h2 e2 t2 => ⟨pg_zone h2 rz, fun _ => ⟨(pgr rx).2.1, _, fun _ _ q => q, fun _ => rs h2 fun M3 h3 t3 => ⟨by rw [t3]; rfl, h3⟩, fun q => absurd q c⟩, fun q => absurd (zi.mpr (by rw [e2]; exact hz)) q⟩
  · unfold wp_X11_toLocal; exact bz h rz hz rfl (fun b M2 a1 a2 => ⟨a1, a2⟩)
theorem lc {x : Int} : pb_X11_isLocal x ↔ 0 ≤ x ∧ x < 16830720 := by
  show (0 ≤ x ∧ x ≤ 16830719) ↔ _
  omega
theorem sim_instants {M : jT} {z x : Int} (h : Inv M) (rz : rg z) (rx : rg x) : wp_X10_instants M 0 z x (fun v M1 => OKq (wp_X11_instants M1 608 z x) v) (fun e M1 => EXq (wp_X11_instants M1 608 z x) [1, 2] e) := by
  unfold wp_X10_instants
  refine nz h.1 rz (fun hz => ⟨(pgd rx).2.2.2.2.2.1, na (fun c => ?_) (fun c => ?_)⟩) (fun hz => ⟨by decide, ?_⟩)
  · have c : 0 ≤ x ∧ x < 16830720 := c
    refine cmp' h hz fun M1 h1 e1 hT hC hL => sp_look hC hL (by omega) fun M1' F G g13 _ _ => ?_
    obtain ⟨h1', e1', _⟩ := h1.lk (by rw [e1]; exact hz) F G
    rw [g13]
    unfold OKq wp_X11_instants
    have hz1 : 0 ≤ z ∧ z < M1' 609 0 := by rw [e1', e1]; exact hz
    refine th0 h1' fun M2 h2 e2 t2 => ⟨pg_zone h2 rz, fun _ => ⟨(pgr rx).2.2.1, fun _ => ?_, fun q => absurd (lc.mpr c) q⟩, fun q => absurd (zi.mpr (by rw [e2]; exact hz1)) q⟩
    have hz2 : 0 ≤ z ∧ z < M2 609 0 := by rw [e2]; exact hz1
    refine sp_finds (h2.rz hz2) (by omega) fun M3 f h14 hl hz3 e30 _ => ?_
    obtain ⟨i1, i2, i3⟩ := h2.f1 hz2 f h14 hl
    exact ⟨by rw [i3, t2], by rw [e30, e2, e1', e1], i1⟩
  · refine ⟨by decide, ?_⟩
    unfold wp_X11_instants
    exact th0 h fun M2 h2 e2 t2 => ⟨pg_zone h2 rz, fun _ => ⟨(pgr rx).2.2.1, fun q => absurd (lc.mp q) c, fun _ => rs h2 fun M3 h3 t3 => ⟨by rw [t3]; rfl, h3⟩⟩, fun q => absurd (zi.mpr (by rw [e2]; exact hz)) q⟩
  · unfold wp_X11_instants; exact bz h rz hz rfl (fun b M2 a1 a2 => ⟨a1, a2⟩)
theorem sim_cause {M : jT} {z x : Int} (h : Inv M) (rz : rg z) (rx : rg x) : wp_X10_cause M 0 z x (fun v M1 => OKq (wp_X11_cause M1 608 z x) v) (fun e M1 => EXq (wp_X11_cause M1 608 z x) [1, 2] e) := by
  unfold wp_X10_cause
  refine nz h.1 rz (fun hz => ⟨(pgd rx).2.2.2.2.2.1, na (fun c => ?_) (fun c => ?_)⟩) (fun hz => ⟨by decide, ?_⟩)
  · have c : 0 ≤ x ∧ x < 16830720 := c
    refine cmp' h hz fun M1 h1 e1 hT hC hL => sp_X7_causeOf hC hL (by omega) fun M1' F G => ?_
    obtain ⟨h1', e1', _⟩ := h1.lk (by rw [e1]; exact hz) F G
    unfold OKq wp_X11_cause
    have hz1 : 0 ≤ z ∧ z < M1' 609 0 := by rw [e1', e1]; exact hz
    refine th0 h1' fun M2 h2 e2 t2 => ⟨pg_zone h2 rz, fun _ => ⟨(pgr rx).2.2.1, _, fun _ _ q => q, fun q => absurd (lc.mpr c) q, fun _ => ?_⟩, fun q => absurd (zi.mpr (by rw [e2]; exact hz1)) q⟩
    have hz2 : 0 ≤ z ∧ z < M2 609 0 := by rw [e2]; exact hz1
    refine sp_causeOf (h2.rz hz2) (by omega) fun M3 f h14 hl hz3 e30 _ => ?_
    obtain ⟨i1, i2, i3⟩ := h2.f1 hz2 f h14 hl
    exact ⟨by rw [i3, t2], by rw [e2, e1', e1], i1⟩
  · refine ⟨by decide, ?_⟩
    unfold wp_X11_cause
    exact th0 h fun M2 h2 e2 t2 => ⟨pg_zone h2 rz, fun _ => ⟨(pgr rx).2.2.1, _, fun _ _ q => q, fun _ => rs h2 fun M3 h3 t3 => ⟨by rw [t3]; rfl, h3⟩, fun q => absurd (lc.mp q) c⟩, fun q => absurd (zi.mpr (by rw [e2]; exact hz)) q⟩
  · unfold wp_X11_cause; exact bz h rz hz rfl (fun b M2 a1 a2 => ⟨a1, a2⟩)
theorem ni_in {v : Int} {M : jT} {Q : Int → Prop} {X : Nat → jT → Prop} (hr : rg v) (k1 : v ≠ -1000000000 → Q v) (k2 : v = -1000000000 → X 5 M) : wo_X10_needInstant M v Q ∨ wp_X10_needInstant M v (fun _ _ => False) X := by
  unfold wo_X10_needInstant wp_X10_needInstant
  by_cases c : v = -1000000000
  · exact Or.inr ⟨hr, fun q => absurd c q, k2⟩
  · exact Or.inl ⟨hr, k1, fun q => absurd q c⟩
theorem sim_toInstant {M : jT} {z x o : Int} (h : Inv M) (rz : rg z) (rx : rg x) (ro : rg o) : wp_X10_toInstant M 0 z x o (fun v M1 => OKq (wp_X11_toInstant M1 608 z x o) v) (fun e M1 => EXq (wp_X11_toInstant M1 608 z x o) [1, 2, 5] e) := by
  unfold wp_X10_toInstant
  refine nz h.1 rz (fun hz => ⟨(pgd rx).2.2.2.2.2.1, ?_⟩) (fun hz => ⟨by decide, ?_⟩)
  · refine ⟨fun t => t = b2i ((0 ≤ x ∧ x < 16830720) ∧ (0 ≤ o ∧ o ≤ 3)), fun t et => ?_, ¬ ((0 ≤ x ∧ x < 16830720) ∧ (0 ≤ o ∧ o ≤ 3)), fun q => (b2i_f q).symm, fun c q => c q.1, fun c => ⟨(pgd ro).2.2.2.2.2.2, fun c2 q => c2 q.2, fun c2 => (b2i_t ⟨c, c2⟩).symm⟩⟩
    rw [et]
    refine na (fun c => ?_) (fun c => ?_)
    · obtain ⟨c1, c2⟩ := c
      refine cmp' h hz fun M1 h1 e1 hT hC hL => sp_instantOf hC hL (by omega) c2 fun M1' F G => ?_
      obtain ⟨h1', e1', _⟩ := h1.lk (by rw [e1]; exact hz) F G
      have hr := iO_rng (l := x) (mode := o) hL (by omega) c2
      have hz1 : 0 ≤ z ∧ z < M1' 609 0 := by rw [e1', e1]; exact hz
      have ref : ∀ {Q : Int → jT → Prop}, (iO (lm (zsl (M 609) z)) (lS (zsl (M 609) z)) (lF (zsl (M 609) z)) x o ≠ -1000000000 → ∀ M3, M3 608 0 = 0 → Inv M3 → Q (iO (lm (zsl (M 609) z)) (lS (zsl (M 609) z)) (lF (zsl (M 609) z)) x o) M3) → (iO (lm (zsl (M 609) z)) (lS (zsl (M 609) z)) (lF (zsl (M 609) z)) x o = -1000000000 → ∀ M3, M3 608 0 = 3 → Inv M3 → Q 0 M3) → wp_X11_toInstant M1' 608 z x o Q := by
        intro Q k1 k2
        unfold wp_X11_toInstant
        refine th0 h1' fun M2 h2 e2 t2 => ⟨pg_zone h2 rz, fun _ => ⟨(pgr rx).2.2.1, False, fun q => q.elim, fun q => q (lc.mpr c1), fun _ => ⟨pg_in ro ⟨by omega, by omega⟩ ⟨by omega, by omega⟩, fun _ => ?_, fun q => q c2⟩⟩, fun q => absurd (zi.mpr (by rw [e2]; exact hz1)) q⟩
        have hz2 : 0 ≤ z ∧ z < M2 609 0 := by rw [e2]; exact hz1
        refine sp_tells (h2.rz hz2) (by omega) c2 fun M3 t f h14 hl hz3 e30 ht => ?_
        obtain ⟨i1, i2, i3⟩ := h2.f1 hz2 f h14 hl
        rw [e2, e1', e1] at ht
        refine ⟨Q, fun _ _ q => q, by rcases ht with ⟨q, _⟩ | ⟨q, _⟩ <;> rw [q] <;> exact ⟨by omega, by omega⟩, fun q => ?_, fun q => ?_⟩
        · rcases ht with ⟨_, q2⟩ | ⟨q2, _⟩
          · exact rs i1 fun M4 h4 t4 => k2 q2 M4 t4 h4
          · omega
        · rcases ht with ⟨q2, _⟩ | ⟨q2, q3, q4, q5⟩
          · omega
          · rw [q3]; exact k1 (by omega) M3 (by rw [i3, t2]) i1
      refine ni_in (by rcases hr with ⟨q, _⟩ | ⟨q1, q2, _⟩ <;> exact ⟨by omega, by omega⟩) (fun q => ?_) (fun q => ⟨by decide, ?_⟩)
      · exact ref (fun _ M3 t3 h3 => ⟨t3, rfl, h3⟩) (fun q2 => absurd q2 q)
      · exact ref (fun q2 => absurd q q2) (fun _ M3 t3 h3 => ⟨by rw [t3]; rfl, h3⟩)
    · refine ⟨by decide, ?_⟩
      unfold wp_X11_toInstant
      refine th0 h fun M2 h2 e2 t2 => ⟨pg_zone h2 rz, fun _ => ⟨(pgr rx).2.2.1, True, fun _ => rs h2 fun M3 h3 t3 => ⟨by rw [t3]; rfl, h3⟩, fun _ => trivial, fun q => ⟨pg_in ro ⟨by omega, by omega⟩ ⟨by omega, by omega⟩, fun q2 => absurd ⟨lc.mp q, q2⟩ c, fun _ => trivial⟩⟩, fun q => absurd (zi.mpr (by rw [e2]; exact hz)) q⟩
  · unfold wp_X11_toInstant; exact bz h rz hz rfl (fun b M2 a1 a2 => ⟨a1, a2⟩)
theorem sim_convert {M : jT} {z x y o : Int} (h : Inv M) (rz : rg z) (rx : rg x) (ry : rg y) (ro : rg o) : wp_X10_convert M 0 z x y o (fun v M1 => OKq (wp_X11_convert M1 608 z x y o) v) (fun e M1 => EXq (wp_X11_convert M1 608 z x y o) [1, 2, 5] e) := by
  unfold wp_X10_convert
  have badz : ¬ ((0 ≤ z ∧ z < M 609 0) ∧ (0 ≤ y ∧ y < M 609 0)) → EXq (wp_X11_convert M 608 z x y o) [1, 2, 5] 1 := by
    intro hb
    refine ⟨by decide, ?_⟩
    unfold wp_X11_convert
    refine th0 h fun M2 h2 e2 t2 => ⟨pg_zone h2 rz, True, fun _ => rs h2 fun M3 h3 t3 => ⟨by rw [t3]; rfl, h3⟩, fun _ => trivial, fun q => ⟨pg_zone h2 ry, fun q2 => absurd ⟨?_, ?_⟩ hb, fun _ => trivial⟩⟩
    · rw [← e2]; exact zi.mp q
    · rw [← e2]; exact zi.mp q2
  refine nz h.1 rz (fun hz => nz h.1 ry (fun hy => ⟨(pgd rx).2.2.2.2.2.1, ?_⟩) (fun hy => badz (fun q => hy q.2))) (fun hz => badz (fun q => hz q.1))
  refine ⟨fun t => t = b2i ((0 ≤ x ∧ x < 16830720) ∧ (0 ≤ o ∧ o ≤ 3)), fun t et => ?_, ¬ ((0 ≤ x ∧ x < 16830720) ∧ (0 ≤ o ∧ o ≤ 3)), fun q => (b2i_f q).symm, fun c q => c q.1, fun c => ⟨(pgd ro).2.2.2.2.2.2, fun c2 q => c2 q.2, fun c2 => (b2i_t ⟨c, c2⟩).symm⟩⟩
  rw [et]
  refine na (fun c => ?_) (fun c => ?_)
  · obtain ⟨c1, c2⟩ := c
    refine cmp' h hz fun M1 h1 e1 hT hC hL => sp_instantOf hC hL (by omega) c2 fun M1' F G => ?_
    obtain ⟨h1', e1', _⟩ := h1.lk (by rw [e1]; exact hz) F G
    have hr := iO_rng (l := x) (mode := o) hL (by omega) c2
    generalize eI : iO (lm (zsl (M 609) z)) (lS (zsl (M 609) z)) (lF (zsl (M 609) z)) x o = I at hr ⊢
    have ref : ∀ (M5 : jT), Inv M5 → M5 609 = M 609 → ∀ {Q : Int → jT → Prop}, (I ≠ -1000000000 → ∀ M3, M3 608 0 = 0 → Inv M3 → Q (I + lF (zsl (M 609) y) (SP (lm (zsl (M 609) y)) (lS (zsl (M 609) y)) I)) M3) → (I = -1000000000 → ∀ M3, M3 608 0 = 3 → Inv M3 → Q 0 M3) → wp_X11_convert M5 608 z x y o Q := by
      intro M5 h5 e5 Q k1 k2
      have hz1 : 0 ≤ z ∧ z < M5 609 0 := by rw [e5]; exact hz
      have hy1 : 0 ≤ y ∧ y < M5 609 0 := by rw [e5]; exact hy
      unfold wp_X11_convert
      refine th0 h5 fun M2 h2 e2 t2 => ?_
      have hz2 : 0 ≤ z ∧ z < M2 609 0 := by rw [e2]; exact hz1
      have hy2 : 0 ≤ y ∧ y < M2 609 0 := by rw [e2]; exact hy1
      refine ⟨pg_zone h2 rz, False, fun q => q.elim, fun q => q (zi.mpr hz2), fun _ => ⟨pg_zone h2 ry, fun _ => ⟨(pgr rx).2.2.1, False, fun q => q.elim, fun q => q (lc.mpr c1), fun _ => ⟨pg_in ro ⟨by omega, by omega⟩ ⟨by omega, by omega⟩, fun _ => ?_, fun q => q c2⟩⟩, fun q => q (zi.mpr hy2)⟩⟩
      refine sp_tells (h2.rz hz2) (by omega) c2 fun M3 t f h14 hl hz3 e30 ht => ?_
      obtain ⟨i1, i2, i3⟩ := h2.f1 hz2 f h14 hl
      rw [e2, e5, eI] at ht
      refine ⟨by rcases ht with ⟨q, _⟩ | ⟨q, _⟩ <;> rw [q] <;> exact ⟨by omega, by omega⟩, fun q => ?_, fun q => ?_⟩
      · rcases ht with ⟨q2, _⟩ | ⟨q2, q3, q4, q5⟩
        · omega
        · intro x81 e81
          rw [q3] at e81
          have hy3 : 0 ≤ y ∧ y < M3 609 0 := by rw [i2]; exact hy2
          refine sp_offsetAt (i1.rz hy3) ⟨by omega, by omega⟩ fun M4 f4 g14 gl gz => ?_
          obtain ⟨j1, j2, j3⟩ := i1.f1 hy3 f4 g14 gl
          have := k1 (by omega) M4 (by rw [j3, i3, t2]) j1
          rw [e81, i2, e2, e5]; exact this
      · rcases ht with ⟨_, q2⟩ | ⟨q2, _⟩
        · exact rs i1 fun M4 h4 t4 => k2 q2 M4 t4 h4
        · omega
    have rI : rg I := by rcases hr with ⟨q, _⟩ | ⟨q1, q2, _⟩ <;> exact ⟨by omega, by omega⟩
    refine ni_in rI (fun q => ?_) (fun q => ⟨by decide, ?_⟩)
    · refine cmp' h1' (by rw [e1', e1]; exact hy) fun M5 h5 e5 hT5 hC5 hL5 => sp_X7_offsetAt hC5 hL5 rI ?_
      rw [e1', e1]
      exact ref M5 h5 (by rw [e5, e1', e1]) (fun _ M3 t3 h3 => ⟨t3, rfl, h3⟩) (fun q2 => absurd q2 q)
    · exact ref M1' h1' (by rw [e1', e1]) (fun q2 => absurd q q2) (fun _ M3 t3 h3 => ⟨by rw [t3]; rfl, h3⟩)
  · refine ⟨by decide, ?_⟩
    unfold wp_X11_convert
    refine th0 h fun M2 h2 e2 t2 => ⟨pg_zone h2 rz, False, fun q => q.elim, fun q => q (zi.mpr (by rw [e2]; exact hz)), fun _ => ⟨pg_zone h2 ry, fun _ => ⟨(pgr rx).2.2.1, True, fun _ => rs h2 fun M3 h3 t3 => ⟨by rw [t3]; rfl, h3⟩, fun _ => trivial, fun q => ⟨pg_in ro ⟨by omega, by omega⟩ ⟨by omega, by omega⟩, fun q2 => absurd ⟨lc.mp q, q2⟩ c, fun _ => trivial⟩⟩, fun q => q (zi.mpr (by rw [e2]; exact hy))⟩⟩
