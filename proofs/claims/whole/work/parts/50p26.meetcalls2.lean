/-! next, agenda, free -/
theorem nBo_pos {A : Int → Int} {fr m : Int} : ∀ n : Nat, 0 < nBo A fr m n ↔ ∃ o : Nat, o < n ∧ En A fr m o
  | 0 => by simp [nBo]
  | n + 1 => by
    have ih := nBo_pos (A := A) (fr := fr) (m := m) n
    simp only [nBo]
    by_cases c : En A fr m n
    · rw [if_pos c]; exact ⟨fun _ => ⟨n, by omega, c⟩, fun _ => by omega⟩
    · rw [if_neg c, Nat.add_zero, ih]
      constructor
      · rintro ⟨o, h1, h2⟩; exact ⟨o, by omega, h2⟩
      · rintro ⟨o, h1, h2⟩
        by_cases q : o = n
        · rw [q] at h2; exact absurd h2 c
        · exact ⟨o, by omega, h2⟩
theorem kBr_dec {M : jT} {n i v : Int} {m o : Int} (hE : EnOk M n) (hi : 0 ≤ i ∧ i < n) (hm : 0 ≤ m ∧ m < 10) (ho : 0 ≤ o ∧ o < 40) (h : kBr M i = KB m o v) : M 629 i = 100 * m + o ∧ M 628 i = v := by
  have := hE i hi.1 hi.2
  unfold kBr KB at h; omega
theorem sim_next {M : jT} {m x : Int} (h : Inv M) (rm : rg m) (rx : rg x) : wp_X10_next M 0 m x (fun v M1 => OKq (wp_X11_next M1 608 m x) v) (fun e M1 => EXq (wp_X11_next M1 608 m x) [1, 2, 4] e) := by
  unfold wp_X10_next
  refine nm h.1 rm (fun hm => ⟨(pgd rx).2.2.2.2.1, na (fun c => ?_) (fun c => ⟨by decide, ?_⟩)⟩) (fun hm => ⟨by decide, ?_⟩)
  · have a2 := h.1.1.2.1
    have hgo := (h.1.1.2.2.2 m hm.1 hm.2).1
    have hn := nD_rng hgo
    simp only [Int.zero_add]
    refine ⟨by omega, cc_timed h.1 h.2.1 hm fun M1 f1 hC1 _ _ hP hT hK => ?_⟩
    have e1 : M1 609 = M 609 := f1 609 (by omega)
    have h1 : Inv M1 := h.c f1.to7 hC1
    have hm1 : 0 ≤ m ∧ m < M1 609 1 := by rw [e1]; exact hm
    have ref : ∀ {Q : Int → jT → Prop}, ((∀ o : Int, 0 ≤ o → o < nD (msl (M 609) m) → ¬ En (M 609) x m o) → ∀ M4, Inv M4 → wp_X11_raises M4 608 3 Q) → (∀ o : Int, 0 ≤ o → o < nD (msl (M 609) m) → En (M 609) x m o → (∀ o' : Int, 0 ≤ o' → o' < nD (msl (M 609) m) → En (M 609) x m o' → KB m o (bO (M 609) m o) ≤ KB m o' (bO (M 609) m o')) → ∀ M4, Inv M4 → M4 608 0 = 0 → Q o M4) → wp_X11_next M1 608 m x Q := by
      intro Q k1 k2
      unfold wp_X11_next
      simp only [Int.reduceAdd]
      refine th0 h1 fun M2 h2 e2 t2 => ⟨h2.pm rm, fun _ => ⟨(pgr rx).2.1, fun _ => ?_, fun q => absurd c q⟩, fun q => absurd (mi.mpr (by rw [e2]; exact hm1)) q⟩
      refine up_in fun M3 h3 => ?_
      have F3 : ∀ a, a ≠ 608 → M3 a = M2 a := (fun a ha => funext fun b => by rw [h3 a b, if_neg (by omega)])
      have G3 : ∀ b, b ≠ 36 → M3 608 b = M2 608 b := fun b hb => by rw [h3, if_neg (by omega)]
      obtain ⟨i1, i2, i3⟩ := h2.rr (RFr.of (fun a a1 _ _ => F3 a a1) (G3 _ (by omega)) (G3 _ (by omega)) (G3 _ (by omega)) (G3 _ (by omega)) (G3 _ (by omega)) (G3 _ (by omega))) (h2.2.2.1.mv (F3 _ (by omega)) (fun b hb => G3 b (by omega)) (fun a _ _ => F3 a (by omega)))
      have e3 : M3 609 = M 609 := by rw [i2, e2, e1]
      refine rc_enters (n := 0) (P := True) i1.1.1 i1.2.2.1 (by rw [e3]; exact hm) rx (by rw [h3, if_pos ⟨rfl, rfl⟩]) (by rw [e3]; omega) (fun i a b => by omega) (fun _ => ⟨fun p q a b c => by omega, fun i a b => by omega⟩) fun M4 hR4 f4 n4 E4 C4 S4 => ?_
      obtain ⟨j1, j2, j3⟩ := i1.rr f4 hR4
      rw [e3] at n4 E4 C4 S4
      have hle := nBo_le (A := M 609) (fr := x) (m := m) (nD (msl (M 609) m)).toNat
      have C4' : ∀ v, cnt (kBr M4) (nBo (M 609) x m (nD (msl (M 609) m)).toNat) v = cBo (M 609) x m (nD (msl (M 609) m)).toNat v := fun v => by
        have := C4 v
        rw [show ((0 : Int) + (nBo (M 609) x m (nD (msl (M 609) m)).toNat : Int)).toNat = nBo (M 609) x m (nD (msl (M 609) m)).toNat by omega] at this
        rw [this]; simp [cnt]
      have hpos := nBo_pos (A := M 609) (fr := x) (m := m) (nD (msl (M 609) m)).toNat
      rw [n4]
      refine ⟨Q, fun _ _ q => q, ⟨by omega, by omega⟩, fun q => ?_, fun q => ?_⟩
      · obtain ⟨o, o1, o2, o3⟩ := (cBo_mem (nD (msl (M 609) m)).toNat).mp (by rw [← C4']; exact cnt_pos.mpr ⟨0, by omega, rfl⟩ : 0 < cBo (M 609) x m (nD (msl (M 609) m)).toNat (kBr M4 ((0 : Nat) : Int)))
        have hd := (kBr_dec E4 (i := 0) (by omega) (m := m) (o := o) (v := bO (M 609) m o) (by omega) (by omega) (by rw [o3]; rfl)).1
        rw [hd]
        refine ⟨by omega, ?_⟩
        have em : (100 * m + (o : Int)) % 100 = o := by omega
        rw [em]
        refine k2 o (by omega) (by omega) o2 (fun o' a b en => ?_) M4 j1 (by rw [j3, i3, t2])
        have : 0 < cBo (M 609) x m (nD (msl (M 609) m)).toNat (KB m o' (bO (M 609) m o')) := (cBo_mem _).mpr ⟨o'.toNat, by omega, by rw [Int.toNat_of_nonneg a]; exact en, by rw [Int.toNat_of_nonneg a]⟩
        rw [← C4'] at this
        obtain ⟨i, i1', i2'⟩ := cnt_pos.mp this
        rw [o3, ← i2']
        by_cases z : i = 0
        · rw [z]; exact Int.le_refl _
        · exact (S4 trivial).1 0 i (by omega) (by omega) (by omega)
      · refine k1 (fun o a b en => ?_) M4 j1
        have := hpos.mpr ⟨o.toNat, by omega, by rw [Int.toNat_of_nonneg a]; exact en⟩
        omega
    refine ⟨fun n r y => 0 ≤ y ∧ y ≤ nD (msl (M 609) m) ∧ (nD (msl (M 609) m) - y).toNat ≤ n ∧ ((r = -1 ∧ ∀ o, 0 ≤ o → o < y → ¬ En (M 609) x m o) ∨ (0 ≤ r ∧ r < y ∧ En (M 609) x m r ∧ ∀ o, 0 ≤ o → o < y → En (M 609) x m o → KB m r (bO (M 609) m r) ≤ KB m o (bO (M 609) m o))), ⟨(nD (msl (M 609) m)).toNat, by omega, by omega, by omega, Or.inl ⟨rfl, fun o a b => by omega⟩⟩, ?_⟩
    rintro n15 x12 x13 ⟨y0, y1, y2, y3⟩
    rw [hP.1]
    refine ⟨⟨by omega, by omega⟩, ⟨by omega, by omega⟩, fun q => ?_, fun q => ?_⟩
    · have ey : x13 = nD (msl (M 609) m) := by omega
      rw [ey] at y3
      refine ⟨⟨by rcases y3 with ⟨z, _⟩ | ⟨z, z2, _⟩ <;> exact ⟨by omega, by omega⟩, fun _ => trivial, fun _ => trivial⟩, ne' (fun z => ?_) (fun z => ⟨by decide, ?_⟩)⟩
      · rcases y3 with ⟨z1, _⟩ | ⟨z1, z2, z3, z4⟩
        · omega
        · refine ref (fun hno => absurd z3 (hno x12 z1 z2)) (fun o o0 o1 en hmin M4 h4 t4 => ⟨t4, ?_, h4⟩)
          have q1 := hmin x12 z1 z2 z3
          have q2 := z4 o o0 o1 en
          unfold KB at q1 q2; omega
      · rcases y3 with ⟨z1, z2⟩ | ⟨z1, _⟩
        · exact ref (fun _ M4 h4 => rs h4 fun M5 h5 t5 => ⟨by rw [t5]; rfl, h5⟩) (fun o o0 o1 en => absurd en (z2 o o0 o1))
        · exact absurd z1 z
    · obtain ⟨t1, t2, t3, t4⟩ := c_tk h1.1 hm1 (by rw [e1]; exact hT) (o := x13) (by rw [e1]; exact ⟨y0, q⟩) (by rw [e1]; exact hK)
      rw [e1] at t2
      have hb := bO_rng (i := x13) h.1.1 hm hK
      have hb2 := bO_rng (i := x12) h.1.1 hm hK
      have e572 : 3 * m + 570 + 2 = 3 * m + 572 := by omega
      rw [e572, hT x13 y0 q]
      have hx12 : 0 ≤ x12 → M1 (3 * m + 572) x12 = bO (M 609) m x12 ∧ x12 < x13 := fun z => by
        rcases y3 with ⟨z1, _⟩ | ⟨z1, z2, _⟩
        · omega
        · exact ⟨hT x12 z1 (by omega), z2⟩
      have r12 : rg x12 := by rcases y3 with ⟨z, _⟩ | ⟨z, z2, _⟩ <;> exact ⟨by omega, by omega⟩
      refine ⟨t1, ⟨fun _ => trivial, fun _ => ⟨by omega, ⟨by omega, by omega⟩, rx, fun _ => trivial, fun _ => ⟨r12, fun _ => trivial, fun z => ⟨by have := hx12 z; omega, by rw [(hx12 z).1]; exact ⟨by omega, by omega⟩, fun _ => trivial, fun _ => trivial⟩⟩⟩⟩, ?_⟩
      intro x40 g1 g2 g3 g4 g5 x52 e52
      have hen : En (M 609) x m x13 ↔ pb_X5_takesPlace M1 (3 * m + 570) (2 * m + 28) x13 ∧ x ≤ bO (M 609) m x13 := ⟨fun z => ⟨t2.mpr z.1, z.2⟩, fun z => ⟨t2.mp z.1, z.2⟩⟩
      have num : (nD (msl (M 609) m) - x52).toNat < n15 ∧ 0 ≤ x52 ∧ x52 ≤ nD (msl (M 609) m) ∧ (nD (msl (M 609) m) - x52).toNat ≤ (nD (msl (M 609) m) - x52).toNat := by clear g1 g2 g3 g4 g5 y3 hb hb2 hx12 hen r12 t2; omega
      refine ⟨(nD (msl (M 609) m) - x52).toNat, num.1, num.2.1, num.2.2.1, num.2.2.2, ?_⟩
      by_cases en : En (M 609) x m x13
      · obtain ⟨p1, p2⟩ := hen.mp en
        rcases y3 with ⟨z1, z2⟩ | ⟨z1, z2, z3, z4⟩
        · have := g3 ⟨p1, p2, by omega⟩
          refine Or.inr ⟨by omega, by omega, by rw [this]; exact en, fun o o0 o1 eo => ?_⟩
          by_cases q3 : o = x13
          · rw [q3, this]; exact Int.le_refl _
          · exact absurd eo (z2 o o0 (by omega))
        · rw [(hx12 z1).1] at g4 g5
          by_cases q3 : bO (M 609) m x12 ≤ bO (M 609) m x13
          · have := g4 ⟨p1, p2, z1, q3⟩
            refine Or.inr ⟨by omega, by omega, by rw [this]; exact z3, fun o o0 o1 eo => ?_⟩
            rw [this]
            by_cases q4 : o = x13
            · rw [q4]; unfold KB; omega
            · exact z4 o o0 (by omega) eo
          · have := g5 ⟨p1, p2, z1, by omega⟩
            refine Or.inr ⟨by omega, by omega, by rw [this]; exact en, fun o o0 o1 eo => ?_⟩
            rw [this]
            by_cases q4 : o = x13
            · rw [q4]; exact Int.le_refl _
            · have := z4 o o0 (by omega) eo
              unfold KB at this ⊢; omega
      · have e40 : x40 = x12 := by
          by_cases p1 : pb_X5_takesPlace M1 (3 * m + 570) (2 * m + 28) x13
          · by_cases p2 : x ≤ bO (M 609) m x13
            · exact absurd (hen.mpr ⟨p1, p2⟩) en
            · exact g2 ⟨p1, by omega⟩
          · exact g1 p1
        rw [e40]
        rcases y3 with ⟨z1, z2⟩ | ⟨z1, z2, z3, z4⟩
        · refine Or.inl ⟨z1, fun o o0 o1 eo => ?_⟩
          by_cases q4 : o = x13
          · rw [q4] at eo; exact en eo
          · exact z2 o o0 (by omega) eo
        · refine Or.inr ⟨z1, by omega, z3, fun o o0 o1 eo => ?_⟩
          by_cases q4 : o = x13
          · rw [q4] at eo; exact absurd eo en
          · exact z4 o o0 (by omega) eo
  · unfold wp_X11_next
    exact th0 h fun M2 h2 e2 t2 => ⟨h2.pm rm, fun _ => ⟨(pgr rx).2.1, fun q => absurd q c, fun _ => rs h2 fun M3 h3 t3 => ⟨by rw [t3]; rfl, h3⟩⟩, fun q => absurd (mi.mpr (by rw [e2]; exact hm)) q⟩
  · unfold wp_X11_next; exact bm h rm hm rfl (fun b M2 a1 a2 => ⟨a1, a2⟩)
theorem rc_entersAll {M : jT} {fr : Int} {Q : jT → Prop} (h : Inv M) (rf : rg fr)
    (kk : ∀ M', Inv M' → M' 609 = M 609 → M' 608 0 = M 608 0 → M' 608 36 = (nBm (M 609) fr (M 609 1).toNat : Int) → EnOk M' (nBm (M 609) fr (M 609 1).toNat : Int) → (∀ v, cnt (kBr M') (nBm (M 609) fr (M 609 1).toNat) v = cBm (M 609) fr (M 609 1).toNat v) → Srt (kBr M') (nBm (M 609) fr (M 609 1).toNat : Int) → Q M') : wp_X11_entersAll M 608 fr Q := by
  have a2 := h.1.1.2.1
  unfold wp_X11_entersAll
  simp only [Int.reduceAdd]
  refine up_in fun M1 h1 => ?_
  have F1 : ∀ a, a ≠ 608 → M1 a = M a := (fun a ha => funext fun b => by rw [h1 a b, if_neg (by omega)])
  have G1 : ∀ b, b ≠ 36 → M1 608 b = M 608 b := fun b hb => by rw [h1, if_neg (by omega)]
  obtain ⟨i1, i2, i3⟩ := h.rr (RFr.of (fun a a1 _ _ => F1 a a1) (G1 _ (by omega)) (G1 _ (by omega)) (G1 _ (by omega)) (G1 _ (by omega)) (G1 _ (by omega)) (G1 _ (by omega))) (h.2.2.1.mv (F1 _ (by omega)) (fun b hb => G1 b (by omega)) (fun a _ _ => F1 a (by omega)))
  refine ⟨fun n y M3 => ∃ m : Nat, y = m ∧ (m : Int) ≤ M 609 1 ∧ (M 609 1 - m).toNat ≤ n ∧ Inv M3 ∧ M3 609 = M 609 ∧ M3 608 0 = M 608 0 ∧ M3 608 36 = (nBm (M 609) fr m : Int) ∧ EnOk M3 (nBm (M 609) fr m : Int) ∧ (∀ v, cnt (kBr M3) (nBm (M 609) fr m) v = cBm (M 609) fr m v) ∧ Srt (kBr M3) (nBm (M 609) fr m : Int) ∧ ∀ i, 0 ≤ i → i < (nBm (M 609) fr m : Int) → M3 629 i < 100 * m, ⟨(M 609 1).toNat, 0, rfl, by omega, by omega, i1, i2, i3, by rw [h1, if_pos ⟨rfl, rfl⟩]; rfl, fun i a b => by simp only [nBm] at b; omega, fun v => rfl, fun p q a b c => by simp only [nBm] at c; omega, fun i a b => by simp only [nBm] at b; omega⟩, ?_⟩
  rintro n5 x2 M3 ⟨m, rfl, m1, m2, h3, e3, z3, n3, E3, C3, S3, L3⟩
  rw [e3]
  refine ⟨⟨by omega, by omega⟩, ⟨by omega, by omega⟩, fun c => ?_, fun c => ?_⟩
  · have em : m = (M 609 1).toNat := by omega
    subst em
    exact kk M3 h3 e3 z3 n3 E3 C3 S3
  · have hle := nBm_le (fr := fr) h.1.1 m (by omega)
    have hn := nD_rng (h.1.1.2.2.2 m (by omega) c).1
    refine rc_enters (n := (nBm (M 609) fr m : Int)) (P := True) h3.1.1 h3.2.2.1 (by rw [e3]; exact ⟨by omega, c⟩) rf n3 (by rw [e3]; omega) E3 (fun _ => ⟨S3, L3⟩) fun M4 hR4 f4 n4 E4 C4 S4 => ?_
    rw [e3] at n4 E4 C4 S4
    obtain ⟨j1, j2, j3⟩ := h3.rr f4 hR4
    intro x11 e11
    have en : (nBm (M 609) fr (m + 1) : Int) = (nBm (M 609) fr m : Int) + (nBo (M 609) fr m (nD (msl (M 609) m)).toNat : Int) := by simp only [nBm]; omega
    refine ⟨(M 609 1 - (m + 1)).toNat, by omega, m + 1, by omega, by omega, by omega, j1, by rw [j2, e3], by rw [j3, z3], by rw [n4, en], by rw [en]; exact E4, fun v => ?_, by rw [en]; exact (S4 trivial).1, fun i a b => by have := (S4 trivial).2 i a (by omega); omega⟩
    have := C4 v
    rw [show ((nBm (M 609) fr m : Int) + (nBo (M 609) fr m (nD (msl (M 609) m)).toNat : Int)).toNat = nBm (M 609) fr (m + 1) by omega, show ((nBm (M 609) fr m : Nat) : Int).toNat = nBm (M 609) fr m by omega, C3 v] at this
    exact this
theorem hx7 {M : jT} : wp_X10_sortKeys_b M 607 = wp_X10_sortKeys_b M 607 := rfl
/-- keys of the list: their range -/
theorem cBm_rng {A : Int → Int} {fr v : Int} (hA : AOk A) (hK : LKs A) (h : 0 < cBm A fr (A 1).toNat v) : ∃ m o : Int, (0 ≤ m ∧ m < A 1) ∧ (0 ≤ o ∧ o < nD (msl A m)) ∧ En A fr m o ∧ KB m o (bO A m o) = v ∧ m < 10 ∧ o < 40 ∧ -960 ≤ bO A m o ∧ bO A m o ≤ 16833000 := by
  obtain ⟨m, o, h1, h2, h3, h4⟩ := (cBm_mem _).mp h
  have a2 := hA.2.1
  have hm : 0 ≤ (m : Int) ∧ (m : Int) < A 1 := ⟨by omega, by omega⟩
  have hn := nD_rng (hA.2.2.2 m hm.1 hm.2).1
  have hb := bO_rng (i := o) hA hm (hK m hm.1 hm.2)
  have := h3.1.1
  exact ⟨m, o, hm, ⟨by omega, by omega⟩, h3, h4, by omega, by omega, by omega, by omega⟩
theorem sim_agenda {M : jT} {x i : Int} (h : Inv M) (rx : rg x) (ri : rg i) : wp_X10_agenda M 0 x i (fun v M1 => OKq (wp_X11_agenda M1 608 x i) v) (fun e M1 => EXq (wp_X11_agenda M1 608 x i) [2, 4] e) := by
  unfold wp_X10_agenda
  refine ⟨(pgd rx).2.2.2.2.1, na (fun c => ?_) (fun c => ⟨by decide, ?_⟩)⟩
  · have a2 := h.1.1.2.1
    simp only [Int.zero_add]
    refine cc_listBeginnings h.1 h.2.1 rx fun M1 f1 hC1 hK C1 => ?_
    have e1 : M1 609 = M 609 := f1 609 (by omega)
    have h1 : Inv M1 := h.c f1 hC1
    have hle := nBm_le (fr := x) h.1.1 (M 609 1).toNat (by omega)
    generalize hN : nBm (M 609) x (M 609 1).toNat = N at C1 hle
    have ref : ∀ (M2 : jT) {Q : Int → jT → Prop}, Inv M2 → M2 609 = M 609 → (¬ (0 ≤ i ∧ i < (N : Int)) → ∀ M4, Inv M4 → wp_X11_raises M4 608 2 Q) → (0 ≤ i ∧ i < (N : Int) → ∀ M4, Inv M4 → M4 608 0 = 0 → EnOk M4 N → (∀ v, cnt (kBr M4) N v = cBm (M 609) x (M 609 1).toNat v) → Srt (kBr M4) N → Q (M4 629 i) M4) → wp_X11_agenda M2 608 x i Q := by
      intro M2 Q h2 e2 k1 k2
      unfold wp_X11_agenda
      simp only [Int.reduceAdd]
      refine th0 h2 fun M3 h3 e3 t3 => ⟨(pgr rx).2.1, fun _ => ?_, fun q => absurd c q⟩
      refine rc_entersAll h3 rx fun M4 h4 e4 t4 n4 E4 C4 S4 => ?_
      rw [e3, e2, hN] at n4 E4 C4 S4
      rw [n4]
      refine ⟨pg_in ri ⟨by omega, by omega⟩ ⟨by omega, by omega⟩, Q, fun _ _ q => q, fun q => k1 (fun z => q (show 0 ≤ i ∧ i ≤ (N : Int) - 1 from ⟨z.1, by omega⟩)) M4 h4, fun q => ?_⟩
      have q : 0 ≤ i ∧ i ≤ (N : Int) - 1 := q
      exact ⟨by omega, k2 ⟨q.1, by omega⟩ M4 h4 (by rw [t4, t3]) E4 C4 S4⟩
    refine ⟨fun t => t = b2i (0 ≤ i ∧ i < (N : Int)), fun t et => ?_, ¬ (0 ≤ i ∧ i < (N : Int)), fun q => (b2i_f q).symm, ri, fun q => by omega, fun q1 => ⟨⟨by omega, by omega⟩, fun q => by omega, fun q2 => (b2i_t ⟨q1, q2⟩).symm⟩⟩
    rw [et]
    refine ne' (fun z => ?_) (fun z => ⟨by decide, ref M1 h1 e1 (fun _ M4 h4 => rs h4 fun M5 h5 t5 => ⟨by rw [t5]; rfl, h5⟩) (fun q => absurd q z)⟩)
    have hrow : ∀ (r : Int → Int), (∀ v, cnt r N v = cBm (M 609) x (M 609 1).toNat v) → ∀ j : Int, 0 ≤ j → j < (N : Int) → ∃ m o : Int, (0 ≤ m ∧ m < M 609 1) ∧ (0 ≤ o ∧ o < nD (msl (M 609) m)) ∧ En (M 609) x m o ∧ KB m o (bO (M 609) m o) = r j ∧ m < 10 ∧ o < 40 ∧ -960 ≤ bO (M 609) m o ∧ bO (M 609) m o ≤ 16833000 := fun r hr j j0 j1 => by
      refine cBm_rng h.1.1 hK ?_
      rw [← hr]
      exact cnt_pos.mpr ⟨j.toNat, by omega, by rw [Int.toNat_of_nonneg j0]⟩
    refine sp_sortKeys_b (M := M1) (a0 := 607) (a1 := (N : Int)) (by omega) (fun j j0 j1 => ?_) fun M2 F2 S2 P2 => ?_
    · obtain ⟨m, o, _, ho, _, hk, _, _, hb, hb2⟩ := hrow _ C1 j j0 j1
      rw [← hk]; unfold KB; exact ⟨by omega, by omega⟩
    · have C2 : ∀ v, cnt (M2 607) N v = cBm (M 609) x (M 609 1).toNat v := fun v => by
        have := P2 v
        rw [show ((N : Nat) : Int).toNat = N by omega] at this
        rw [this]; exact C1 v
      have h2 : Inv M2 := h1.c (fun a ha => F2 a (by omega)) (h1.2.1.mv h1.1 (F2 609 (by omega)) (fun a _ _ => F2 a (by omega)))
      obtain ⟨m, o, hm, ho, _, hk, m9, o39, hb, hb2⟩ := hrow _ C2 i z.1 z.2
      have hd := KB_dec (m := m) (o := o) (b := bO (M 609) m o) ⟨hm.1, m9⟩ ⟨ho.1, o39⟩
      rw [hk] at hd
      refine ⟨by omega, ⟨by omega, by unfold KB at hk; omega⟩, ?_⟩
      intro x25 e25
      refine ⟨by omega, ?_⟩
      have ev : 100 * (x25 / 40) + x25 % 40 = 100 * m + o := by rw [e25]; omega
      rw [ev]
      refine ref M2 h2 (by rw [F2 609 (by omega), e1]) (fun q => absurd z q) (fun _ M4 h4 t4 E4 C4 S4 => ⟨t4, ?_, h4⟩)
      have heq : kBr M4 i = M2 607 i := S4.uniq S2 (fun v => by rw [show ((N : Nat) : Int).toNat = N by omega, C4, C2]) z.1 z.2
      exact (kBr_dec E4 z ⟨hm.1, m9⟩ ⟨ho.1, o39⟩ (by rw [heq, hk])).1
  · unfold wp_X11_agenda
    exact th0 h fun M2 h2 e2 t2 => ⟨(pgr rx).2.1, fun q => absurd q c, fun _ => rs h2 fun M3 h3 t3 => ⟨by rw [t3]; rfl, h3⟩⟩
