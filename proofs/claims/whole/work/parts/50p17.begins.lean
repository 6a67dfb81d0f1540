/-! the beginnings of occurrences that take place, in order -/
def KB (m o b : Int) : Int := (b + 2000) * 400 + m * 40 + o
noncomputable abbrev En (A : Int → Int) (fr m o : Int) : Prop := tk A m o ∧ fr ≤ bO A m o
noncomputable def nBo (A : Int → Int) (fr m : Int) : Nat → Nat
  | 0 => 0
  | n + 1 => nBo A fr m n + (if En A fr m n then 1 else 0)
noncomputable def cBo (A : Int → Int) (fr m : Int) : Nat → Int → Nat
  | 0, _ => 0
  | n + 1, v => cBo A fr m n v + (if En A fr m n ∧ KB m n (bO A m n) = v then 1 else 0)
noncomputable def nBm (A : Int → Int) (fr : Int) : Nat → Nat
  | 0 => 0
  | n + 1 => nBm A fr n + nBo A fr n (nD (msl A n)).toNat
noncomputable def cBm (A : Int → Int) (fr : Int) : Nat → Int → Nat
  | 0, _ => 0
  | n + 1, v => cBm A fr n v + cBo A fr n (nD (msl A n)).toNat v
theorem nBo_le {A : Int → Int} {fr m : Int} : ∀ n : Nat, nBo A fr m n ≤ n
  | 0 => Nat.le_refl _
  | n + 1 => by
    have := nBo_le (A := A) (fr := fr) (m := m) n
    simp only [nBo]; split <;> omega
theorem nBm_le {A : Int → Int} {fr : Int} (hA : AOk A) : ∀ n : Nat, (n : Int) ≤ A 1 → nBm A fr n ≤ 40 * n
  | 0, _ => Nat.le_refl _
  | n + 1, h => by
    have h1 := nBm_le (fr := fr) hA n (by omega)
    have h2 := nBo_le (A := A) (fr := fr) (m := n) (nD (msl A n)).toNat
    have h3 := nD_rng (hA.2.2.2 n (by omega) (by omega)).1
    simp only [nBm]; omega
theorem cBo_mem {A : Int → Int} {fr m v : Int} : ∀ n : Nat, 0 < cBo A fr m n v ↔ ∃ o : Nat, o < n ∧ En A fr m o ∧ KB m o (bO A m o) = v
  | 0 => by simp [cBo]
  | n + 1 => by
    have ih := cBo_mem (A := A) (fr := fr) (m := m) (v := v) n
    simp only [cBo]
    by_cases c : En A fr m n ∧ KB m n (bO A m n) = v
    · rw [if_pos c]; exact ⟨fun _ => ⟨n, by omega, c.1, c.2⟩, fun _ => by omega⟩
    · rw [if_neg c, Nat.add_zero, ih]
      constructor
      · rintro ⟨o, h1, h2⟩; exact ⟨o, by omega, h2⟩
      · rintro ⟨o, h1, h2⟩
        by_cases q : o = n
        · rw [q] at h2; exact absurd h2 c
        · exact ⟨o, by omega, h2⟩
theorem cBm_mem {A : Int → Int} {fr v : Int} : ∀ n : Nat, 0 < cBm A fr n v ↔ ∃ m o : Nat, m < n ∧ o < (nD (msl A m)).toNat ∧ En A fr m o ∧ KB m o (bO A m o) = v
  | 0 => by simp [cBm]
  | n + 1 => by
    have ih := cBm_mem (A := A) (fr := fr) (v := v) n
    have h2 := cBo_mem (A := A) (fr := fr) (m := n) (v := v) (nD (msl A n)).toNat
    simp only [cBm]
    constructor
    · intro h
      by_cases c : 0 < cBo A fr n (nD (msl A n)).toNat v
      · obtain ⟨o, o1, o2⟩ := h2.mp c
        exact ⟨n, o, by omega, o1, o2⟩
      · obtain ⟨m, o, o1, o2⟩ := ih.mp (by omega)
        exact ⟨m, o, by omega, o2⟩
    · rintro ⟨m, o, o1, o2⟩
      by_cases q : m = n
      · rw [q] at o2
        have := h2.mpr ⟨o, o2⟩
        omega
      · have := ih.mpr ⟨m, o, by omega, o2⟩
        omega
theorem KB_dec {m o b : Int} (hm : 0 ≤ m ∧ m < 10) (ho : 0 ≤ o ∧ o < 40) : KB m o b / 400 = b + 2000 ∧ KB m o b % 400 = m * 40 + o ∧ (KB m o b % 400) / 40 = m ∧ (KB m o b % 400) % 40 = o := by
  unfold KB; omega
/-! the class lists them -/
def LKs (A : Int → Int) : Prop := ∀ m, 0 ≤ m → m < A 1 → LK (zsl A (msl A m 0))
theorem cc_listBeginnings {M : jT} {fr : Int} {Q : Int → jT → Prop} (hD : D1 M) (hC : CC M) (hfr : rg fr)
    (kk : ∀ M', CF7 M M' → CC M' → LKs (M 609) → (∀ v, cnt (M' 607) (nBm (M 609) fr (M 609 1).toNat) v = cBm (M 609) fr (M 609 1).toNat v) → Q (nBm (M 609) fr (M 609 1).toNat) M') : wp_X10_listBeginnings M 0 fr Q := by
  have a2 := hD.1.2.1
  unfold wp_X10_listBeginnings
  simp only [Int.zero_add]
  refine ⟨fun n x y M3 => ∃ m : Nat, y = m ∧ (m : Int) ≤ M 609 1 ∧ (M 609 1 - m).toNat ≤ n ∧ x = nBm (M 609) fr m ∧ CF7 M M3 ∧ CC M3 ∧ (∀ i, 0 ≤ i → i < (m : Int) → LK (zsl (M 609) (msl (M 609) i 0))) ∧ ∀ v, cnt (M3 607) (nBm (M 609) fr m) v = cBm (M 609) fr m v, ⟨(M 609 1).toNat, 0, rfl, by omega, by omega, rfl, fun _ _ => rfl, hC, fun i _ _ => by omega, fun v => rfl⟩, ?_⟩
  rintro n5 x1 x2 M3 ⟨m, rfl, m1, m2, ex, f3, hC3, hK3, hc3⟩
  have e3 : M3 609 = M 609 := f3 609 (by omega)
  have e31 : M3 1 1 = M 609 1 := by rw [f3 1 (by omega)]; exact hD.2.2.1
  rw [e31]
  refine ⟨⟨by omega, by omega⟩, ⟨by omega, by omega⟩, fun c => ?_, fun c => ⟨by omega, ?_⟩⟩
  · have : m = (M 609 1).toNat := by omega
    rw [this] at hc3 ex
    rw [ex]
    exact kk M3 f3 hC3 (fun i i0 i1 => hK3 i i0 (by omega)) hc3
  · have hgo := (hD.1.2.2.2 m (by omega) c).1
    have hn := nD_rng hgo
    have hle := nBm_le (fr := fr) hD.1 m (by omega)
    refine cc_timed (f3.d1 hD) hC3 (by rw [e3]; exact ⟨by omega, c⟩) (fun M12 f12 hC12 h0 h1 hP hT hK => ?_)
    rw [e3] at hP hT hK
    have hkle : ∀ i, 0 ≤ i → i < ((m + 1 : Nat) : Int) → LK (zsl (M 609) (msl (M 609) i 0)) := fun i i0 i1 => by
      by_cases q : i = m
      · rw [q]; exact hK
      · exact hK3 i i0 (by omega)
    have e12 : M12 609 = M 609 := (f12 609 (by omega)).trans e3
    have r12 : M12 607 = M3 607 := f12 607 (by omega)
    have hD12 := f12.d1 (f3.d1 hD)
    refine ⟨fun n x y M15 => ∃ o : Nat, y = o ∧ (o : Int) ≤ nD (msl (M 609) m) ∧ (nD (msl (M 609) m) - o).toNat ≤ n ∧ x = (nBm (M 609) fr m : Int) + (nBo (M 609) fr m o : Int) ∧ (∀ a, a ≠ 607 → M15 a = M12 a) ∧ ∀ v, cnt (M15 607) (nBm (M 609) fr m + nBo (M 609) fr m o) v = cBm (M 609) fr m v + cBo (M 609) fr m o v, ⟨(nD (msl (M 609) m)).toNat, 0, rfl, by omega, by omega, by rw [ex]; simp only [nBo]; omega, fun _ _ => rfl, fun v => by rw [r12]; simp only [nBo, cBo, Nat.add_zero]; exact hc3 v⟩, ?_⟩
    rintro n17 x13 x14 M15 ⟨o, rfl, o1, o2, ex13, f15, hc15⟩
    have hD15 : D1 M15 := by
      refine CF7.d1 (M := M12) (fun a ha => f15 a (by omega)) hD12
    have hC15 : CC M15 := hC12.mv hD12 (f15 609 (by omega)) (fun a a1 a2 => f15 a (by omega))
    have e15 : M15 609 = M 609 := (f15 609 (by omega)).trans e12
    have hT15 : TM M15 (M 609) m := fun i i0 i1 => by rw [f15 _ (by omega)]; exact hT i i0 i1
    have hleo := nBo_le (A := M 609) (fr := fr) (m := m) o
    rw [f15 (3 * (m : Int) + 570) (by omega), hP.1]
    refine ⟨⟨by omega, by omega⟩, ⟨by omega, by omega⟩, fun c2 => ?_, fun c2 => ?_⟩
    · intro x21 e21
      have eo : o = (nD (msl (M 609) m)).toNat := by omega
      rw [eo] at hc15 ex13
      refine ⟨(M 609 1 - (m + 1)).toNat, by omega, m + 1, by omega, by omega, by omega, ?_, ?_, hC15, hkle, hc15⟩
      · rw [ex13]; simp only [nBm]; omega
      · exact (f3.trans f12.to7).trans (fun a ha => f15 a (by omega))
    · have ho : 0 ≤ (o : Int) ∧ (o : Int) < nD (msl (M 609) m) := ⟨by omega, c2⟩
      obtain ⟨t1, t2, t3, t4⟩ := c_tk hD15 (m := m) (o := o) (by rw [e15]; exact ⟨by omega, c⟩) (by rw [e15]; exact hT15) (by rw [e15]; exact ho) (by rw [e15]; exact hK)
      rw [e15] at t2
      have hbr := bO_rng (i := o) hD.1 ⟨by omega, c⟩ hK
      refine ⟨t1, fun x M' => x = (nBm (M 609) fr m : Int) + (nBo (M 609) fr m (o + 1) : Int) ∧ (∀ a, a ≠ 607 → M' a = M12 a) ∧ ∀ v, cnt (M' 607) (nBm (M 609) fr m + nBo (M 609) fr m (o + 1)) v = cBm (M 609) fr m v + cBo (M 609) fr m (o + 1) v, ?_, fun q => ?_, fun q => ?_⟩
      · rintro x M' ⟨k1, k2, k3⟩
        intro x42 e42
        exact ⟨(nD (msl (M 609) m) - (o + 1)).toNat, by omega, o + 1, by omega, by omega, by omega, k1, k2, k3⟩
      · have hne : ¬ En (M 609) fr m o := fun z => q (t2.mpr z.1)
        have e1 : nBo (M 609) fr m (o + 1) = nBo (M 609) fr m o := by simp only [nBo]; rw [if_neg hne]; rfl
        rw [e1]
        exact ⟨ex13, f15, fun v => by rw [hc15 v]; simp only [cBo]; rw [if_neg (fun z => hne z.1)]; rfl⟩
      · have htk := t2.mp q
        have e572 : 3 * (m : Int) + 570 + 2 = 3 * m + 572 := by omega
        rw [e572, hT15 o ho.1 ho.2]
        have hb1 := htk.1
        refine ⟨by omega, ⟨by omega, by omega⟩, hfr, fun q2 => ?_, fun q2 => ⟨⟨by omega, by omega⟩, fun q3 => by omega, fun q3 => ⟨⟨by omega, by omega⟩, ?_⟩⟩⟩
        · have hne : ¬ En (M 609) fr m o := fun z => by have := z.2; omega
          have e1 : nBo (M 609) fr m (o + 1) = nBo (M 609) fr m o := by simp only [nBo]; rw [if_neg hne]; rfl
          rw [e1]
          exact ⟨ex13, f15, fun v => by rw [hc15 v]; simp only [cBo]; rw [if_neg (fun z => hne z.1)]; rfl⟩
        · intro x52 e52
          refine ⟨⟨by omega, by omega⟩, by omega, up_in fun M55 h55 => ?_⟩
          intro x56 e56
          have hen : En (M 609) fr m o := ⟨htk, q2⟩
          have e1 : nBo (M 609) fr m (o + 1) = nBo (M 609) fr m o + 1 := by simp only [nBo]; rw [if_pos hen]
          rw [e1]
          refine ⟨by omega, fun a ha => by rw [← f15 a ha]; funext b; rw [h55, if_neg (by omega)], fun v => ?_⟩
          rw [show nBm (M 609) fr m + (nBo (M 609) fr m o + 1) = (nBm (M 609) fr m + nBo (M 609) fr m o) + 1 by omega]
          rw [cnt_push (f := M15 607) (w := KB m o (bO (M 609) m o)) (fun i hi => by rw [h55, if_neg (by omega)]) (by rw [h55, if_pos ⟨rfl, by omega⟩, e52]; unfold KB; omega), hc15 v]
          simp only [cBo]
          by_cases q5 : KB m o (bO (M 609) m o) = v
          · rw [if_pos q5, if_pos ⟨hen, q5⟩]; omega
          · rw [if_neg q5, if_neg (fun z => q5 z.2)]; omega
/-! the reference enters them -/
def kBr (M : jT) : Int → Int := fun i => (M 628 i + 2000) * 400 + M 629 i / 100 * 40 + M 629 i % 100
def EnOk (M : jT) (n : Int) : Prop := ∀ i, 0 ≤ i → i < n → 0 ≤ M 629 i ∧ M 629 i / 100 < 10 ∧ M 629 i % 100 < 40 ∧ -960 ≤ M 628 i ∧ M 628 i ≤ 16833000
theorem rc_enters {M : jT} {m fr n : Int} {P : Prop} {Q : jT → Prop} (hA : AOk (M 609)) (hR : RC M) (hm : 0 ≤ m ∧ m < M 609 1) (hfr : rg fr) (hn : M 608 36 = n) (hn2 : 0 ≤ n ∧ n + nD (msl (M 609) m) ≤ 400) (hE : EnOk M n) (hS : P → Srt (kBr M) n ∧ ∀ i, 0 ≤ i → i < n → M 629 i < 100 * m)
    (kk : ∀ M', RC M' → RFr M M' → M' 608 36 = n + (nBo (M 609) fr m (nD (msl (M 609) m)).toNat : Int) → EnOk M' (n + (nBo (M 609) fr m (nD (msl (M 609) m)).toNat : Int)) → (∀ v, cnt (kBr M') (n + (nBo (M 609) fr m (nD (msl (M 609) m)).toNat : Int)).toNat v = cnt (kBr M) n.toNat v + cBo (M 609) fr m (nD (msl (M 609) m)).toNat v) → (P → Srt (kBr M') (n + (nBo (M 609) fr m (nD (msl (M 609) m)).toNat : Int)) ∧ ∀ i, 0 ≤ i → i < n + (nBo (M 609) fr m (nD (msl (M 609) m)).toNat : Int) → M' 629 i < 100 * (m + 1)) → Q M') : wp_X11_enters M 608 m fr Q := by
  have a2 := hA.2.1
  have hgo := (hA.2.2.2 m hm.1 hm.2).1
  have hnD := nD_rng hgo
  unfold wp_X11_enters
  simp only [Int.reduceAdd]
  refine rc_lists hA hR hm (fun M2 hR2 f2 hl2 => ?_)
  have r628 : M2 628 = M 628 := f2.1 628 (by omega) (by omega)
  have r629 : M2 629 = M 629 := f2.1 629 (by omega) (by omega)
  have ek : kBr M2 = kBr M := by unfold kBr; rw [r628, r629]
  refine ⟨fun k x M4 => ∃ o : Nat, x = o ∧ (o : Int) ≤ nD (msl (M 609) m) ∧ (nD (msl (M 609) m) - o).toNat ≤ k ∧ RC M4 ∧ RFr M M4 ∧ RLs M4 (msl (M 609) m) ∧ M4 608 36 = n + (nBo (M 609) fr m o : Int) ∧ EnOk M4 (n + (nBo (M 609) fr m o : Int)) ∧ (∀ v, cnt (kBr M4) (n + (nBo (M 609) fr m o : Int)).toNat v = cnt (kBr M) n.toNat v + cBo (M 609) fr m o v) ∧ (P → Srt (kBr M4) (n + (nBo (M 609) fr m o : Int)) ∧ ∀ i, 0 ≤ i → i < n + (nBo (M 609) fr m o : Int) → M4 629 i < 100 * m + o), ⟨(nD (msl (M 609) m)).toNat, 0, rfl, by omega, by omega, hR2, f2.rf, hl2, ?_, ?_, ?_, ?_⟩, ?_⟩
  · rw [f2.2 36 (by omega), hn]; simp only [nBo]; omega
  · simp only [nBo]; unfold EnOk; rw [r628, r629]
    intro i i0 i1; exact hE i i0 (by omega)
  · intro v; rw [ek]; simp only [nBo, cBo]; rw [show (n + ((0 : Nat) : Int)).toNat = n.toNat by omega]; rfl
  · intro hp
    obtain ⟨h1, h2⟩ := hS hp
    simp only [nBo]; rw [ek, r629]
    refine ⟨?_, fun i i0 i1 => by have := h2 i i0 (by omega); omega⟩
    rw [show n + ((0 : Nat) : Int) = n by omega]; exact h1
  · rintro k6 x3 M4 ⟨o, rfl, o1, o2, hR4, f4, hl4, e36, hE4, hc4, hS4⟩
    have hleo := nBo_le (A := M 609) (fr := fr) (m := m) o
    have e4 : M4 609 = M 609 := f4.2.1.1
    rw [hl4.1]
    refine ⟨⟨by omega, by omega⟩, ⟨by omega, by omega⟩, fun c => ?_, fun c => ?_⟩
    · have eo : o = (nD (msl (M 609) m)).toNat := by omega
      rw [eo] at hE4 hc4 hS4 e36
      exact kk M4 hR4 f4 e36 hE4 hc4 (fun hp => ⟨(hS4 hp).1, fun i i0 i1 => by have := (hS4 hp).2 i i0 i1; omega⟩)
    · refine rc_takesPlace (by rw [e4]; exact hA) hR4 (by rw [e4]; exact hm) (by rw [e4]; exact hl4) (by rw [e4]; exact ⟨by omega, c⟩) (fun M11 t hR11 f11 ht => ?_)
      rw [e4] at ht
      have fr11 : RFr M M11 := f4.trans f11.rf
      have hl11 : RLs M11 (msl (M 609) m) := hl4.mv (f11.2 33 (by omega) (by omega) (by omega) (by omega) (by omega) (by omega) (by omega)) (f11.1 627 (by omega) (by omega))
      have s628 : M11 628 = M4 628 := f11.1 628 (by omega) (by omega)
      have s629 : M11 629 = M4 629 := f11.1 629 (by omega) (by omega)
      have ek11 : kBr M11 = kBr M4 := by unfold kBr; rw [s628, s629]
      have s36 : M11 608 36 = n + (nBo (M 609) fr m o : Int) := (f11.2 36 (by omega) (by omega) (by omega) (by omega) (by omega) (by omega) (by omega)).trans e36
      have hE11 : EnOk M11 (n + (nBo (M 609) fr m o : Int)) := by unfold EnOk; rw [s628, s629]; exact hE4
      have skip : ¬ En (M 609) fr m o → RC M11 ∧ RFr M M11 ∧ RLs M11 (msl (M 609) m) ∧ M11 608 36 = n + (nBo (M 609) fr m (o + 1) : Int) ∧ EnOk M11 (n + (nBo (M 609) fr m (o + 1) : Int)) ∧ (∀ v, cnt (kBr M11) (n + (nBo (M 609) fr m (o + 1) : Int)).toNat v = cnt (kBr M) n.toNat v + cBo (M 609) fr m (o + 1) v) ∧ (P → Srt (kBr M11) (n + (nBo (M 609) fr m (o + 1) : Int)) ∧ ∀ i, 0 ≤ i → i < n + (nBo (M 609) fr m (o + 1) : Int) → M11 629 i < 100 * m + ((o + 1 : Nat) : Int)) := by
        intro hne
        have e1 : nBo (M 609) fr m (o + 1) = nBo (M 609) fr m o := by simp only [nBo]; rw [if_neg hne]; rfl
        rw [e1, ek11, s629]
        exact ⟨hR11, fr11, hl11, s36, hE11, fun v => by rw [hc4 v]; simp only [cBo]; rw [if_neg (fun z => hne z.1)]; rfl, fun hp => ⟨(hS4 hp).1, fun i i0 i1 => by have := (hS4 hp).2 i i0 i1; omega⟩⟩
      refine ⟨fun M' => RC M' ∧ RFr M M' ∧ RLs M' (msl (M 609) m) ∧ M' 608 36 = n + (nBo (M 609) fr m (o + 1) : Int) ∧ EnOk M' (n + (nBo (M 609) fr m (o + 1) : Int)) ∧ (∀ v, cnt (kBr M') (n + (nBo (M 609) fr m (o + 1) : Int)).toNat v = cnt (kBr M) n.toNat v + cBo (M 609) fr m (o + 1) v) ∧ (P → Srt (kBr M') (n + (nBo (M 609) fr m (o + 1) : Int)) ∧ ∀ i, 0 ≤ i → i < n + (nBo (M 609) fr m (o + 1) : Int) → M' 629 i < 100 * m + ((o + 1 : Nat) : Int)), ?_, by rcases ht with ⟨t0, _⟩ | ⟨t0, _⟩ <;> rw [t0] <;> exact ⟨by omega, by omega⟩, fun q => ?_, fun q => ?_⟩
      · rintro M' ⟨k1, k2, k3, k4, k5, k6, k7⟩
        intro x51 e51
        exact ⟨(nD (msl (M 609) m) - (o + 1)).toNat, by omega, o + 1, by omega, by omega, by omega, k1, k2, k3, k4, k5, k6, k7⟩
      · rcases ht with ⟨t0, t1⟩ | ⟨t0, _⟩
        · exact skip (fun z => t1 z.1)
        · omega
      · rcases ht with ⟨t0, _⟩ | ⟨t0, htk, e28, b0, b1⟩
        · omega
        · rw [e28]
          refine ⟨⟨by omega, by omega⟩, hfr, fun q2 => ?_, fun q2 => skip (fun z => by have := z.2; omega)⟩
          have hen : En (M 609) fr m o := ⟨htk, q2⟩
          have e1 : nBo (M 609) fr m (o + 1) = nBo (M 609) fr m o + 1 := by simp only [nBo]; rw [if_pos hen]
          rw [e1, s36]
          refine up_in fun M58 h58 => ?_
          intro x59 e59
          have F58 : ∀ a, a ≠ 608 → M58 a = M11 a := (fun a ha => funext fun b => by rw [h58 a b, if_neg (by omega)])
          refine ⟨fun k y M61 => y.toNat ≤ k ∧ 0 ≤ y ∧ y ≤ x59 ∧ (∀ a, a ≠ 628 → a ≠ 629 → M61 a = M58 a) ∧ (∀ i, 0 ≤ i → i < y → M61 628 i = M4 628 i ∧ M61 629 i = M4 629 i) ∧ (∀ i, y < i → i ≤ x59 → M61 628 i = M4 628 (i - 1) ∧ M61 629 i = M4 629 (i - 1) ∧ bO (M 609) m o < M4 628 (i - 1)), ⟨x59.toNat, by omega, by omega, by omega, fun _ _ _ => rfl, fun i _ _ => ⟨by rw [F58 628 (by omega), s628], by rw [F58 629 (by omega), s629]⟩, fun i _ _ => by omega⟩, ?_⟩
          rintro k63 y M61 ⟨y1, y2, y3, F61, hA61, hB61⟩
          have e61 : M61 608 28 = bO (M 609) m o := by rw [F61 608 (by omega) (by omega), h58, if_neg (by omega), e28]
          rw [e61]
          refine ⟨y = 0 ∨ (0 < y ∧ M4 628 (y - 1) ≤ bO (M 609) m o), ?_, ⟨by omega, by omega⟩, fun q3 => Or.inl (by omega), fun q3 => ⟨by omega, ?_⟩⟩
          · intro hst
            refine ⟨by omega, up_in fun M77 h77 => up_in fun M78 h78 => ?_⟩
            have w1 : ∀ i, i ≠ y → M78 628 i = M61 628 i ∧ M78 629 i = M61 629 i := fun i hi => ⟨by rw [h78, if_neg (by omega), h77, if_neg (by omega)], by rw [h78, if_neg (by omega), h77, if_neg (by omega)]⟩
            have w2 : M78 628 y = bO (M 609) m o := by rw [h78, if_neg (by omega), h77, if_pos ⟨rfl, rfl⟩]
            have w3 : M78 629 y = 100 * m + o := by rw [h78, if_pos ⟨rfl, rfl⟩]
            have v1 : ∀ i, 0 ≤ i → i < y → kBr M78 i = kBr M4 i := fun i a b => by
              unfold kBr; rw [(w1 i (by omega)).1, (w1 i (by omega)).2, (hA61 i a b).1, (hA61 i a b).2]
            have v2 : kBr M78 y = KB m o (bO (M 609) m o) := by unfold kBr KB; rw [w2, w3]; omega
            have v3 : ∀ i, y < i → i ≤ x59 → kBr M78 i = kBr M4 (i - 1) := fun i a b => by
              unfold kBr; rw [(w1 i (by omega)).1, (w1 i (by omega)).2, (hB61 i a b).1, (hB61 i a b).2.1]
            have F78 : ∀ a, a ≠ 628 → a ≠ 629 → a ≠ 608 → M78 a = M11 a := fun a a1 a2 a3 => by
              rw [← F58 a a3, ← F61 a a1 a2]; funext b; rw [h78, if_neg (by omega), h77, if_neg (by omega)]
            have g78 : ∀ b, b ≠ 36 → M78 608 b = M11 608 b := fun b hb => by rw [h78, if_neg (by omega), h77, if_neg (by omega), F61 608 (by omega) (by omega), h58, if_neg (by omega)]
            have en2 : n + ((nBo (M 609) fr m o + 1 : Nat) : Int) = x59 + 1 := by omega
            rw [en2]
            have frf : RFr M M78 := fr11.trans (RFr.of (fun a a1 a2 a3 => F78 a (by omega) (by omega) a1) (g78 3 (by omega)) (g78 5 (by omega)) (g78 8 (by omega)) (g78 10 (by omega)) (g78 12 (by omega)) (g78 0 (by omega)))
            refine ⟨hR11.mv (F78 609 (by omega) (by omega) (by omega)) (fun b hb => g78 b (by omega)) (fun a a1 a2 => F78 a (by omega) (by omega) (by omega)), frf, hl11.mv (g78 33 (by omega)) (F78 627 (by omega) (by omega) (by omega)), ?_, ?_, ?_, ?_⟩
            · rw [h78, if_neg (by omega), h77, if_neg (by omega), F61 608 (by omega) (by omega), h58, if_pos ⟨rfl, rfl⟩]; omega
            · intro i i0 i1
              rcases Int.lt_trichotomy i y with q4 | q4 | q4
              · rw [(w1 i (by omega)).1, (w1 i (by omega)).2, (hA61 i i0 q4).1, (hA61 i i0 q4).2]; exact hE4 i i0 (by omega)
              · rw [q4, w2, w3]; omega
              · rw [(w1 i (by omega)).1, (w1 i (by omega)).2, (hB61 i q4 (by omega)).1, (hB61 i q4 (by omega)).2.1]; exact hE4 (i - 1) (by omega) (by omega)
            · intro v
              have hci := cnt_ins (f := kBr M4) (g := kBr M78) (k := y.toNat) (n := x59.toNat) (w := KB m o (bO (M 609) m o)) (by omega) (fun i hi => v1 i (by omega) (by omega)) (by rw [show ((y.toNat : Nat) : Int) = y by omega]; exact v2) (fun i a b => v3 i (by omega) (by omega)) v
              rw [show (x59 + 1).toNat = x59.toNat + 1 by omega, hci, e59, hc4 v]
              simp only [cBo]
              by_cases q5 : KB m o (bO (M 609) m o) = v
              · rw [if_pos q5, if_pos ⟨hen, q5⟩]; omega
              · rw [if_neg q5, if_neg (fun z => q5 z.2)]; omega
            · intro hp
              obtain ⟨g1, g2⟩ := hS4 hp
              have hlow : ∀ i, 0 ≤ i → i < y → kBr M4 i ≤ KB m o (bO (M 609) m o) := fun i a b => by
                have hlast : kBr M4 (y - 1) ≤ KB m o (bO (M 609) m o) := by
                  rcases hst with hst | hst
                  · omega
                  · have h1 := g2 (y - 1) (by omega) (by omega)
                    have h2 := hE4 (y - 1) (by omega) (by omega)
                    unfold kBr KB; omega
                by_cases q : i = y - 1
                · rw [q]; exact hlast
                · exact Int.le_trans (g1 i (y - 1) a (by omega) (by omega)) hlast
              have hhigh : ∀ i, y < i → i ≤ x59 → KB m o (bO (M 609) m o) ≤ kBr M4 (i - 1) := fun i a b => by
                have h1 := (hB61 i a b).2.2
                have h2 := hE4 (i - 1) (by omega) (by omega)
                unfold kBr KB; omega
              refine ⟨fun p q p0 p1 p2 => ?_, fun i i0 i1 => ?_⟩
              · rcases Int.lt_trichotomy p y with c1 | c1 | c1
                · rw [v1 p p0 c1]
                  rcases Int.lt_trichotomy q y with c2 | c2 | c2
                  · rw [v1 q (by omega) c2]; exact g1 p q p0 p1 (by omega)
                  · rw [c2, v2]; exact hlow p p0 c1
                  · rw [v3 q c2 (by omega)]; exact Int.le_trans (hlow p p0 c1) (hhigh q c2 (by omega))
                · rw [c1, v2, v3 q (by omega) (by omega)]; exact hhigh q (by omega) (by omega)
                · rw [v3 p c1 (by omega), v3 q (by omega) (by omega)]
                  exact g1 (p - 1) (q - 1) (by omega) (by omega) (by omega)
              · rcases Int.lt_trichotomy i y with c1 | c1 | c1
                · rw [(w1 i (by omega)).2, (hA61 i i0 c1).2]; have := g2 i i0 (by omega); omega
                · rw [c1, w3]; omega
                · rw [(w1 i (by omega)).2, (hB61 i c1 (by omega)).2.1]; have := g2 (i - 1) (by omega) (by omega); omega
          · rw [(hA61 (y - 1) (by omega) (by omega)).1]
            have h2 := hE4 (y - 1) (by omega) (by omega)
            refine ⟨⟨by omega, by omega⟩, ⟨by omega, by omega⟩, fun q4 => Or.inr ⟨by omega, q4⟩, fun q4 => ⟨by omega, up_in fun M86 h86 => ?_⟩⟩
            have g629 : M86 629 (y - 1) = M4 629 (y - 1) := by rw [h86, if_neg (by omega), (hA61 (y - 1) (by omega) (by omega)).2]
            rw [g629]
            refine up_in fun M87 h87 => ?_
            intro x88 e88
            refine ⟨x88.toNat, by omega, by omega, by omega, by omega, fun a a1 a2 => by rw [← F61 a a1 a2]; funext b; rw [h87, if_neg (by omega), h86, if_neg (by omega)], fun i i0 i1 => ?_, fun i i0 i1 => ?_⟩
            · have := hA61 i i0 (by omega)
              exact ⟨by rw [h87, if_neg (by omega), h86, if_neg (by omega)]; exact this.1, by rw [h87, if_neg (by omega), h86, if_neg (by omega)]; exact this.2⟩
            · by_cases q5 : i = y
              · rw [q5]
                exact ⟨by rw [h87, if_neg (by omega), h86, if_pos ⟨rfl, rfl⟩], by rw [h87, if_pos ⟨rfl, rfl⟩], q4⟩
              · have := hB61 i (by omega) i1
                exact ⟨by rw [h87, if_neg (by omega), h86, if_neg (by omega)]; exact this.1, by rw [h87, if_neg (by omega), h86, if_neg (by omega)]; exact this.2.1, this.2.2⟩
