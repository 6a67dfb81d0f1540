/-! the class: events taken, the line laid -/
def FOk (M : jT) (f : Int) (s : T5) : Prop := M f 0 = s.1 ∧ M f 1 = s.2.1 ∧ (M f 3 = 0 ∨ M f 3 = 1) ∧ (M f 3 = 0 ↔ s.2.2.1 = 0) ∧ (0 < s.2.2.1 → M f 4 = s.2.2.2.2)
def SOk (s : T5) : Prop := (-720 ≤ s.1 ∧ s.1 ≤ 840) ∧ (0 ≤ s.2.1 ∧ s.2.1 ≤ 120) ∧ 0 ≤ s.2.2.1 ∧ (0 < s.2.2.1 → -960 ≤ s.2.2.2.2 ∧ s.2.2.2.2 ≤ 16831439)
theorem SOk.f5 {Z k : Int → Int} (ho : ZOk Z) {N : Int} (hk : ∀ i, 0 ≤ i → i < N → KOk Z (k i)) {n : Nat} (h : (n : Int) ≤ N) : SOk (f5 Z k n) := by
  obtain ⟨i1, i2, i3, i4, i5, i6, i7, i8, i9⟩ := f5_inv ho hk n h
  refine ⟨i1, i2, i3.1, fun q => ?_⟩
  rw [i4 q]; exact i6 _ (by omega) (by omega)
theorem sp_take {M : jT} {f k key : Int} {Z : Int → Int} {s : T5} {Q : Int → jT → Prop} (hz : ZEq M k Z) (ho : ZOk Z) (hK : KOk Z key) (hS : SOk s) (hf : FOk M f s) (hkf : k + 3 < f)
    (kk : ∀ M', (∀ a, a ≠ f → M' a = M a) → FOk M' f (nx Z key s) → M' f 2 = eS Z key s.1 s.2.1 → Q (oc Z key s) M') : wp_X2_take M f k key Q := by
  obtain ⟨f0, f1, f3, f3', f4⟩ := hf
  obtain ⟨s1, s2, s3, s4⟩ := hS
  obtain ⟨e1, e2, e3, e4, e5, e6⟩ := e_rng ho hK s1 s2
  have ho1 := ho.2.1
  have ho2 := ho.2.2.1
  obtain ⟨k0, k1, k2⟩ := hK
  unfold wp_X2_take
  refine ⟨by omega, ?_⟩
  intro x2 ex2
  have hx2 : 0 ≤ x2 ∧ x2 < 16 := by omega
  refine ⟨⟨⟨by omega, by omega⟩, fun _ => trivial, fun _ => trivial⟩, ⟨fun q => ⟨pg_rn (by omega) (by omega) (by omega), trivial⟩, fun _ => trivial⟩, ?_⟩
  intro x13 a1 a2
  have ex13 : x13 = eC Z key := by
    unfold eC
    by_cases q : key % 16 < 4
    · rw [if_pos q]; exact a2 (by omega)
    · rw [if_neg q, a1 (by omega), hz.rn 5 8 (by omega) (by omega) (by omega), ex2]
  refine ⟨⟨⟨by omega, by omega⟩, fun _ => trivial, fun _ => trivial⟩, ?_⟩
  intro x21 b1 b2
  refine ⟨⟨⟨by omega, by omega⟩, fun _ => trivial, fun _ => trivial⟩, ?_⟩
  intro x27 c1 c2
  have hst : key / 16 - x21 - x27 = eS Z key s.1 s.2.1 := by
    unfold eS
    rw [← ex13]
    by_cases q1 : x13 = 2 <;> by_cases q2 : x13 = 0
    · omega
    · rw [if_pos q1, if_neg q2, b2 q1, c1 q2]
    · rw [if_neg q1, if_pos q2, b1 q1, c2 q2, f0, f1]
    · rw [if_neg q1, if_neg q2, b1 q1, c1 q2, f0]
  refine up_in fun M31 h31 => ?_
  rw [hst] at h31
  have g0 : M31 f 0 = s.1 := by grind
  have g1 : M31 f 1 = s.2.1 := by grind
  have g2 : M31 f 2 = eS Z key s.1 s.2.1 := by grind
  have g3 : M31 f 3 = M f 3 := by grind
  have g4 : M31 f 4 = M f 4 := by grind
  have gF : ∀ a, a ≠ f → M31 a = M a := by grind
  have hz31 : ZEq M31 k Z := hz.mv (gF _ (by omega)) (gF _ (by omega)) (gF _ (by omega)) (gF _ (by omega))
  rw [g3]
  refine ⟨¬ (0 < s.2.2.1 ∧ eS Z key s.1 s.2.1 ≤ s.2.2.2.2), ?_, ⟨by omega, by omega⟩, fun q => by omega, fun q => ⟨⟨by omega, by omega⟩, ⟨by omega, by omega⟩, fun q2 => by omega, fun q2 => ?_⟩⟩
  · intro hn
    intro x38 e38
    rw [g0, g1] at e38
    refine ⟨fun M46 => (∀ a, a ≠ f → M46 a = M a) ∧ M46 f 0 = eB Z key s.1 ∧ M46 f 1 = eV Z key s.2.1 ∧ M46 f 2 = eS Z key s.1 s.2.1 ∧ M46 f 3 = M f 3 ∧ M46 f 4 = M f 4, ?_, fun q => ⟨pg_rn (by omega) (by omega) (by omega), ?_⟩, fun q => ⟨by omega, ?_⟩⟩
    · rintro M46 ⟨j0, j1, j2, j3, j4, j5⟩
      rw [j1, j2, e38]
      refine ⟨⟨by omega, by omega⟩, ⟨by omega, by omega⟩, fun q => ?_, fun q => ?_⟩
      · refine up_in fun M51 h51 => up_in fun M52 h52 => ?_
        rcases oc_cases Z key s with ⟨o1, o2, o3⟩ | ⟨o1, o2, o3, o4⟩ | ⟨o1, o2, o3, o4⟩
        · exact absurd o3 hn
        · exact absurd o4 q
        · have := kk M52 (by grind) (by rw [o2]; unfold FOk; simp only []; grind) (by grind)
          rw [o1] at this; exact this
      · rcases oc_cases Z key s with ⟨o1, o2, o3⟩ | ⟨o1, o2, o3, o4⟩ | ⟨o1, o2, o3, o4⟩
        · exact absurd o3 hn
        · have := kk M46 j0 (by rw [o2]; unfold FOk; simp only []; grind) j3
          rw [o1] at this; exact this
        · exact absurd q o4
    · refine up_in fun M57 h57 => ?_
      have hv : pf_X9_ruleNumber M31 k (x2 - 4) 6 = eV Z key s.2.1 := by
        rw [hz31.rn 6 9 (by omega) (by omega) (by omega), ex2]
        unfold eV; rw [if_neg (by omega)]
      have hb : eB Z key s.1 = s.1 := by unfold eB; rw [if_neg (by omega)]
      rw [hv] at h57
      exact ⟨by grind, by grind, by grind, by grind, by grind, by grind⟩
    · refine up_in fun M59 h59 => ?_
      have hv : M31 (k + 3) x2 = eB Z key s.1 := by
        rw [(hz31.2.2.2.2 x2 (by omega) (by omega)).2, ex2]
        unfold eB; rw [if_pos (by omega)]
      have hb : eV Z key s.2.1 = s.2.1 := by unfold eV; rw [if_pos (by omega)]
      rw [hv] at h59
      exact ⟨by grind, by grind, by grind, by grind, by grind, by grind⟩
  · have hy : 0 < s.2.2.1 ∧ eS Z key s.1 s.2.1 ≤ s.2.2.2.2 := by omega
    rcases oc_cases Z key s with ⟨o1, o2, o3⟩ | ⟨o1, o2, o3, o4⟩ | ⟨o1, o2, o3, o4⟩
    · have := kk M31 gF (by rw [o2]; unfold FOk; simp only []; grind) g2
      rw [o1] at this; exact this
    · exact absurd hy o3
    · exact absurd hy o3
/-- the line of a zone at the cell L, behind n events -/
def TlN (M : jT) (L : Int) (Z k : Int → Int) (n : Nat) : Prop := M L 2 = (f5 Z k n).2.2.1 ∧ M L 3 = (f5 Z k n).2.2.2.1 ∧
  (∀ j, 0 ≤ j → j < (f5 Z k n).2.2.1 → M (L + 1) j = tS Z k n j ∧ M (L + 2) j = tV Z k n j ∧ M (L + 3) j = tI Z k n j) ∧
  (∀ j, 0 ≤ j → j ≤ (f5 Z k n).2.2.1 → M (L + 7) j = tF Z k n j) ∧
  (∀ j, 0 ≤ j → j < (f5 Z k n).2.2.2.1 → M (L + 4) j = vT Z k n j ∧ M (L + 5) j = vS Z k n j ∧ M (L + 6) j = vI Z k n j) ∧
  (∀ j, 0 ≤ j → j ≤ (f5 Z k n).2.2.1 → tF Z k n j ≤ M L 4) ∧ (∃ j, 0 ≤ j ∧ j ≤ (f5 Z k n).2.2.1 ∧ tF Z k n j = M L 4) ∧
  (∀ j, 0 ≤ j → j ≤ (f5 Z k n).2.2.1 → M L 5 ≤ tF Z k n j) ∧ (∃ j, 0 ≤ j ∧ j ≤ (f5 Z k n).2.2.1 ∧ tF Z k n j = M L 5)
def Tl (M : jT) (L : Int) (Z : Int → Int) : Prop := M L 1 = nE Z ∧ LK Z ∧ TlN M L Z (kE Z) (nE Z).toNat
theorem TlN.mv {M M' : jT} {L : Int} {Z k : Int → Int} {n : Nat} (h : TlN M L Z k n) (h0 : ∀ b, 2 ≤ b → b ≤ 5 → M' L b = M L b) (hr : ∀ i, 1 ≤ i → i ≤ 7 → M' (L + i) = M (L + i)) : TlN M' L Z k n := by
  unfold TlN
  rw [h0 2 (by omega) (by omega), h0 3 (by omega) (by omega), h0 4 (by omega) (by omega), h0 5 (by omega) (by omega), hr 1 (by omega) (by omega), hr 2 (by omega) (by omega), hr 3 (by omega) (by omega), hr 4 (by omega) (by omega), hr 5 (by omega) (by omega), hr 6 (by omega) (by omega), hr 7 (by omega) (by omega)]
  exact h
theorem Tl.mv {M M' : jT} {L : Int} {Z : Int → Int} (h : Tl M L Z) (h0 : ∀ b, 1 ≤ b → b ≤ 5 → M' L b = M L b) (hr : ∀ i, 1 ≤ i → i ≤ 7 → M' (L + i) = M (L + i)) : Tl M' L Z :=
  ⟨(h0 1 (by omega) (by omega)).trans h.1, h.2.1, h.2.2.mv (fun b b1 b2 => h0 b (by omega) b2) hr⟩
theorem sO_pf {key : Int} : pf_X7_sourceOf key = idO (key % 16) := by
  unfold pf_X7_sourceOf idO; omega
theorem sO_pg {Z : Int → Int} {key : Int} (h : KOk Z key) : pg_X7_sourceOf key := by
  obtain ⟨h1, h2, h3⟩ := h
  unfold pg_X7_sourceOf rg; simp only [implies_true, and_true, true_and] <;> omega
theorem sp_putVoid {M : jT} {L key : Int} {Z k : Int → Int} {n : Nat} {Q : jT → Prop} (ho : ZOk Z) (hK : KOk Z key) (hk : k n = key) (hL : L + 7 < 600) (hm : 0 ≤ (f5 Z k n).2.2.2.1 ∧ (f5 Z k n).2.2.2.1 < 260) (hT : TlN M L Z k n) (hs : M 600 2 = eS Z key (f5 Z k n).1 (f5 Z k n).2.1) (h0 : oc Z key (f5 Z k n) = 0)
    (kk : ∀ M', (∀ a, (a < L ∨ L + 7 < a) → M' a = M a) → M' L 1 = M L 1 → TlN M' L Z k (n + 1) → Q M') : wp_X7_putVoid M L key 600 Q := by
  obtain ⟨t1, t2, t3, t4, t5, t6, t7, t8, t9⟩ := hT
  unfold wp_X7_putVoid
  have hpg := sO_pg hK
  obtain ⟨k0, k1, k2⟩ := hK
  rw [t2]
  refine ⟨by omega, by omega, ?_⟩
  refine up_in fun M3 h3 => ?_
  have r1 : M3 L 3 = (f5 Z k n).2.2.2.1 := by grind
  have r2 : M3 600 2 = eS Z key (f5 Z k n).1 (f5 Z k n).2.1 := by grind
  rw [r1, r2]
  refine ⟨by omega, ?_⟩
  refine up_in fun M5 h5 => ?_
  have r3 : M5 L 3 = (f5 Z k n).2.2.2.1 := by grind
  rw [r3, sO_pf]
  refine ⟨hpg, by omega, ?_⟩
  refine up_in fun M10 h10 => ?_
  have r4 : M10 L 3 = (f5 Z k n).2.2.2.1 := by grind
  rw [r4]
  refine up_in fun M11 h11 => ?_
  have es : f5 Z k (n + 1) = nx Z key (f5 Z k n) := by rw [← hk]; rfl
  have en : nx Z key (f5 Z k n) = ((f5 Z k n).1, (f5 Z k n).2.1, (f5 Z k n).2.2.1, (f5 Z k n).2.2.2.1 + 1, (f5 Z k n).2.2.2.2) := by unfold nx; rw [if_pos h0]
  have a1 : tS Z k (n + 1) = tS Z k n := by simp only [tS]; rw [if_neg (by rw [hk]; omega)]
  have a2 : tV Z k (n + 1) = tV Z k n := by simp only [tV]; rw [if_neg (by rw [hk]; omega)]
  have a3 : tI Z k (n + 1) = tI Z k n := by simp only [tI]; rw [if_neg (by rw [hk]; omega)]
  have a4 : tF Z k (n + 1) = tF Z k n := by simp only [tF]; rw [if_neg (by rw [hk]; omega)]
  have b1 : vT Z k (n + 1) = upr (vT Z k n) (f5 Z k n).2.2.2.1 (key / 16) := by simp only [vT]; rw [hk, if_pos h0]
  have b2 : vS Z k (n + 1) = upr (vS Z k n) (f5 Z k n).2.2.2.1 (eS Z key (f5 Z k n).1 (f5 Z k n).2.1) := by simp only [vS]; rw [hk, if_pos h0]
  have b3 : vI Z k (n + 1) = upr (vI Z k n) (f5 Z k n).2.2.2.1 (idO (key % 16)) := by simp only [vI]; rw [hk, if_pos h0]
  refine kk M11 (fun a ha => funext fun b => by rw [h11 a b, if_neg (by omega), h10 a b, if_neg (by omega), h5 a b, if_neg (by omega), h3 a b, if_neg (by omega)]) (by rw [h11, if_neg (by omega), h10, if_neg (by omega), h5, if_neg (by omega), h3, if_neg (by omega)]) ?_
  unfold TlN
  rw [es, en, a1, a2, a3, a4, b1, b2, b3]
  simp only []
  refine ⟨by grind, by grind, by grind, by grind, ?_, by grind, by grind, by grind, by grind⟩
  intro j j0 j1
  have := t5 j j0
  refine ⟨by grind [upr_at], by grind [upr_at], by grind [upr_at]⟩
theorem sp_putTransition {M : jT} {L key : Int} {Z k : Int → Int} {n : Nat} {Q : jT → Prop} (ho : ZOk Z) (hK : KOk Z key) (hk : k n = key) (hL : L + 7 < 600) (hm : 0 ≤ (f5 Z k n).2.2.1 ∧ (f5 Z k n).2.2.1 < 260) (hT : TlN M L Z k n) (hs : M 600 2 = eS Z key (f5 Z k n).1 (f5 Z k n).2.1) (hf : M 600 0 = eB Z key (f5 Z k n).1 ∧ M 600 1 = eV Z key (f5 Z k n).2.1) (hr : -2000 ≤ eB Z key (f5 Z k n).1 + eV Z key (f5 Z k n).2.1 ∧ eB Z key (f5 Z k n).1 + eV Z key (f5 Z k n).2.1 ≤ 2000) (hr2 : -2000 ≤ M L 4 ∧ M L 4 ≤ 2000) (hr3 : -2000 ≤ M L 5 ∧ M L 5 ≤ 2000) (h0 : oc Z key (f5 Z k n) = 2)
    (kk : ∀ M', (∀ a, (a < L ∨ L + 7 < a) → M' a = M a) → M' L 1 = M L 1 → TlN M' L Z k (n + 1) → Q M') : wp_X7_putTransition M L key 600 Q := by
  obtain ⟨t1, t2, t3, t4, t5, t6, t7, t8, t9⟩ := hT
  unfold wp_X7_putTransition
  have hpg := sO_pg hK
  obtain ⟨k0, k1, k2⟩ := hK
  intro x1 ex1
  rw [hf.1, hf.2] at ex1
  rw [t1, hs]
  refine ⟨by omega, ?_⟩
  refine up_in fun M3 h3 => ?_
  have r1 : M3 L 2 = (f5 Z k n).2.2.1 := by grind
  have r2 : M3 600 1 = eV Z key (f5 Z k n).2.1 := by grind
  rw [r1, r2]
  refine ⟨by omega, ?_⟩
  refine up_in fun M5 h5 => ?_
  have r3 : M5 L 2 = (f5 Z k n).2.2.1 := by grind
  rw [r3, sO_pf]
  refine ⟨hpg, by omega, ?_⟩
  refine up_in fun M10 h10 => ?_
  have r4 : M10 L 2 = (f5 Z k n).2.2.1 := by grind
  rw [r4]
  refine up_in fun M11 h11 => ?_
  have r5 : M11 L 2 = (f5 Z k n).2.2.1 + 1 := by grind
  rw [r5]
  refine ⟨by omega, ?_⟩
  refine up_in fun M13 h13 => ?_
  have r6 : M13 L 4 = M L 4 := by grind
  have r7 : M13 L 5 = M L 5 := by grind
  rw [r6]
  refine ⟨⟨by omega, by omega⟩, ⟨by omega, by omega⟩, ?_⟩
  refine up_in fun M16 h16 => ?_
  have r8 : M16 L 5 = M L 5 := by grind
  rw [r8]
  refine ⟨⟨by omega, by omega⟩, ?_⟩
  refine up_in fun M18 h18 => ?_
  have es : f5 Z k (n + 1) = nx Z key (f5 Z k n) := by rw [← hk]; rfl
  have en : nx Z key (f5 Z k n) = (eB Z key (f5 Z k n).1, eV Z key (f5 Z k n).2.1, (f5 Z k n).2.2.1 + 1, (f5 Z k n).2.2.2.1, eS Z key (f5 Z k n).1 (f5 Z k n).2.1) := by unfold nx; rw [if_neg (by omega), if_neg (by omega)]
  have a1 : tS Z k (n + 1) = upr (tS Z k n) (f5 Z k n).2.2.1 (eS Z key (f5 Z k n).1 (f5 Z k n).2.1) := by simp only [tS]; rw [hk, if_pos h0]
  have a2 : tV Z k (n + 1) = upr (tV Z k n) (f5 Z k n).2.2.1 (eV Z key (f5 Z k n).2.1) := by simp only [tV]; rw [hk, if_pos h0]
  have a3 : tI Z k (n + 1) = upr (tI Z k n) (f5 Z k n).2.2.1 (idO (key % 16)) := by simp only [tI]; rw [hk, if_pos h0]
  have a4 : tF Z k (n + 1) = upr (tF Z k n) ((f5 Z k n).2.2.1 + 1) x1 := by simp only [tF]; rw [hk, if_pos h0, ex1]
  have b1 : vT Z k (n + 1) = vT Z k n := by simp only [vT]; rw [hk, if_neg (by omega)]
  have b2 : vS Z k (n + 1) = vS Z k n := by simp only [vS]; rw [hk, if_neg (by omega)]
  have b3 : vI Z k (n + 1) = vI Z k n := by simp only [vI]; rw [hk, if_neg (by omega)]
  have q4 : M18 L 4 = max (M L 4) x1 := by grind
  have q5 : M18 L 5 = min (M L 5) x1 := by grind
  refine kk M18 (fun a ha => funext fun b => by rw [h18 a b, if_neg (by omega), h16 a b, if_neg (by omega), h13 a b, if_neg (by omega), h11 a b, if_neg (by omega), h10 a b, if_neg (by omega), h5 a b, if_neg (by omega), h3 a b, if_neg (by omega)]) (by rw [h18, if_neg (by omega), h16, if_neg (by omega), h13, if_neg (by omega), h11, if_neg (by omega), h10, if_neg (by omega), h5, if_neg (by omega), h3, if_neg (by omega)]) ?_
  unfold TlN
  rw [es, en, a1, a2, a3, a4, b1, b2, b3, q4, q5]
  simp only []
  refine ⟨by grind, by grind, fun j j0 j1 => ?_, fun j j0 j1 => ?_, by grind, fun j j0 j1 => ?_, ?_, fun j j0 j1 => ?_, ?_⟩
  · have := t3 j j0
    refine ⟨by grind [upr_at], by grind [upr_at], by grind [upr_at]⟩
  · have := t4 j j0
    grind [upr_at]
  · have := t6 j j0
    unfold upr; split <;> omega
  · obtain ⟨j, j0, j1, j2⟩ := t7
    by_cases c : M L 4 ≤ x1
    · exact ⟨(f5 Z k n).2.2.1 + 1, by omega, by omega, by rw [upr_eq]; omega⟩
    · exact ⟨j, j0, by omega, by rw [upr_ne (by omega)]; omega⟩
  · have := t8 j j0
    unfold upr; split <;> omega
  · obtain ⟨j, j0, j1, j2⟩ := t9
    by_cases c : x1 ≤ M L 5
    · exact ⟨(f5 Z k n).2.2.1 + 1, by omega, by omega, by rw [upr_eq]; omega⟩
    · exact ⟨j, j0, by omega, by rw [upr_ne (by omega)]; omega⟩
