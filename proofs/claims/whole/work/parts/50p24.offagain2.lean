theorem sp_listYear {M : jT} {k y : Int} {Z : Int → Int} {Q : Int → jT → Prop} (hz : ZEq M k Z) (ho : ZOk Z) (hk : k + 3 < 606) (hy : 0 ≤ y ∧ y < 32)
    (kk : ∀ M', (∀ a, a ≠ 606 → M' a = M a) → (∀ v, cnt (M' 606) (nYr Z y) v = cYr Z v y) → Q (nYr Z y) M') : wp_X9_listEventsOfYear M k y 606 Q := by
  have ho1 := ho.2.1
  have ho2 := ho.2.2.1
  have hyd : 0 ≤ yD y ∧ yD y ≤ yD (y + 1) ∧ yD (y + 1) ≤ 11688 := by unfold yD; omega
  have hmv : ∀ M' : jT, (∀ a, a ≠ 606 → M' a = M a) → ZEq M' k Z := fun M' h => hz.mv (h _ (by omega)) (h _ (by omega)) (h _ (by omega)) (h _ (by omega))
  have pgy : pg_X1_yearStart y ∧ pg_X1_yearStart (y + 1) := by unfold pg_X1_yearStart; exact ⟨⟨by omega, trivial⟩, by omega, trivial⟩
  have pfy : pf_X1_yearStart y = yD y ∧ pf_X1_yearStart (y + 1) = yD (y + 1) := ⟨rfl, rfl⟩
  unfold wp_X9_listEventsOfYear
  rw [pfy.1, pfy.2]
  refine ⟨fun n x1 x2 M3 => ∃ c : Nat, x2 = c ∧ x1 = (nCy Z y c : Int) ∧ (c : Int) ≤ Z 2 ∧ (Z 2 - c).toNat ≤ n ∧ (∀ a, a ≠ 606 → M3 a = M a) ∧ ∀ v, cnt (M3 606) (nCy Z y c) v = cCy Z y c v, ⟨(Z 2).toNat, 0, rfl, rfl, by omega, by omega, fun _ _ => rfl, fun _ => rfl⟩, ?_⟩
  rintro n5 x1 x2 M3 ⟨c, rfl, rfl, c1, c2, hF, hC⟩
  have hz3 := hmv M3 hF
  have hle := nCy_le (Z := Z) (y := y) c
  rw [hz3.2.2.1]
  refine ⟨⟨by omega, by omega⟩, ⟨by omega, by omega⟩, fun q => ?_, fun q => ⟨by omega, ?_⟩⟩
  · have ec : c = (Z 2).toNat := by omega
    refine ⟨fun n x9 x10 M11 => ∃ r : Nat, x10 = r ∧ x9 = (nCy Z y c : Int) + (nRy Z y r : Int) ∧ (r : Int) ≤ Z 1 ∧ (Z 1 - r).toNat ≤ n ∧ (∀ a, a ≠ 606 → M11 a = M a) ∧ ∀ v, cnt (M11 606) (nCy Z y c + nRy Z y r) v = cCy Z y c v + cRy Z y r v, ⟨(Z 1).toNat, 0, rfl, by simp only [nRy]; omega, by omega, by omega, hF, hC⟩, ?_⟩
    rintro n13 x9 x10 M11 ⟨r, rfl, rfl, r1, r2, hF, hC⟩
    have hz11 := hmv M11 hF
    have hle2 := nRy_le (Z := Z) (y := y) r
    rw [hz11.2.1]
    refine ⟨⟨by omega, by omega⟩, ⟨by omega, by omega⟩, fun q2 => ?_, fun q2 => ?_⟩
    · have er : r = (Z 1).toNat := by omega
      rw [ec, er] at hC ⊢
      have := kk M11 hF (fun v => hC v)
      have e : ((nCy Z y (Z 2).toNat : Nat) : Int) + ((nRy Z y (Z 1).toNat : Nat) : Int) = ((nYr Z y : Nat) : Int) := by unfold nYr; omega
      rw [e]; exact this
    · obtain ⟨d1, d2⟩ := dOE hz11 ho (r := r) (y := y) ⟨by omega, q2⟩ (by omega)
      have hd := dR_rng ho (r := r) (y := y) (by omega) q2 (by omega)
      have hkey : ∀ d, (1440 * d + (if (4 : Int) + r < 4 then 0 else Z (7 + 7 * (4 + (r : Int) - 4)))) * 16 + (4 + (r : Int)) = (1440 * d + Z (7 + 7 * r)) * 16 + (4 + (r : Int)) := fun d => by
        rw [if_neg (by omega), show (4 + (r : Int) - 4) = r by omega]
      rw [d2]
      refine ⟨d1, sp_putKey hz11 ho (by omega) (by split <;> omega) (Or.inr (by omega)) (fun q4 => ?_) (fun q4 => ?_)⟩
      · intro x22 e22
        have hno : ¬ inR Z r y := fun z => by rw [if_pos z.1] at q4; have := z.2; omega
        have e1 : nRy Z y (r + 1) = nRy Z y r := by simp only [nRy]; rw [if_neg hno]; rfl
        refine ⟨(Z 1 - (r + 1)).toNat, by omega, r + 1, by omega, by rw [e1], by omega, by omega, hF, fun v => ?_⟩
        rw [e1, hC v]; simp only [cRy]; rw [if_neg (fun z => hno z.1)]; rfl
      · intro x22 e22
        have hyes : Z (3 + 7 * r) ≤ y ∧ y ≤ Z (4 + 7 * r) := by
          by_cases z : Z (3 + 7 * r) ≤ y ∧ y ≤ Z (4 + 7 * r)
          · exact z
          · rw [if_neg z] at q4; omega
        rw [if_pos hyes] at q4 ⊢
        have hin : inR Z r y := ⟨hyes, q4⟩
        have e1 : nRy Z y (r + 1) = nRy Z y r + 1 := by simp only [nRy]; rw [if_pos hin]
        refine ⟨(Z 1 - (r + 1)).toNat, by omega, r + 1, by omega, by rw [e1]; omega, by omega, by omega, fun a ha => by rw [up_ne ha]; exact hF a ha, fun v => ?_⟩
        rw [e1, hkey, up_row, show nCy Z y c + (nRy Z y r + 1) = (nCy Z y c + nRy Z y r) + 1 by omega]
        rw [cnt_push (f := M11 606) (w := kR Z r y) (fun i hi => upr_ne (by omega)) (by rw [show ((nCy Z y c + nRy Z y r : Nat) : Int) = (nCy Z y c : Int) + (nRy Z y r : Int) by omega]; exact upr_eq), hC v]
        simp only [cRy]
        by_cases q5 : kR Z r y = v
        · rw [if_pos q5, if_pos ⟨hin, q5⟩]; omega
        · rw [if_neg q5, if_neg (fun z => q5 z.2)]; omega
  · have hcj := ho.2.2.2.2 c (by omega) q
    have hd : M3 (k + 2) c = Z (59 + 2 * c) := (hz3.2.2.2.2 c (by omega) q).1
    have hkey : ∀ d, (1440 * d + (if (c : Int) < 4 then 0 else Z (7 + 7 * ((c : Int) - 4)))) * 16 + (c : Int) = (1440 * d + 0) * 16 + (c : Int) := fun d => by rw [if_pos (by omega)]
    rw [hd]
    intro x25 e25
    refine ⟨pgy.1, fun t => t = b2i (inY Z c y), fun t et => ?_, ¬ inY Z c y, fun z => (b2i_f z).symm, ⟨by omega, by omega⟩, ⟨by omega, by omega⟩, fun z z2 => by have := z2.1; omega, fun z => ⟨pgy.2, ⟨by omega, by omega⟩, fun z2 z3 => by have := z3.2; omega, fun z2 => (b2i_t ⟨by omega, by omega⟩).symm⟩⟩
    have hb := b2i_rng (inY Z c y)
    rw [et]
    refine ⟨⟨⟨by omega, by omega⟩, fun _ => trivial, fun _ => trivial⟩, ?_⟩
    intro x50 g1 g2
    by_cases hin : inY Z c y
    · have e50 : x50 = Z (59 + 2 * c) := by rw [g2 (by rw [b2i_t hin]; omega), e25]
      refine sp_putKey hz3 ho (by omega) (by omega) (Or.inl (by omega)) (fun q4 => by omega) (fun q4 => ?_)
      intro x56 e56
      have e1 : nCy Z y (c + 1) = nCy Z y c + 1 := by simp only [nCy]; rw [if_pos hin]
      refine ⟨(Z 2 - (c + 1)).toNat, by omega, c + 1, by omega, by rw [e1]; omega, by omega, by omega, fun a ha => by rw [up_ne ha]; exact hF a ha, fun v => ?_⟩
      rw [e1, hkey, e50, up_row, show (1440 * Z (59 + 2 * (c : Int)) + 0) * 16 + (c : Int) = kC Z c from rfl]
      rw [cnt_push (f := M3 606) (w := kC Z c) (fun i hi => upr_ne (by omega)) upr_eq, hC v]
      simp only [cCy]
      by_cases q5 : kC Z c = v
      · rw [if_pos q5, if_pos ⟨hin, q5⟩]
      · rw [if_neg q5, if_neg (fun z => q5 z.2)]
    · have e50 : x50 = -1 := g1 (b2i_f hin)
      refine sp_putKey hz3 ho (by omega) (by omega) (Or.inl (by omega)) (fun q4 => ?_) (fun q4 => by omega)
      intro x56 e56
      have e1 : nCy Z y (c + 1) = nCy Z y c := by simp only [nCy]; rw [if_neg hin]; rfl
      refine ⟨(Z 2 - (c + 1)).toNat, by omega, c + 1, by omega, by rw [e1], by omega, by omega, hF, fun v => ?_⟩
      rw [e1, hC v]; simp only [cCy]; rw [if_neg (fun z => hin z.1)]; rfl
theorem cnt_split {f g h : Int → Int} {n : Nat} (h1 : ∀ i : Nat, i < n → h i = f i) (v : Int) : ∀ m : Nat, (∀ i : Nat, i < m → h ((n : Int) + i) = g i) → cnt h (n + m) v = cnt f n v + cnt g m v
  | 0, _ => cnt_congr h1 v
  | m + 1, h2 => by
    show cnt h (n + m) v + (if h ((n + m : Nat) : Int) = v then 1 else 0) = cnt f n v + (cnt g m v + (if g m = v then 1 else 0))
    rw [cnt_split h1 v m (fun i hi => h2 i (by omega)), show ((n + m : Nat) : Int) = (n : Int) + m by omega, h2 m (by omega)]
    omega
theorem sY_mono {F : Int → Nat} {a : Nat} : ∀ d : Nat, sY F a ≤ sY F (a + d)
  | 0 => Nat.le_refl _
  | d + 1 => by have := sY_mono (F := F) (a := a) d; show _ ≤ sY F (a + d) + _; omega
theorem sim_offsetAgain {M : jT} {z x : Int} (h : Inv M) (rz : rg z) (rx : rg x) : wp_X10_offsetAgain M 0 z x (fun v M1 => OKq (wp_X11_offsetAgain M1 608 z x) v) (fun e M1 => EXq (wp_X11_offsetAgain M1 608 z x) [1, 2] e) := by
  unfold wp_X10_offsetAgain
  refine nz h.1 rz (fun hz => ⟨(pgd rx).2.2.2.2.1, na (fun c => ?_) (fun c => ?_)⟩) (fun hz => ⟨by decide, ?_⟩)
  · have a1 := h.1.1.1
    have ho := h.1.1.2.2.1 z hz.1 hz.2
    have hze := h.1.2.2.2.1 z hz.1 hz.2
    rw [show 1 + 3 + 4 * z = 4 * z + 4 by omega] at hze
    have hnE := nE_rng ho
    simp only [Int.zero_add]
    refine ⟨by omega, ?_⟩
    generalize hZ : zsl (M 609) z = Z at ho hze hnE
    rw [hze.1]
    obtain ⟨sm1, sm2⟩ := sum_Y ho
    have fin : ∀ M1 : jT, Inv M1 → M1 609 = M 609 → LK Z → OKq (wp_X11_offsetAgain M1 608 z x) (lF Z (SP (lm Z) (lS Z) x)) := by
      intro M1 h1 e1 _
      unfold OKq wp_X11_offsetAgain
      refine th0 h1 fun M2 h2 e2 t2 => ⟨pg_zone h2 rz, fun _ => ⟨(pgr rx).2.1, _, fun _ _ q => q, fun q => absurd c q, fun _ => ?_⟩, fun q => absurd (zi.mpr (by rw [e2, e1]; exact hz)) q⟩
      have hz2 : 0 ≤ z ∧ z < M2 609 0 := by rw [e2, e1]; exact hz
      refine sp_offsetAt (h2.rz hz2) rx fun M3 f h14 hl hz3 => ?_
      obtain ⟨i1, i2, i3⟩ := h2.f1 hz2 f h14 hl
      exact ⟨by rw [i3, t2], by rw [e2, e1, hZ], i1⟩
    have inv' : ∀ M1 : jT, (∀ a, a ≠ 600 → a ≠ 606 → M1 a = M a) → Inv M1 ∧ M1 609 = M 609 := fun M1 F =>
      ⟨h.c (fun a ha => F a (by omega) (by omega)) (h.2.1.mv h.1 (F 609 (by omega) (by omega)) (fun a _ _ => F a (by omega) (by omega))), F 609 (by omega) (by omega)⟩
    unfold wp_X2_begin
    refine up_in fun M7 h7 => up_in fun M8 h8 => up_in fun M9 h9 => ?_
    have F9 : ∀ a, a ≠ 600 → M9 a = M a := (fun a ha => funext fun b => by rw [h9 a b, if_neg (by omega), h8 a b, if_neg (by omega), h7 a b, if_neg (by omega)])
    intro x12 e12
    rw [F9 _ (by omega), hze.1] at e12
    refine ⟨fun n f' y' M15 => ∃ (y : Nat) (g : Int → Int), y' = y ∧ y ≤ 32 ∧ 32 - y ≤ n ∧ (∀ a, a ≠ 600 → a ≠ 606 → M15 a = M a) ∧ Srt g (sY (nYr Z) y : Int) ∧ (∀ v, cnt g (sY (nYr Z) y) v = sY (cYr Z v) y) ∧ (∀ i : Int, 0 ≤ i → i < (sY (nYr Z) y : Int) → KOk Z (g i) ∧ g i < 16 * (1440 * yD y)) ∧ FOk M15 600 (f5 Z g (sY (nYr Z) y)) ∧ f' = fdn Z g (sY (nYr Z) y) x, ⟨32, 0, fun _ => 0, rfl, by omega, by omega, fun a ha _ => F9 a ha, fun p q a b c => by simp only [sY] at c; omega, fun v => rfl, fun i a b => by simp only [sY] at b; omega, ?_, ?_⟩, ?_⟩
    · unfold FOk; simp only [sY, f5]
      have q0 : M9 600 0 = Z 0 := by rw [h9, if_neg (by omega), h8, if_neg (by omega), h7, if_pos ⟨rfl, rfl⟩]
      have q1 : M9 600 1 = 0 := by rw [h9, if_neg (by omega), h8, if_pos ⟨rfl, rfl⟩]
      have q3 : M9 600 3 = 0 := by rw [h9, if_pos ⟨rfl, rfl⟩]
      exact ⟨q0, q1, Or.inl q3, ⟨fun _ => by trivial, fun _ => q3⟩, fun q => by omega⟩
    · rw [e12]; simp only [sY]; unfold fdn; simp only [f5, tF]
    · rintro n17 x13 x14 M15 ⟨y, g, rfl, y1, y2, F15, gS, gC, gR, gF, gx⟩
      refine ⟨⟨by omega, by omega⟩, fun q => ?_, fun q => ?_⟩
      · have ey : y = 32 := by omega
        subst ey
        obtain ⟨hI, e609⟩ := inv' M15 F15
        have hC : ∀ v, cnt g (nE Z).toNat v = cE Z v := fun v => by rw [← sm1 v, ← gC v, ← sm2]; rfl
        have hS : Srt g (nE Z) := by rw [← sm2]; exact gS
        have hke : ∀ i, 0 ≤ i → i < nE Z → g i = kE Z i := fun i i0 i1 => kE_eq hS hC i0 i1
        have hK : LK Z := fun i i0 i1 => by rw [← hke i i0 i1]; exact key_ok ho hC i0 i1
        have eN : sY (nYr Z) 32 = (nE Z).toNat := by omega
        have hcg := f5_congr (Z := Z) (k := g) (k' := kE Z) (nE Z).toNat (fun i hi => hke i (by omega) (by omega))
        have : x13 = lF Z (SP (lm Z) (lS Z) x) := by
          rw [gx, eN]; unfold fdn lF lm lS; rw [hcg.1, hcg.2.1, hcg.2.2]
        rw [this]; exact fin M15 hI e609 hK
      · have hyl : sY (nYr Z) (y + 1) ≤ sY (nYr Z) 32 := by
          have := sY_mono (F := nYr Z) (a := y + 1) (32 - (y + 1))
          rw [show y + 1 + (32 - (y + 1)) = 32 by omega] at this; exact this
        have hs1 : sY (nYr Z) (y + 1) = sY (nYr Z) y + nYr Z y := rfl
        have hze15 : ZEq M15 (4 * z + 4) Z := hze.mv (F15 _ (by omega) (by omega)) (F15 _ (by omega) (by omega)) (F15 _ (by omega) (by omega)) (F15 _ (by omega) (by omega))
        refine sp_listYear hze15 ho (by omega) (y := y) (by omega) fun M21 F21 C21 => ?_
        have hrow : ∀ i : Int, 0 ≤ i → i < (nYr Z y : Int) → KOk Z (M21 606 i) ∧ 16 * (1440 * yD y) ≤ M21 606 i ∧ M21 606 i < 16 * (1440 * yD ((y : Int) + 1)) := fun i i0 i1 => by
          apply cYr_rng ho (y := y) (by omega)
          rw [← C21]
          exact cnt_pos.mpr ⟨i.toNat, by omega, by rw [Int.toNat_of_nonneg i0]⟩
        refine sp_sortKeys (M := M21) (a0 := 606) (a1 := (nYr Z y : Int)) (by omega) (fun i i0 i1 => ?_) (fun M23 F23 S23 P23 => ?_)
        · obtain ⟨k0, _, _⟩ := (hrow i i0 i1).1
          have := hrow i i0 i1
          have h3 : yD ((y : Int) + 1) ≤ 11688 := by unfold yD; omega
          exact ⟨by omega, by omega⟩
        · have C23 : ∀ v, cnt (M23 606) (nYr Z y) v = cYr Z v y := fun v => by
            have := P23 v
            rw [show ((nYr Z y : Nat) : Int).toNat = nYr Z y by omega] at this
            rw [this]; exact C21 v
          have hrow3 : ∀ i : Int, 0 ≤ i → i < (nYr Z y : Int) → KOk Z (M23 606 i) ∧ 16 * (1440 * yD y) ≤ M23 606 i ∧ M23 606 i < 16 * (1440 * yD ((y : Int) + 1)) := fun i i0 i1 => by
            apply cYr_rng ho (y := y) (by omega)
            rw [← C23]
            exact cnt_pos.mpr ⟨i.toNat, by omega, by rw [Int.toNat_of_nonneg i0]⟩
          have F23' : ∀ a, a ≠ 600 → a ≠ 606 → M23 a = M a := fun a a1 a2 => (F23 a a2).trans ((F21 a a2).trans (F15 a a1 a2))
          have e600 : M23 600 = M15 600 := (F23 600 (by omega)).trans (F21 600 (by omega))
          generalize hg' : (fun j : Int => if j < (sY (nYr Z) y : Int) then g j else M23 606 (j - (sY (nYr Z) y : Int))) = g'
          have hlow : ∀ i : Int, i < (sY (nYr Z) y : Int) → g' i = g i := fun i hi => by rw [← hg']; simp only []; rw [if_pos hi]
          have hhigh : ∀ i : Int, 0 ≤ i → g' ((sY (nYr Z) y : Int) + i) = M23 606 i := fun i hi => by rw [← hg']; simp only []; rw [if_neg (by omega), show (sY (nYr Z) y : Int) + i - (sY (nYr Z) y : Int) = i by omega]
          have hK' : ∀ i : Int, 0 ≤ i → i < (sY (nYr Z) (y + 1) : Int) → KOk Z (g' i) ∧ g' i < 16 * (1440 * yD ((y : Int) + 1)) := fun i i0 i1 => by
            by_cases q1 : i < (sY (nYr Z) y : Int)
            · rw [hlow i q1]
              have := gR i i0 q1
              have h3 : yD y ≤ yD ((y : Int) + 1) := yD_mono (by omega) (by omega)
              exact ⟨this.1, by omega⟩
            · have := hhigh (i - (sY (nYr Z) y : Int)) (by omega)
              rw [show (sY (nYr Z) y : Int) + (i - (sY (nYr Z) y : Int)) = i by omega] at this
              rw [this]
              have := hrow3 (i - (sY (nYr Z) y : Int)) (by omega) (by omega)
              exact ⟨this.1, this.2.2⟩
          have hcg := f5_congr (Z := Z) (k := g') (k' := g) (sY (nYr Z) y) (fun i hi => hlow i (by omega))
          refine ⟨fun n f'' i' M26 => ∃ i : Nat, i' = i ∧ i ≤ nYr Z y ∧ nYr Z y - i ≤ n ∧ (∀ a, a ≠ 600 → M26 a = M23 a) ∧ FOk M26 600 (f5 Z g' (sY (nYr Z) y + i)) ∧ f'' = fdn Z g' (sY (nYr Z) y + i) x, ⟨nYr Z y, 0, rfl, by omega, by omega, fun _ _ => rfl, ?_, ?_⟩, ?_⟩
          · rw [Nat.add_zero, hcg.1]; unfold FOk; rw [e600]; exact gF
          · rw [gx, Nat.add_zero]; unfold fdn; rw [hcg.1, hcg.2.1, hcg.2.2]
          · rintro n28 x24 x25 M26 ⟨i, rfl, i1, i2, F26, hFO, e24⟩
            refine ⟨⟨by omega, by omega⟩, ⟨by omega, by omega⟩, fun q3 => ?_, fun q3 => ⟨by omega, ?_⟩⟩
            · intro x32 e32
              have ei : i = nYr Z y := by omega
              refine ⟨32 - (y + 1), by omega, y + 1, g', by omega, by omega, by omega, fun a b1 b2 => (F26 a b1).trans (F23' a b1 b2), ?_, ?_, fun j j0 j1 => by rw [show ((y + 1 : Nat) : Int) = (y : Int) + 1 by omega]; exact hK' j j0 j1, ?_, ?_⟩
              · intro p q' p0 p1 p2
                by_cases c1 : q' < (sY (nYr Z) y : Int)
                · rw [hlow p (by omega), hlow q' c1]; exact gS p q' p0 p1 c1
                · have e2 := hhigh (q' - (sY (nYr Z) y : Int)) (by omega)
                  rw [show (sY (nYr Z) y : Int) + (q' - (sY (nYr Z) y : Int)) = q' by omega] at e2
                  rw [e2]
                  by_cases c2 : p < (sY (nYr Z) y : Int)
                  · rw [hlow p c2]
                    have := (gR p p0 c2).2
                    have := (hrow3 (q' - (sY (nYr Z) y : Int)) (by omega) (by omega)).2.1
                    omega
                  · have e1 := hhigh (p - (sY (nYr Z) y : Int)) (by omega)
                    rw [show (sY (nYr Z) y : Int) + (p - (sY (nYr Z) y : Int)) = p by omega] at e1
                    rw [e1]
                    exact S23 _ _ (by omega) (by omega) (by omega)
              · intro v
                rw [hs1, cnt_split (f := g) (g := M23 606) (fun j hj => hlow j (by omega)) v (nYr Z y) (fun j hj => hhigh j (by omega)), gC v, C23 v]; rfl
              · rw [hs1, ← ei]; exact hFO
              · rw [hs1, ← ei]; exact e24
            · have hze26 : ZEq M26 (4 * z + 4) Z := hze.mv ((F26 _ (by omega)).trans (F23' _ (by omega) (by omega))) ((F26 _ (by omega)).trans (F23' _ (by omega) (by omega))) ((F26 _ (by omega)).trans (F23' _ (by omega) (by omega))) ((F26 _ (by omega)).trans (F23' _ (by omega) (by omega)))
              have hkey : M26 606 i = g' ((sY (nYr Z) y + i : Nat) : Int) := by
                rw [F26 606 (by omega), show ((sY (nYr Z) y + i : Nat) : Int) = (sY (nYr Z) y : Int) + i by omega, hhigh i (by omega)]
              have hKi : KOk Z (g' ((sY (nYr Z) y + i : Nat) : Int)) := (hK' _ (by omega) (by omega)).1
              have hSO := SOk.f5 ho (k := g') (N := (sY (nYr Z) y + i : Nat)) (fun j j0 j1 => (hK' j j0 (by omega)).1) (n := sY (nYr Z) y + i) (Int.le_refl _)
              obtain ⟨j1', j2', _⟩ := id hSO
              obtain ⟨u1, u2, u3, u4, u5, u6⟩ := e_rng ho hKi j1' j2'
              rw [hkey]
              refine sp_take hze26 ho hKi hSO hFO (by omega) (fun M36 F36 hFO36 hst => ?_)
              have es : nx Z (g' ((sY (nYr Z) y + i : Nat) : Int)) (f5 Z g' (sY (nYr Z) y + i)) = f5 Z g' (sY (nYr Z) y + i + 1) := rfl
              rw [es] at hFO36
              rw [hst]
              have hoc : 0 ≤ oc Z (g' ((sY (nYr Z) y + i : Nat) : Int)) (f5 Z g' (sY (nYr Z) y + i)) ∧ oc Z (g' ((sY (nYr Z) y + i : Nat) : Int)) (f5 Z g' (sY (nYr Z) y + i)) ≤ 2 := by
                rcases oc_cases Z (g' ((sY (nYr Z) y + i : Nat) : Int)) (f5 Z g' (sY (nYr Z) y + i)) with ⟨o, _⟩ | ⟨o, _⟩ | ⟨o, _⟩ <;> omega
              refine ⟨⟨⟨by omega, by omega⟩, fun _ => trivial, fun _ => ⟨⟨by omega, by omega⟩, rx, fun _ => trivial, fun _ => trivial⟩⟩, ?_⟩
              intro x42 b1 b2 b3 x49 e49
              refine ⟨nYr Z y - (i + 1), by omega, i + 1, by omega, by omega, by omega, fun a ha => (F36 a ha).trans (F26 a ha), hFO36, ?_⟩
              rw [show sY (nYr Z) y + (i + 1) = sY (nYr Z) y + i + 1 by omega, fdn_step ho (by omega) (fun j j0 j1 => (hK' j j0 (by omega)).1)]
              by_cases q5 : oc Z (g' ((sY (nYr Z) y + i : Nat) : Int)) (f5 Z g' (sY (nYr Z) y + i)) = 2
              · by_cases q6 : eS Z (g' ((sY (nYr Z) y + i : Nat) : Int)) (f5 Z g' (sY (nYr Z) y + i)).1 (f5 Z g' (sY (nYr Z) y + i)).2.1 ≤ x
                · rw [if_pos ⟨q5, q6⟩, b3 ⟨q5, q6⟩, hFO36.1, hFO36.2.1]
                  rcases oc_cases Z (g' ((sY (nYr Z) y + i : Nat) : Int)) (f5 Z g' (sY (nYr Z) y + i)) with ⟨o, _⟩ | ⟨o, _⟩ | ⟨o, o2, _⟩
                  · omega
                  · omega
                  · rw [← es, o2]
                · rw [if_neg (fun q => q6 q.2), b2 ⟨q5, by omega⟩, e24]
              · rw [if_neg (fun q => q5 q.1), b1 q5, e24]
  · refine ⟨by decide, ?_⟩
    unfold wp_X11_offsetAgain
    exact th0 h fun M2 h2 e2 t2 => ⟨pg_zone h2 rz, fun _ => ⟨(pgr rx).2.1, _, fun _ _ q => q, fun _ => rs h2 fun M3 h3 t3 => ⟨by rw [t3]; rfl, h3⟩, fun q => absurd q c⟩, fun q => absurd (zi.mpr (by rw [e2]; exact hz)) q⟩
  · unfold wp_X11_offsetAgain; exact bz h rz hz rfl (fun b M2 a1 a2 => ⟨a1, a2⟩)
