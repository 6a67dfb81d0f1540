/-! the class: a plan laid out; the reference: lists -/
def PL (M : jT) (L : Int) (G : Int → Int) : Prop := M L 2 = nD G ∧ ∀ i, 0 ≤ i → i < nD G → M (L + 1) i = dO G i
theorem PL.mv {M M' : jT} {L : Int} {G : Int → Int} (h : PL M L G) (h2 : M' L 2 = M L 2) (h1 : M' (L + 1) = M (L + 1)) : PL M' L G := by unfold PL; rw [h2, h1]; exact h
theorem sp_layOut {M : jT} {L k : Int} {G : Int → Int} {Q : jT → Prop} (hG : GEq M k G) (ho : GOk G) (hk : k + 1 < L)
    (kk : ∀ M', (∀ a, a ≠ L → a ≠ L + 1 → M' a = M a) → (∀ b, b ≠ 0 → b ≠ 2 → M' L b = M L b) → M' L 0 = 1 → PL M' L G → Q M') : wp_X5_layOut M L k Q := by
  have ho6 := ho.2.2.2.2.2.1
  unfold wp_X5_layOut
  refine up_in fun M1 h1 => ?_
  have F1 : ∀ a, a ≠ L → M1 a = M a := (fun a ha => funext fun b => by rw [h1 a b, if_neg (by omega)])
  have hG1 : GEq M1 k G := hG.mv (F1 _ (by omega)) (F1 _ (by omega))
  have e2 : M1 L 2 = 0 := by rw [h1, if_pos ⟨rfl, rfl⟩]
  rw [hG1.1 6 (by omega) (by omega)]
  have fin : ∀ (c : Nat → Int) (M' : jT) (n : Nat), cd G = c → FrL M1 M' L → LSt M' L (G 5) c n → ap (G 5) c 12600 = ap (G 5) c n → (∀ a, a ≠ L → a ≠ L + 1 → M' a = M a) ∧ (∀ b, b ≠ 2 → M' L b = M L b) ∧ PL M' L G := by
    intro c M' n hc f hS e
    refine ⟨fun a a1 a2 => (f.1 a a1 a2).trans (F1 a a1), fun b b1 => (f.2 b b1).trans (by rw [h1, if_neg (by omega)]), ?_⟩
    unfold PL nD dO; rw [hc, e]; exact hS
  refine ⟨fun M' => (∀ a, a ≠ L → a ≠ L + 1 → M' a = M a) ∧ (∀ b, b ≠ 2 → M' L b = M L b) ∧ PL M' L G, ?_, ⟨by omega, by omega⟩, fun c => ?_, fun c => ?_, fun c => ?_⟩
  · rintro M' ⟨k1, k2, k3⟩
    refine up_in fun M12 h12 => ?_
    refine kk M12 (fun a a1 a2 => by rw [← k1 a a1 a2]; funext b; rw [h12, if_neg (by omega)]) (fun b b1 b2 => by rw [h12, if_neg (by omega)]; exact k2 b b2) (by rw [h12, if_pos ⟨rfl, rfl⟩]) (k3.mv (by rw [h12, if_neg (by omega)]) (funext fun b => by rw [h12, if_neg (by omega)]))
  · exact sp_layDays hG1 ho hk e2 (fun M' n f _ hS e => fin _ M' n (by unfold cd; rw [if_pos c]) f hS e)
  · exact sp_layWeeks hG1 ho hk e2 (fun M' n f _ hS e => fin _ M' n (by unfold cd; rw [if_neg (by omega), if_pos c]) f hS e)
  · exact sp_layMonths hG1 ho hk e2 (by omega) (fun M' n f _ hS e => fin _ M' n (by unfold cd; rw [if_neg c.1, if_neg c.2]) f hS e)
theorem sp_laidOut {M : jT} {m : Int} {G : Int → Int} {Q : Int → jT → Prop} (hm : 0 ≤ m ∧ m < 10) (hG : GEq M (2 * m + 28) G) (ho : GOk G) (hr : rg (M (3 * m + 570) 0)) (hf : M (3 * m + 570) 0 ≠ 0 → PL M (3 * m + 570) G)
    (kk : ∀ M', (∀ a, a ≠ 3 * m + 570 → a ≠ 3 * m + 571 → M' a = M a) → (∀ b, b ≠ 0 → b ≠ 2 → M' (3 * m + 570) b = M (3 * m + 570) b) → (M (3 * m + 570) 0 ≠ 0 → M' = M) → rg (M' (3 * m + 570) 0) → M' (3 * m + 570) 0 ≠ 0 → PL M' (3 * m + 570) G → Q (3 * m + 570) M') : wp_X10_laidOut M 0 m Q := by
  unfold wp_X10_laidOut
  simp only [Int.zero_add]
  refine ⟨hm, fun M' => Q (3 * m + 570) M', fun _ q => q, hr, fun c => kk M (fun _ _ _ => rfl) (fun _ _ _ => rfl) (fun _ => rfl) hr c (hf c), fun c => ?_⟩
  refine sp_layOut hG ho (by omega) (fun M' k1 k2 k3 k4 => ?_)
  exact kk M' (fun a a1 a2 => k1 a a1 (by omega)) k2 (fun q => absurd c q) (by rw [k3]; omega) (by rw [k3]; omega) k4
/-! the reference -/
def GR (M : jT) (m : Int) (G : Int → Int) : Prop := ∀ i, 0 ≤ i → i < 89 → M 609 (404 + 89 * m + i) = G i
theorem GR.at' {M : jT} {m p i : Int} {G : Int → Int} (h : GR M m G) (h0 : 0 ≤ i ∧ i < 89) (hp : p = 404 + 89 * m + i) : M 609 p = G i := by
  rw [hp]; exact h i h0.1 h0.2
theorem GR.mv {M M' : jT} {m : Int} {G : Int → Int} (h : GR M m G) (e : M' 609 = M 609) : GR M' m G := by unfold GR; rw [e]; exact h
def Fr3 (M M' : jT) : Prop := (∀ a, a ≠ 608 → a ≠ 627 → M' a = M a) ∧ (∀ b, b ≠ 33 → M' 608 b = M 608 b)
theorem Fr3.trans {M M1 M2 : jT} (a : Fr3 M M1) (b : Fr3 M1 M2) : Fr3 M M2 := ⟨fun x h1 h2 => (b.1 x h1 h2).trans (a.1 x h1 h2), fun x h1 => (b.2 x h1).trans (a.2 x h1)⟩
def RSt (M : jT) (many : Int) (c : Nat → Int) (n : Nat) : Prop := M 608 33 = (ap many c n).1 ∧ ∀ i, 0 ≤ i → i < (ap many c n).1 → M 627 i = (ap many c n).2 i
def RLs (M : jT) (G : Int → Int) : Prop := M 608 33 = nD G ∧ ∀ i, 0 ≤ i → i < nD G → M 627 i = dO G i
theorem RLs.mv {M M' : jT} {G : Int → Int} (h : RLs M G) (h2 : M' 608 33 = M 608 33) (h1 : M' 627 = M 627) : RLs M' G := by unfold RLs; rw [h2, h1]; exact h
theorem mAt {m : Int} : pf_X11_meetingAt m = 404 + 89 * m := rfl
theorem sp_fifth {M : jT} {mo w : Int} {Q : Int → Prop} (h : 0 ≤ mo ∧ mo < 384) (hw : 0 ≤ w ∧ w ≤ 6) (k : Q (if wF (mD (mo / 12) (mo % 12 + 1)) w + 28 < mD (mo / 12) (mo % 12 + 1) + mL (mo / 12) (mo % 12 + 1) then wF (mD (mo / 12) (mo % 12 + 1)) w + 28 else -1)) : wp_X11_fifth M mo w Q := by
  have hx : 0 ≤ mo / 12 ∧ mo / 12 ≤ 31 := by omega
  have hx2 : 1 ≤ mo % 12 + 1 ∧ mo % 12 + 1 ≤ 12 := by omega
  have hD := mD_rng hx hx2
  have hLn := mL_rng (y := mo / 12) hx2
  have hwF := wF_rng (d := mD (mo / 12) (mo % 12 + 1)) (w := w) (by omega) hw
  unfold wp_X11_fifth
  refine ⟨by omega, sp_dayBy hx hx2 (Or.inr (Or.inl (by omega))) ?_⟩
  have e : dB (mo / 12) (mo % 12 + 1) (400 + w) = wF (mD (mo / 12) (mo % 12 + 1)) w + 21 := by
    unfold dB
    rw [if_neg (by omega), if_pos (by omega), show (400 + w) % 100 = w by omega, show (400 + w) / 100 - 1 = 3 by omega, if_pos (by omega)]
    omega
  rw [e]
  intro x4 e4
  refine sp_monthDay hx hx2 ⟨pg_rmL (by omega) hx2, ?_⟩
  rw [pf_rmL hx2]
  refine ⟨⟨⟨by omega, by omega⟩, ⟨by omega, by omega⟩, fun _ => trivial, fun _ => trivial⟩, ?_⟩
  intro x13 a1 a2
  have : x13 = if wF (mD (mo / 12) (mo % 12 + 1)) w + 28 < mD (mo / 12) (mo % 12 + 1) + mL (mo / 12) (mo % 12 + 1) then wF (mD (mo / 12) (mo % 12 + 1)) w + 28 else -1 := by
    split
    · rw [a2 (by omega)]; omega
    · rw [a1 (by omega)]
  rw [this]; exact k
theorem sp_lists {M : jT} {m : Int} {G : Int → Int} {Q : jT → Prop} (hm : 0 ≤ m ∧ m < 10) (hG : GR M m G) (ho : GOk G)
    (kk : ∀ M', Fr3 M M' → RLs M' G → Q M') : wp_X11_lists M 608 m Q := by
  have ho1 := ho.1
  have ho5 := ho.2.2.2.2.1
  have ho6 := ho.2.2.2.2.2.1
  have ho7 := ho.2.2.2.2.2.2.1
  have ho8 := ho.2.2.2.2.2.2.2.1
  unfold wp_X11_lists
  simp only [Int.reduceAdd]
  intro x3 e3
  rw [mAt] at e3
  rw [hG.at' (p := x3 + 1) (i := 1) (by omega) (by omega), hG.at' (p := x3 + 5) (i := 5) (by omega) (by omega), hG.at' (p := x3 + 7) (i := 7) (by omega) (by omega)]
  refine ⟨by omega, ?_⟩
  intro x5 e5
  refine ⟨by omega, ?_⟩
  intro x7 e7
  refine ⟨by omega, ?_⟩
  intro x9 e9
  refine up_in fun M10 h10 => ?_
  have f10 : Fr3 M M10 := ⟨fun a a1 _ => funext fun b => by rw [h10, if_neg (by omega)], fun b b1 => by rw [h10, if_neg (by omega)]⟩
  have hG10 := hG.mv (f10.1 609 (by omega) (by omega))
  have e33 : M10 608 33 = 0 := by rw [h10, if_pos ⟨rfl, rfl⟩]
  have S0 : ∀ c, RSt M10 (G 5) c 0 := fun c => ⟨e33, fun i a b => by simp only [ap] at b; omega⟩
  rw [hG10.at' (p := x3 + 6) (i := 6) (by omega) (by omega)]
  have fin : ∀ (c : Nat → Int) (M' : jT) (n : Nat), cd G = c → Fr3 M M' → RSt M' (G 5) c n → n ≤ 12600 → ((G 5) ≤ (ap (G 5) c n).1 ∨ ∀ j, n ≤ j → c j < 0) → Q M' := by
    intro c M' n hc f hS hn hst
    refine kk M' f ?_
    unfold RLs nD dO; rw [hc, ap_end hn hst]; exact hS
  have app : ∀ (c : Nat → Int) (M1 : jT) (n : Nat) (d : Int), Fr3 M M1 → RSt M1 (G 5) c n → c n = d → 0 ≤ d → M1 608 33 < G 5 → ∀ M34 M36 : jT, (∀ a b, M34 a b = if a = 608 ∧ b = 33 then M1 608 33 + 1 else M1 a b) → (∀ a b, M36 a b = if a = 627 ∧ b = M1 608 33 then d else M34 a b) → Fr3 M M36 ∧ RSt M36 (G 5) c (n + 1) := by
    intro c M1 n d f hS hd d0 hlt M34 M36 h34 h36
    obtain ⟨s1, s2⟩ := hS
    refine ⟨f.trans ⟨fun a a1 a2 => funext fun b => by rw [h36, if_neg (by omega), h34, if_neg (by omega)], fun b b1 => by rw [h36, if_neg (by omega), h34, if_neg (by omega)]⟩, ?_⟩
    have e : ap (G 5) c (n + 1) = ((ap (G 5) c n).1 + 1, upr (ap (G 5) c n).2 (ap (G 5) c n).1 d) := by simp only [ap]; rw [if_pos ⟨by omega, by omega⟩, hd]
    unfold RSt; rw [e]
    refine ⟨by rw [h36, if_neg (by omega), h34, if_pos ⟨rfl, rfl⟩, s1], fun i i0 i1 => ?_⟩
    simp only [] at i1 ⊢
    unfold upr
    rw [h36, s1]
    by_cases q : i = (ap (G 5) c n).1
    · rw [if_pos ⟨rfl, q⟩, if_pos q]
    · rw [if_neg (by omega), if_neg q, h34, if_neg (by omega)]; exact s2 i i0 (by omega)
  refine ⟨by omega, ⟨by omega, by omega⟩, fun c6 => ?_, fun c6 => ?_, fun c6 => ?_⟩
  · have hcd : cd G = c0 G := by unfold cd; rw [if_pos c6]
    refine ⟨fun n x M15 => ∃ i : Nat, x = G 1 + (i : Int) * G 7 ∧ i ≤ 12000 ∧ (11800 - x).toNat ≤ n ∧ Fr3 M M15 ∧ RSt M15 (G 5) (c0 G) i, ⟨(11800 - x5).toNat, 0, by simp; omega, by omega, by omega, f10, S0 _⟩, ?_⟩
    rintro n17 x14 M15 ⟨i, ex, i1, i2, f, hS⟩
    have hr := ap_rng (many := G 5) (c := c0 G) (by omega) i
    have hmu := mu_le (a := G 7) (w := i) (v := 12000) (by omega) (by omega) (by omega)
    have hmu2 := mu_le (a := (12000 : Int)) (w := G 7) (v := 60) (by omega) (by omega) (by omega)
    rw [Int.mul_comm (G 7), Int.mul_comm (G 7)] at hmu
    have hs1 := hS.1
    rw [hs1]
    refine ⟨(11688 ≤ x14 ∨ G 5 ≤ (ap (G 5) (c0 G) i).1), fun hst => fin _ M15 i hcd f hS (by omega) ?_, ⟨by omega, by omega⟩, fun c => Or.inl c, fun c => ⟨⟨by omega, by omega⟩, ⟨by omega, by omega⟩, fun c2 => Or.inr (by omega), fun c2 => ?_⟩⟩
    · rcases hst with h | h
      · exact Or.inr (fun j hj => c0_mono ho hj (by omega))
      · exact Or.inl h
    · refine up_in fun M34 h34 => ⟨by omega, up_in fun M36 h36 => ?_⟩
      intro x37 e37
      have hA := app (c0 G) M15 i x14 f hS (by unfold c0; rw [if_pos (by omega), ex]) (by omega) (by omega) M34 M36 (by rw [hs1]; exact h34) (by rw [hs1]; exact h36)
      have em : ((i + 1 : Nat) : Int) * G 7 = (i : Int) * G 7 + G 7 := by rw [show ((i + 1 : Nat) : Int) = (i : Int) + 1 by omega, Int.add_mul, Int.one_mul]
      exact ⟨(11800 - x37).toNat, by omega, i + 1, by omega, by omega, by omega, hA.1, hA.2⟩
  · have hcd : cd G = c1 G := by unfold cd; rw [if_neg (by omega), if_pos c6]
    refine ⟨by unfold pg_X11_weekday; exact ⟨by omega, trivial⟩, ?_⟩
    intro x42 e42
    have e42 : x42 = x5 - (x5 + 5) % 7 := e42
    rw [e5] at e42
    refine ⟨fun n x M44 => ∃ w : Nat, x = x42 + 7 * (G 7 * (w : Int)) ∧ w ≤ 1700 ∧ (12200 - x).toNat ≤ n ∧ Fr3 M M44 ∧ RSt M44 (G 5) (c1 G) (7 * w), ⟨(12200 - x42).toNat, 0, by simp, by omega, by omega, f10, S0 _⟩, ?_⟩
    rintro n46 x43 M44 ⟨w, ex, w1, w2, f, hS⟩
    have hmw := mu_le (a := G 7) (w := w) (v := 1700) (by omega) (by omega) (by omega)
    refine ⟨⟨by omega, by omega⟩, fun c => fin _ M44 (7 * w) hcd f hS (by omega) (Or.inr (fun j hj => c1_late ho hj (by omega))), fun c => ?_⟩
    refine ⟨fun n x M50 => ∃ d : Nat, x = d ∧ d ≤ 7 ∧ 7 - d ≤ n ∧ Fr3 M M50 ∧ RSt M50 (G 5) (c1 G) (7 * w + d), ⟨7, 0, rfl, by omega, by omega, f, hS⟩, ?_⟩
    rintro n52 x49 M50 ⟨d, rfl, d1, d2, f50, hS50⟩
    have hG50 := hG.mv (f50.1 609 (by omega) (by omega))
    have hr := ap_rng (many := G 5) (c := c1 G) (by omega) (7 * w + d)
    have hs1 := hS50.1
    rw [hG50.at' (p := x3 + 8) (i := 8) (by omega) (by omega), hs1]
    refine ⟨⟨by omega, by omega⟩, fun c3 => ?_, fun c3 => ⟨by omega, by omega, ⟨by omega, by omega⟩, ?_⟩⟩
    · intro x55 e55
      have em : G 7 * ((w + 1 : Nat) : Int) = G 7 * (w : Int) + G 7 := by rw [show ((w + 1 : Nat) : Int) = (w : Int) + 1 by omega, Int.mul_add, Int.mul_one]
      refine ⟨(12200 - x55).toNat, by omega, w + 1, by omega, by omega, by omega, f50, ?_⟩
      rw [show 7 * (w + 1) = 7 * w + d by omega]; exact hS50
    · have e1 : (7 * w + d) / 7 = w := by omega
      have e2 : (7 * w + d) % 7 = d := by omega
      have ewk : wkD G (7 * w + d) = x43 + d := by unfold wkD; rw [e1, e2]; omega
      have skip : ¬ (0 ≤ c1 G (7 * w + d) ∧ (ap (G 5) (c1 G) (7 * w + d)).1 < G 5) → Fr3 M M50 ∧ RSt M50 (G 5) (c1 G) (7 * w + d + 1) := by
        intro q
        have e : ap (G 5) (c1 G) (7 * w + d + 1) = ap (G 5) (c1 G) (7 * w + d) := by simp only [ap]; rw [if_neg q]
        unfold RSt; rw [e]; exact ⟨f50, hS50⟩
      refine ⟨fun M' => Fr3 M M' ∧ RSt M' (G 5) (c1 G) (7 * w + d + 1), ?_, ⟨by omega, by omega⟩, fun c4 => ?_, fun c4 => ⟨⟨by omega, by omega⟩, ⟨by omega, by omega⟩, fun c5 => ?_, fun c5 => ⟨fun c7 => ?_, fun c7 => ⟨⟨by omega, by omega⟩, ⟨by omega, by omega⟩, fun c8 => ?_, fun c8 => ?_⟩⟩⟩⟩
      · rintro M' ⟨k1, k2⟩
        intro x74 e74
        exact ⟨7 - (d + 1), by omega, d + 1, by omega, by omega, by omega, k1, k2⟩
      · refine skip (fun q => ?_)
        have : c1 G (7 * w + d) = -1 := by unfold c1; rw [e2, if_neg (fun z => z.1 c4)]
        omega
      · refine skip (fun q => ?_)
        have : c1 G (7 * w + d) = -1 := by unfold c1; rw [e2, ewk, if_neg (fun z => by omega)]
        omega
      · refine skip (fun q => ?_)
        have : c1 G (7 * w + d) = -1 := by unfold c1; rw [e2, ewk, if_neg (fun z => by omega)]
        omega
      · refine up_in fun M85 h85 => ⟨by omega, up_in fun M87 h87 => ?_⟩
        exact app (c1 G) M50 (7 * w + d) (x43 + d) f50 hS50 (by unfold c1; rw [e2, ewk, if_pos ⟨c4, by omega, by omega⟩]) (by omega) (by omega) M85 M87 (by rw [hs1]; exact h85) (by rw [hs1]; exact h87)
      · exact skip (fun q => by omega)
  · have hcd : cd G = c2 G := by unfold cd; rw [if_neg c6.1, if_neg c6.2]
    have hy := yO_rng ho1
    have hmo := mO_rng (y := yO (G 1)) (d := G 1)
    have hm0 := m0_rng ho
    have hix := ix_rng ho
    rw [e5]
    refine ⟨fun x97 => x97 = if G 6 = 2 then ix G + 1 else 100 * (ix G / 7 + 1) + (G 1 + 5) % 7, ?_, fun c => ?_, fun c => ?_⟩
    · intro x97 e97
      refine sp_yearOf ho1 (sp_monthOf ho1 ?_)
      intro x103 e103
      have e103 : x103 = m0 G := e103
      refine ⟨fun n x M105 => ∃ j : Nat, x = m0 G + G 7 * (j : Int) ∧ j ≤ 500 ∧ (500 - x).toNat ≤ n ∧ Fr3 M M105 ∧ RSt M105 (G 5) (c2 G) j, ⟨(500 - m0 G).toNat, 0, by simp; exact e103, by omega, by omega, f10, S0 _⟩, ?_⟩
      rintro n107 x104 M105 ⟨j, ex, j1, j2, f, hS⟩
      have hr := ap_rng (many := G 5) (c := c2 G) (by omega) j
      have hmj := mu_le (a := G 7) (w := j) (v := 500) (by omega) (by omega) (by omega)
      have hs1 := hS.1
      rw [hs1]
      refine ⟨(384 ≤ x104 ∨ G 5 ≤ (ap (G 5) (c2 G) j).1), fun hst => fin _ M105 j hcd f hS (by omega) ?_, ⟨by omega, by omega⟩, fun c => Or.inl c, fun c => ⟨⟨by omega, by omega⟩, ⟨by omega, by omega⟩, fun c2' => Or.inr (by omega), fun c2' => ?_⟩⟩
      · rcases hst with h | h
        · refine Or.inr (fun i hi => ?_)
          have := mu_le (a := G 7) (w := j) (v := i) (by omega) (by omega) (by omega)
          unfold c2; rw [if_neg (by omega)]; omega
        · exact Or.inl h
      · have hx : 0 ≤ x104 / 12 ∧ x104 / 12 ≤ 31 := by omega
        have hx2 : 1 ≤ x104 % 12 + 1 ∧ x104 % 12 + 1 ≤ 12 := by omega
        have hD := mD_rng hx hx2
        have hLn := mL_rng (y := x104 / 12) hx2
        have hc2 : c2 G j = cM G x104 := by unfold c2; rw [if_pos (by omega), ex]
        have hcr := cM_rng ho (mo := x104) (by omega)
        have h97 : 1 ≤ x97 ∧ x97 ≤ 600 := by rw [e97]; split <;> omega
        refine ⟨⟨⟨by omega, by omega⟩, ⟨by omega, by omega⟩, fun _ => trivial, fun _ => ⟨⟨by omega, by omega⟩, fun _ => trivial, fun _ => trivial⟩⟩, ?_⟩
        refine ⟨fun x162 => x162 = cM G x104, ?_, fun c4 => ⟨by omega, ?_⟩, fun c4 => ⟨by omega, ?_⟩⟩
        · intro x162 e162
          refine ⟨fun M' => Fr3 M M' ∧ RSt M' (G 5) (c2 G) (j + 1), ?_, ⟨by omega, by omega⟩, fun c5 => ?_, fun c5 => ?_⟩
          · rintro M' ⟨k1, k2⟩
            intro x171 e171
            have em : G 7 * ((j + 1 : Nat) : Int) = G 7 * (j : Int) + G 7 := by rw [show ((j + 1 : Nat) : Int) = (j : Int) + 1 by omega, Int.mul_add, Int.mul_one]
            exact ⟨(500 - x171).toNat, by omega, j + 1, by omega, by omega, by omega, k1, k2⟩
          · have e : ap (G 5) (c2 G) (j + 1) = ap (G 5) (c2 G) j := by simp only [ap]; rw [if_neg (by omega)]
            unfold RSt; rw [e]; exact ⟨f, hS⟩
          · refine up_in fun M175 h175 => ⟨by omega, up_in fun M177 h177 => ?_⟩
            exact app (c2 G) M105 j x162 f hS (by omega) c5 (by omega) M175 M177 (by rw [hs1]; exact h175) (by rw [hs1]; exact h177)
        · have c4 : ¬ (500 ≤ x97 ∧ x97 ≤ 506) := c4
          have hdt : dtOk x97 := by
            unfold dtOk
            rw [e97] at c4 ⊢
            split at c4
            · rename_i q; rw [if_pos q]; omega
            · rename_i q; rw [if_neg q]; omega
          refine sp_dayBy hx hx2 hdt ?_
          unfold cM dB
          rw [e97] at c4 ⊢
          by_cases q : G 6 = 2
          · rw [if_pos q] at c4
            rw [if_pos q, if_pos q, if_pos (by omega)]
            split
            · rw [if_pos (by omega)]; omega
            · rw [if_neg (by omega)]
          · rw [if_neg q] at c4
            rw [if_neg q, if_neg q, if_neg (by omega), if_pos (by omega), show (100 * (ix G / 7 + 1) + (G 1 + 5) % 7) % 100 = (G 1 + 5) % 7 by omega, show (100 * (ix G / 7 + 1) + (G 1 + 5) % 7) / 100 - 1 = ix G / 7 by omega, Int.mul_comm 7]
        · have c4 : 500 ≤ x97 ∧ x97 ≤ 506 := c4
          have hw : 0 ≤ x97 % 100 ∧ x97 % 100 ≤ 6 := by omega
          refine sp_fifth (by omega) hw ?_
          unfold cM
          rw [e97] at c4 ⊢
          by_cases q : G 6 = 2
          · rw [if_pos q] at c4; omega
          · rw [if_neg q] at c4
            rw [if_neg q, if_neg q, show (100 * (ix G / 7 + 1) + (G 1 + 5) % 7) % 100 = (G 1 + 5) % 7 by omega, show ix G / 7 * 7 = 28 by omega]
    · refine sp_dayOfMonth ho1 ⟨by have : G 1 - mD (yO (G 1)) (mO (yO (G 1)) (G 1)) = ix G := rfl; omega, by unfold pg_X11_weekday; exact ⟨by omega, trivial⟩, ?_⟩
      rw [if_neg c]
      have : G 1 - mD (yO (G 1)) (mO (yO (G 1)) (G 1)) = ix G := rfl
      rw [this, show ix G + 1 - 1 = ix G by omega]; rfl
    · refine sp_dayOfMonth ho1 ?_
      rw [if_pos c]; rfl
