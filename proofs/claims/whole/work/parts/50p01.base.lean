/-! pure side: reading of a changed memory, counting, sorted rows -/
theorem up_at (M : jT) (k j v a b : Int) : up M k j v a b = if a = k ∧ b = j then v else M a b := by
  unfold up upr
  by_cases h : a = k
  · subst h; simp
  · simp [h]
theorem up_ne {M : jT} {k j v a : Int} (h : a ≠ k) : up M k j v a = M a := by
  unfold up; rw [if_neg h]
theorem up_row {M : jT} {k j v : Int} : up M k j v k = upr (M k) j v := by
  unfold up; rw [if_pos rfl]
theorem upw_at (M : jT) (k : Int) (r : Int → Int) (a : Int) : upw M k r a = if a = k then r else M a := rfl
theorem upw_ne {M : jT} {k a : Int} {r : Int → Int} (h : a ≠ k) : upw M k r a = M a := by
  unfold upw; rw [if_neg h]
theorem upw_row {M : jT} {k : Int} {r : Int → Int} : upw M k r k = r := by
  unfold upw; rw [if_pos rfl]
theorem upr_at (r : Int → Int) (j v b : Int) : upr r j v b = if b = j then v else r b := rfl
theorem upr_eq {r : Int → Int} {j v : Int} : upr r j v j = v := by unfold upr; rw [if_pos rfl]
theorem upr_ne {r : Int → Int} {j v b : Int} (h : b ≠ j) : upr r j v b = r b := by unfold upr; rw [if_neg h]
theorem cpy_at (f g : Int → Int) (sp dp n j : Int) : cpy f g sp dp n j = if dp ≤ j ∧ j < dp + n then f (sp + (j - dp)) else g j := rfl
def cnt (f : Int → Int) : Nat → Int → Nat
  | 0, _ => 0
  | n + 1, v => cnt f n v + (if f (n : Int) = v then 1 else 0)
theorem cnt_congr {f g : Int → Int} : ∀ {n : Nat}, (∀ i : Nat, i < n → f i = g i) → ∀ v, cnt f n v = cnt g n v
  | 0, _, _ => rfl
  | n + 1, h, v => by
    show cnt f n v + _ = cnt g n v + _
    rw [cnt_congr (n := n) (fun i hi => h i (by omega)) v, h n (by omega)]
theorem cnt_upd (f : Int → Int) (i : Nat) (w v : Int) : ∀ n : Nat, i < n → cnt (upr f i w) n v + (if f i = v then 1 else 0) = cnt f n v + (if w = v then 1 else 0)
  | 0, h => by omega
  | n + 1, h => by
    show cnt (upr f i w) n v + (if upr f i w n = v then 1 else 0) + _ = cnt f n v + (if f n = v then 1 else 0) + _
    by_cases e : i = n
    · subst e
      rw [cnt_congr (f := upr f i w) (g := f) (fun j hj => upr_ne (by omega)) v, upr_eq]
      omega
    · have h1 := cnt_upd f i w v n (by omega)
      rw [upr_ne (b := (n : Int)) (by omega)]
      omega
theorem cnt_pos {f : Int → Int} {v : Int} : ∀ {n : Nat}, 0 < cnt f n v ↔ ∃ i : Nat, i < n ∧ f i = v
  | 0 => by simp [cnt]
  | n + 1 => by
    have ih := cnt_pos (f := f) (v := v) (n := n)
    show 0 < cnt f n v + (if f n = v then 1 else 0) ↔ _
    by_cases e : f n = v
    · rw [if_pos e]
      exact ⟨fun _ => ⟨n, by omega, e⟩, fun _ => by omega⟩
    · rw [if_neg e, Nat.add_zero, ih]
      constructor
      · rintro ⟨i, h1, h2⟩; exact ⟨i, by omega, h2⟩
      · rintro ⟨i, h1, h2⟩
        have : i ≠ n := fun q => e (q ▸ h2)
        exact ⟨i, by omega, h2⟩
/-- sorted, and a rearrangement, of the first n places -/
def Srt (f : Int → Int) (n : Int) : Prop := ∀ p q : Int, 0 ≤ p → p < q → q < n → f p ≤ f q
def Prm (f g : Int → Int) (n : Int) : Prop := ∀ v, cnt f n.toNat v = cnt g n.toNat v
theorem Prm.rfl {f : Int → Int} {n : Int} : Prm f f n := fun _ => Eq.refl _
theorem Prm.trans {f g h : Int → Int} {n : Int} (a : Prm f g n) (b : Prm g h n) : Prm f h n := fun v => (a v).trans (b v)
theorem Prm.of_eq {f g : Int → Int} {n : Int} (h : ∀ i, 0 ≤ i → i < n → f i = g i) : Prm f g n := fun v => cnt_congr (fun i hi => h i (by omega) (by omega)) v
theorem Prm.ex {f g : Int → Int} {n : Int} (a : Prm f g n) {i : Int} (h0 : 0 ≤ i) (h1 : i < n) : ∃ j, 0 ≤ j ∧ j < n ∧ g j = f i := by
  have h : 0 < cnt f n.toNat (f i) := cnt_pos.mpr ⟨i.toNat, by omega, by rw [Int.toNat_of_nonneg h0]⟩
  rw [a] at h
  obtain ⟨j, h2, h3⟩ := cnt_pos.mp h
  exact ⟨j, by omega, by omega, h3⟩
theorem Prm.swap {f : Int → Int} {n i j w : Int} (i0 : 0 ≤ i) (i1 : i < n) (j0 : 0 ≤ j) (j1 : j < n) : Prm (upr (upr f i (f j)) j w) (upr f i w) n := by
  intro v
  have a := cnt_upd (upr f i (f j)) j.toNat w v n.toNat (by omega)
  have b := cnt_upd f i.toNat (f j) v n.toNat (by omega)
  have c := cnt_upd f i.toNat w v n.toNat (by omega)
  rw [Int.toNat_of_nonneg j0] at a
  rw [Int.toNat_of_nonneg i0] at b c
  have e : upr f i (f j) j = f j := by
    unfold upr; split <;> simp_all
  rw [e] at a
  omega
theorem srt_uniq : ∀ (n : Nat) {f g : Int → Int}, Srt f n → Srt g n → (∀ v, cnt f n v = cnt g n v) → ∀ i : Nat, i < n → f i = g i
  | 0, _, _, _, _, _, i, hi => by omega
  | n + 1, f, g, hf, hg, hc, i, hi => by
    have key : f n = g n := by
      have h1 : 0 < cnt g (n + 1) (f n) := by rw [← hc]; exact cnt_pos.mpr ⟨n, by omega, rfl⟩
      have h2 : 0 < cnt f (n + 1) (g n) := by rw [hc]; exact cnt_pos.mpr ⟨n, by omega, rfl⟩
      obtain ⟨a, a1, a2⟩ := cnt_pos.mp h1
      obtain ⟨b, b1, b2⟩ := cnt_pos.mp h2
      have h3 : g a ≤ g n := by
        by_cases q : a = n
        · rw [q]; exact Int.le_refl _
        · exact hg a n (by omega) (by omega) (by omega)
      have h4 : f b ≤ f n := by
        by_cases q : b = n
        · rw [q]; exact Int.le_refl _
        · exact hf b n (by omega) (by omega) (by omega)
      omega
    by_cases q : i = n
    · rw [q]; exact key
    · refine srt_uniq n (fun p q a b c => hf p q a b (by omega)) (fun p q a b c => hg p q a b (by omega)) (fun v => ?_) i (by omega)
      have := hc v
      change cnt f n v + (if f n = v then 1 else 0) = cnt g n v + (if g n = v then 1 else 0) at this
      rw [key] at this
      omega
theorem Srt.uniq {f g : Int → Int} {n : Int} (hf : Srt f n) (hg : Srt g n) (hc : Prm f g n) {i : Int} (h0 : 0 ≤ i) (h1 : i < n) : f i = g i := by
  have h := srt_uniq n.toNat (f := f) (g := g) (by rw [Int.toNat_of_nonneg (by omega)]; exact hf) (by rw [Int.toNat_of_nonneg (by omega)]; exact hg) hc i.toNat (by omega)
  rw [Int.toNat_of_nonneg h0] at h
  exact h
theorem sp_sortKeys {M : jT} {a0 a1 : Int} {Q : jT → Prop} (h1 : 0 ≤ a1 ∧ a1 ≤ 260) (hr : ∀ i, 0 ≤ i → i < a1 → rl (M a0 i))
    (k : ∀ M', (∀ a, a ≠ a0 → M' a = M a) → Srt (M' a0) a1 → Prm (M' a0) (M a0) a1 → Q M') : wp_X10_sortKeys M a0 a1 Q := by
  unfold wp_X10_sortKeys
  refine ⟨⟨by omega, by omega⟩, ?_⟩
  intro x2 e2
  have e2 : x2 = a1 := by omega
  subst e2
  refine ⟨⟨by omega, by omega⟩, ?_⟩
  intro x4 e4
  have hR : ∀ f : Int → Int, Prm f (M a0) x2 → ∀ i, 0 ≤ i → i < x2 → rl (f i) := by
    intro f hf i i0 i1
    obtain ⟨j, j0, j1, e⟩ := hf.ex i0 i1
    rw [← e]; exact hr j j0 j1
  refine ⟨fun n g M6 => 0 ≤ g ∧ g ≤ x2 ∧ g.toNat ≤ n ∧ (∀ a, a ≠ a0 → M6 a = M a) ∧ Prm (M6 a0) (M a0) x2 ∧ (g = 0 → Srt (M6 a0) x2), ⟨x4.toNat, by omega, by omega, by omega, fun _ _ => rfl, Prm.rfl, fun q p r p0 p1 p2 => by omega⟩, ?_⟩
  rintro n5 x5 M6 ⟨g0, gx, gn, hF, hP, hS⟩
  refine ⟨⟨by omega, by omega⟩, fun q => k M6 hF (hS (by omega)) hP, fun q => ?_⟩
  refine ⟨fun n i M12 => (x2 - i).toNat ≤ n ∧ x5 ≤ i ∧ i ≤ x2 ∧ (∀ a, a ≠ a0 → M12 a = M a) ∧ Prm (M12 a0) (M a0) x2 ∧ (x5 = 1 → Srt (M12 a0) i), ⟨(x2 - x5).toNat, by omega, by omega, by omega, hF, hP, fun q p r p0 p1 p2 => by omega⟩, ?_⟩
  rintro n14 x11 M12 ⟨gn, g1, g2, hF, hP, hS⟩
  refine ⟨⟨by omega, by omega⟩, ⟨by omega, by omega⟩, fun q1 => ⟨⟨by omega, by omega⟩, ?_⟩, fun q1 => ⟨⟨by omega, by omega⟩, ?_⟩⟩
  · intro x19 e19
    refine ⟨x19.toNat, by omega, by omega, by omega, by omega, hF, hP, fun e0 => ?_⟩
    have hS := hS (by omega)
    rw [show x2 = x11 by omega]; exact hS
  · intro x22 e22
    refine ⟨fun n h M24 => h.toNat ≤ n ∧ 0 ≤ h ∧ h ≤ x11 ∧ (∀ a, a ≠ a0 → M24 a = M a) ∧ Prm (upr (M24 a0) h x22) (M a0) x2 ∧ (x5 = 1 → (∀ p q, 0 ≤ p → p < q → q ≤ x11 → p ≠ h → q ≠ h → M24 a0 p ≤ M24 a0 q) ∧ ∀ q, h < q → q ≤ x11 → x22 ≤ M24 a0 q), ⟨x11.toNat, by omega, by omega, by omega, hF, ?_, fun e1 => ⟨fun p r p0 p1 p2 p3 p4 => hS e1 p r p0 p1 (by omega), fun r p0 p1 => by omega⟩⟩, ?_⟩
    · refine Prm.trans (Prm.of_eq fun i i0 i1 => ?_) hP
      by_cases c : i = x11
      · rw [c, e22, upr_eq]
      · rw [upr_ne c]
    · rintro n26 x23 M24 ⟨gn, h0, h2, hF, hP, hS⟩
      refine ⟨x23 < x5 ∨ M24 a0 (x23 - x5) ≤ x22, ?_, ⟨by omega, by omega⟩, fun c => Or.inl c, fun c => ?_⟩
      · intro hc
        refine ⟨⟨by omega, by omega⟩, ?_⟩
        intro M39 e39 x40 e40
        refine ⟨(x2 - x40).toNat, by omega, by omega, by omega, by omega, ?_, ?_, fun e1 => ?_⟩
        · intro a ha; rw [e39, up_ne ha]; exact hF a ha
        · rw [e39, up_row]; exact hP
        · rw [e39, up_row]
          obtain ⟨s1, s2⟩ := hS e1
          intro p r p0 p1 p2
          unfold upr
          by_cases c1 : p = x23
          · rw [if_pos c1, if_neg (by omega)]; exact s2 r (by omega) (by omega)
          · rw [if_neg c1]
            by_cases c2 : r = x23
            · rw [if_pos c2]
              have c3 : M24 a0 (x23 - x5) ≤ x22 := by omega
              by_cases c4 : p = x23 - x5
              · rw [c4]; exact c3
              · exact Int.le_trans (s1 p (x23 - x5) p0 (by omega) (by omega) c1 (by omega)) c3
            · rw [if_neg c2]; exact s1 p r p0 p1 (by omega) c1 c2
      · have r1 := hR _ hP (x23 - x5) (by omega) (by omega)
        rw [upr_ne (by omega)] at r1
        have r2 := hR _ hP x23 (by omega) (by omega)
        rw [upr_eq] at r2
        refine ⟨⟨by omega, by omega⟩, r1, r2, fun c1 => Or.inr c1, fun c1 => ⟨⟨by omega, by omega⟩, ?_⟩⟩
        intro M49 e49 x50 e50
        refine ⟨x50.toNat, by omega, by omega, by omega, by omega, ?_, ?_, fun e1 => ?_⟩
        · intro a ha; rw [e49, up_ne ha]; exact hF a ha
        · rw [e49, up_row, e50]; exact Prm.trans (Prm.swap (by omega) (by omega) (by omega) (by omega)) hP
        · obtain ⟨s1, s2⟩ := hS e1
          rw [e49, up_row]
          refine ⟨fun p r p0 p1 p2 p3 p4 => ?_, fun r p0 p1 => ?_⟩
          · unfold upr
            by_cases c2 : p = x23
            · rw [if_pos c2, if_neg (by omega)]
              exact s1 (x23 - x5) r (by omega) (by omega) p2 (by omega) (by omega)
            · rw [if_neg c2]
              by_cases c3 : r = x23
              · rw [if_pos c3]
                exact s1 p (x23 - x5) p0 (by omega) (by omega) c2 (by omega)
              · rw [if_neg c3]; exact s1 p r p0 p1 p2 c2 c3
          · unfold upr
            by_cases c3 : r = x23
            · rw [if_pos c3]; omega
            · rw [if_neg c3]; exact s2 r (by omega) p1
theorem sp_sortKeys_b {M : jT} {a0 a1 : Int} {Q : jT → Prop} (h1 : 0 ≤ a1 ∧ a1 ≤ 400) (hr : ∀ i, 0 ≤ i → i < a1 → rl (M a0 i))
    (k : ∀ M', (∀ a, a ≠ a0 → M' a = M a) → Srt (M' a0) a1 → Prm (M' a0) (M a0) a1 → Q M') : wp_X10_sortKeys_b M a0 a1 Q := by
  unfold wp_X10_sortKeys_b
  refine ⟨⟨by omega, by omega⟩, ?_⟩
  intro x2 e2
  have e2 : x2 = a1 := by omega
  subst e2
  refine ⟨⟨by omega, by omega⟩, ?_⟩
  intro x4 e4
  have hR : ∀ f : Int → Int, Prm f (M a0) x2 → ∀ i, 0 ≤ i → i < x2 → rl (f i) := by
    intro f hf i i0 i1
    obtain ⟨j, j0, j1, e⟩ := hf.ex i0 i1
    rw [← e]; exact hr j j0 j1
  refine ⟨fun n g M6 => 0 ≤ g ∧ g ≤ x2 ∧ g.toNat ≤ n ∧ (∀ a, a ≠ a0 → M6 a = M a) ∧ Prm (M6 a0) (M a0) x2 ∧ (g = 0 → Srt (M6 a0) x2), ⟨x4.toNat, by omega, by omega, by omega, fun _ _ => rfl, Prm.rfl, fun q p r p0 p1 p2 => by omega⟩, ?_⟩
  rintro n5 x5 M6 ⟨g0, gx, gn, hF, hP, hS⟩
  refine ⟨⟨by omega, by omega⟩, fun q => k M6 hF (hS (by omega)) hP, fun q => ?_⟩
  refine ⟨fun n i M12 => (x2 - i).toNat ≤ n ∧ x5 ≤ i ∧ i ≤ x2 ∧ (∀ a, a ≠ a0 → M12 a = M a) ∧ Prm (M12 a0) (M a0) x2 ∧ (x5 = 1 → Srt (M12 a0) i), ⟨(x2 - x5).toNat, by omega, by omega, by omega, hF, hP, fun q p r p0 p1 p2 => by omega⟩, ?_⟩
  rintro n14 x11 M12 ⟨gn, g1, g2, hF, hP, hS⟩
  refine ⟨⟨by omega, by omega⟩, ⟨by omega, by omega⟩, fun q1 => ⟨⟨by omega, by omega⟩, ?_⟩, fun q1 => ⟨⟨by omega, by omega⟩, ?_⟩⟩
  · intro x19 e19
    refine ⟨x19.toNat, by omega, by omega, by omega, by omega, hF, hP, fun e0 => ?_⟩
    have hS := hS (by omega)
    rw [show x2 = x11 by omega]; exact hS
  · intro x22 e22
    refine ⟨fun n h M24 => h.toNat ≤ n ∧ 0 ≤ h ∧ h ≤ x11 ∧ (∀ a, a ≠ a0 → M24 a = M a) ∧ Prm (upr (M24 a0) h x22) (M a0) x2 ∧ (x5 = 1 → (∀ p q, 0 ≤ p → p < q → q ≤ x11 → p ≠ h → q ≠ h → M24 a0 p ≤ M24 a0 q) ∧ ∀ q, h < q → q ≤ x11 → x22 ≤ M24 a0 q), ⟨x11.toNat, by omega, by omega, by omega, hF, ?_, fun e1 => ⟨fun p r p0 p1 p2 p3 p4 => hS e1 p r p0 p1 (by omega), fun r p0 p1 => by omega⟩⟩, ?_⟩
    · refine Prm.trans (Prm.of_eq fun i i0 i1 => ?_) hP
      by_cases c : i = x11
      · rw [c, e22, upr_eq]
      · rw [upr_ne c]
    · rintro n26 x23 M24 ⟨gn, h0, h2, hF, hP, hS⟩
      refine ⟨x23 < x5 ∨ M24 a0 (x23 - x5) ≤ x22, ?_, ⟨by omega, by omega⟩, fun c => Or.inl c, fun c => ?_⟩
      · intro hc
        refine ⟨⟨by omega, by omega⟩, ?_⟩
        intro M39 e39 x40 e40
        refine ⟨(x2 - x40).toNat, by omega, by omega, by omega, by omega, ?_, ?_, fun e1 => ?_⟩
        · intro a ha; rw [e39, up_ne ha]; exact hF a ha
        · rw [e39, up_row]; exact hP
        · rw [e39, up_row]
          obtain ⟨s1, s2⟩ := hS e1
          intro p r p0 p1 p2
          unfold upr
          by_cases c1 : p = x23
          · rw [if_pos c1, if_neg (by omega)]; exact s2 r (by omega) (by omega)
          · rw [if_neg c1]
            by_cases c2 : r = x23
            · rw [if_pos c2]
              have c3 : M24 a0 (x23 - x5) ≤ x22 := by omega
              by_cases c4 : p = x23 - x5
              · rw [c4]; exact c3
              · exact Int.le_trans (s1 p (x23 - x5) p0 (by omega) (by omega) c1 (by omega)) c3
            · rw [if_neg c2]; exact s1 p r p0 p1 (by omega) c1 c2
      · have r1 := hR _ hP (x23 - x5) (by omega) (by omega)
        rw [upr_ne (by omega)] at r1
        have r2 := hR _ hP x23 (by omega) (by omega)
        rw [upr_eq] at r2
        refine ⟨⟨by omega, by omega⟩, r1, r2, fun c1 => Or.inr c1, fun c1 => ⟨⟨by omega, by omega⟩, ?_⟩⟩
        intro M49 e49 x50 e50
        refine ⟨x50.toNat, by omega, by omega, by omega, by omega, ?_, ?_, fun e1 => ?_⟩
        · intro a ha; rw [e49, up_ne ha]; exact hF a ha
        · rw [e49, up_row, e50]; exact Prm.trans (Prm.swap (by omega) (by omega) (by omega) (by omega)) hP
        · obtain ⟨s1, s2⟩ := hS e1
          rw [e49, up_row]
          refine ⟨fun p r p0 p1 p2 p3 p4 => ?_, fun r p0 p1 => ?_⟩
          · unfold upr
            by_cases c2 : p = x23
            · rw [if_pos c2, if_neg (by omega)]
              exact s1 (x23 - x5) r (by omega) (by omega) p2 (by omega) (by omega)
            · rw [if_neg c2]
              by_cases c3 : r = x23
              · rw [if_pos c3]
                exact s1 p (x23 - x5) p0 (by omega) (by omega) c2 (by omega)
              · rw [if_neg c3]; exact s1 p r p0 p1 p2 c2 c3
          · unfold upr
            by_cases c3 : r = x23
            · rw [if_pos c3]; omega
            · rw [if_neg c3]; exact s2 r (by omega) p1
/-! a changed memory, told by its places -/
theorem up_sp {M M' : jT} {k j v : Int} (h : M' = up M k j v) : ∀ a b, M' a b = if a = k ∧ b = j then v else M a b := by
  intro a b; rw [h]; exact up_at M k j v a b
theorem up_in {M : jT} {k j v : Int} {P : jT → Prop} (h : ∀ M1 : jT, (∀ a b, M1 a b = if a = k ∧ b = j then v else M a b) → P M1) : ∀ M1 : jT, M1 = up M k j v → P M1 :=
  fun M1 e => h M1 (up_sp e)
theorem upw_in {M : jT} {k sp dp n : Int} {f g : Int → Int} {P : jT → Prop} (h : ∀ M1 : jT, (∀ a b, M1 a b = if a = k then (if dp ≤ b ∧ b < dp + n then f (sp + (b - dp)) else g b) else M a b) → P M1) : ∀ M1 : jT, M1 = upw M k (cpy f g sp dp n) → P M1 := by
  intro M1 e
  refine h M1 fun a b => ?_
  rw [e]; unfold upw
  split
  · exact cpy_at f g sp dp n b
  · rfl
theorem cnt_push {f g : Int → Int} {n : Nat} {w : Int} (h : ∀ i : Nat, i < n → g i = f i) (hw : g n = w) (v : Int) : cnt g (n + 1) v = cnt f n v + (if w = v then 1 else 0) := by
  show cnt g n v + (if g n = v then 1 else 0) = _
  rw [cnt_congr h, hw]
theorem cnt_ins {f g : Int → Int} {k : Nat} {w : Int} : ∀ {n : Nat}, k ≤ n → (∀ i : Nat, i < k → g i = f i) → g k = w → (∀ i : Nat, k < i → i ≤ n → g i = f ((i : Int) - 1)) → ∀ v, cnt g (n + 1) v = cnt f n v + (if w = v then 1 else 0) := by
  intro n
  induction n with
  | zero =>
    intro h0 h1 h2 h3 v
    have : k = 0 := by omega
    subst this
    exact cnt_push h1 h2 v
  | succ n ih =>
    intro h0 h1 h2 h3 v
    by_cases c : k = n + 1
    · subst c; exact cnt_push h1 h2 v
    · have h4 := ih (by omega) h1 h2 (fun i a b => h3 i a (by omega)) v
      show cnt g (n + 1) v + (if g ((n + 1 : Nat) : Int) = v then 1 else 0) = cnt f n v + (if f n = v then 1 else 0) + _
      rw [h4, h3 (n + 1) (by omega) (by omega), show (((n + 1 : Nat) : Int)) - 1 = n by omega]
      omega
