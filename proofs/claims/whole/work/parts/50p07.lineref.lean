/-! the reference: a zone's events and its line -/
def ZR (M : jT) (z : Int) (Z : Int → Int) : Prop := ∀ i, 0 ≤ i → i < 67 → M 609 (2 + 67 * z + i) = Z i
theorem ZR.at' {M : jT} {z p i : Int} {Z : Int → Int} (h : ZR M z Z) (h0 : 0 ≤ i ∧ i < 67) (hp : p = 2 + 67 * z + i) : M 609 p = Z i := by
  rw [hp]; exact h i h0.1 h0.2
theorem ZR.mv {M M' : jT} {z : Int} {Z : Int → Int} (h : ZR M z Z) (e : M' 609 = M 609) : ZR M' z Z := by unfold ZR; rw [e]; exact h
theorem zAt {z : Int} : pf_X11_zoneAt z = 2 + 67 * z := rfl
theorem rAt {z r : Int} : pf_X11_ruleAt z r = 2 + 67 * z + 3 + 7 * r := rfl
def sO (id : Int) : Int := if 100 ≤ id then id - 100 else id + 4
def idOk (id : Int) : Prop := (0 ≤ id ∧ id ≤ 7) ∨ (100 ≤ id ∧ id ≤ 103)
theorem sO_rng {id : Int} (h : idOk id) : 0 ≤ sO id ∧ sO id ≤ 11 := by unfold idOk at h; unfold sO; omega
theorem sO_id {id : Int} (h : idOk id) : idO (sO id) = id := by unfold idOk at h; unfold idO sO; omega
theorem rank_lt {a b : Int} (ha : idOk a) (hb : idOk b) : pf_X11_rank b < pf_X11_rank a ↔ sO b < sO a := by
  unfold idOk at ha hb; unfold pf_X11_rank sO; omega
theorem pg_rank {a : Int} (ha : idOk a) : pg_X11_rank a ∧ rg (pf_X11_rank a) := by
  unfold idOk at ha; unfold pg_X11_rank pf_X11_rank rg; simp only [implies_true, and_true, true_and]; omega
def kM (M : jT) : Int → Int := fun i => M 616 i * 16 + sO (M 617 i)
def EvOk (M : jT) (n : Int) : Prop := Srt (kM M) n ∧ ∀ i, 0 ≤ i → i < n → idOk (M 617 i) ∧ 0 ≤ M 616 i ∧ M 616 i ≤ 16830719
theorem sp_event {M : jT} {t id n : Int} {Q : jT → Prop} (hn : M 608 15 = n) (hn2 : 0 ≤ n ∧ n ≤ 260) (hE : EvOk M n) (ht : 0 ≤ t ∧ t ≤ 16830719) (hid : idOk id)
    (kk : ∀ M', (∀ a, a ≠ 608 → a ≠ 616 → a ≠ 617 → M' a = M a) → (∀ b, b ≠ 15 → M' 608 b = M 608 b) → M' 608 15 = n + 1 → EvOk M' (n + 1) → (∀ v, cnt (kM M') (n + 1).toNat v = cnt (kM M) n.toNat v + (if t * 16 + sO id = v then 1 else 0)) → Q M') : wp_X11_event M 608 t id Q := by
  obtain ⟨hS, hR⟩ := hE
  have hs := sO_rng hid
  unfold wp_X11_event
  simp only [Int.reduceAdd]
  rw [hn]
  refine up_in fun M1 h1 => ?_
  intro x2 e2
  refine ⟨fun m k M4 => k.toNat ≤ m ∧ 0 ≤ k ∧ k ≤ n ∧ (∀ a, a ≠ 616 → a ≠ 617 → M4 a = M1 a) ∧ (∀ i, 0 ≤ i → i < k → M4 616 i = M 616 i ∧ M4 617 i = M 617 i) ∧ (∀ i, k < i → i ≤ n → M4 616 i = M 616 (i - 1) ∧ M4 617 i = M 617 (i - 1) ∧ t * 16 + sO id < kM M (i - 1)), ⟨n.toNat, by omega, by omega, by omega, fun _ _ _ => rfl, fun i a b => ⟨?_, ?_⟩, fun i a b => by omega⟩, ?_⟩
  · rw [h1, if_neg (by omega)]
  · rw [h1, if_neg (by omega)]
  · rintro n6 k M4 ⟨k1, k2, k3, hF, hA, hB⟩
    have hlt : ∀ i, 0 ≤ i → i < n → 0 ≤ sO (M 617 i) ∧ sO (M 617 i) ≤ 11 := fun i a b => sO_rng (hR i a b).1
    refine ⟨k = 0 ∨ (0 < k ∧ kM M (k - 1) ≤ t * 16 + sO id), ?_, ⟨by omega, by omega⟩, fun c => Or.inl (by omega), fun c => ⟨by omega, ?_⟩⟩
    · intro hc
      refine ⟨by omega, up_in fun M44 h44 => up_in fun M45 h45 => ?_⟩
      have w1 : ∀ i, i ≠ k → M45 616 i = M4 616 i ∧ M45 617 i = M4 617 i := fun i hi => ⟨by rw [h45, if_neg (by omega), h44, if_neg (by omega)], by rw [h45, if_neg (by omega), h44, if_neg (by omega)]⟩
      have w2 : M45 616 k = t := by rw [h45, if_neg (by omega), h44, if_pos ⟨rfl, rfl⟩]
      have w3 : M45 617 k = id := by rw [h45, if_pos ⟨rfl, rfl⟩]
      have v1 : ∀ i, 0 ≤ i → i < k → kM M45 i = kM M i := fun i a b => by
        unfold kM; rw [(w1 i (by omega)).1, (w1 i (by omega)).2, (hA i a b).1, (hA i a b).2]
      have v2 : kM M45 k = t * 16 + sO id := by unfold kM; rw [w2, w3]
      have v3 : ∀ i, k < i → i ≤ n → kM M45 i = kM M (i - 1) := fun i a b => by
        unfold kM; rw [(w1 i (by omega)).1, (w1 i (by omega)).2, (hB i a b).1, (hB i a b).2.1]
      have hlow : ∀ i, 0 ≤ i → i < k → kM M i ≤ t * 16 + sO id := fun i a b => by
        rcases hc with hc | hc
        · omega
        · by_cases q : i = k - 1
          · rw [q]; exact hc.2
          · exact Int.le_trans (hS i (k - 1) a (by omega) (by omega)) hc.2
      refine kk M45 (fun a a1 a2 a3 => funext fun b => ?_) (fun b hb => ?_) ?_ ⟨?_, ?_⟩ (fun v => ?_)
      · rw [h45, if_neg (by omega), h44, if_neg (by omega), hF a a2 a3, h1, if_neg (by omega)]
      · rw [h45, if_neg (by omega), h44, if_neg (by omega), hF 608 (by omega) (by omega), h1, if_neg (by omega)]
      · rw [h45, if_neg (by omega), h44, if_neg (by omega), hF 608 (by omega) (by omega), h1, if_pos ⟨rfl, rfl⟩]
      · intro p q p0 p1 p2
        rcases Int.lt_trichotomy p k with c1 | c1 | c1
        · rw [v1 p p0 c1]
          rcases Int.lt_trichotomy q k with c2 | c2 | c2
          · rw [v1 q (by omega) c2]; exact hS p q p0 p1 (by omega)
          · rw [c2, v2]; exact hlow p p0 c1
          · rw [v3 q c2 (by omega)]
            exact Int.le_trans (hlow p p0 c1) (Int.le_of_lt (hB q c2 (by omega)).2.2)
        · rw [c1, v2, v3 q (by omega) (by omega)]
          exact Int.le_of_lt (hB q (by omega) (by omega)).2.2
        · rw [v3 p c1 (by omega), v3 q (by omega) (by omega)]
          exact hS (p - 1) (q - 1) (by omega) (by omega) (by omega)
      · intro i i0 i1
        rcases Int.lt_trichotomy i k with c1 | c1 | c1
        · rw [(w1 i (by omega)).1, (w1 i (by omega)).2, (hA i i0 c1).1, (hA i i0 c1).2]; exact hR i i0 (by omega)
        · rw [c1, w2, w3]; exact ⟨hid, ht⟩
        · rw [(w1 i (by omega)).1, (w1 i (by omega)).2, (hB i c1 (by omega)).1, (hB i c1 (by omega)).2.1]; exact hR (i - 1) (by omega) (by omega)
      · rw [show (n + 1).toNat = n.toNat + 1 by omega]
        refine cnt_ins (f := kM M) (g := kM M45) (k := k.toNat) (by omega) (fun i hi => v1 i (by omega) (by omega)) (by rw [show ((k.toNat : Nat) : Int) = k by omega]; exact v2) (fun i a b => v3 i (by omega) (by omega)) v
    · have hA1 := hA (k - 1) (by omega) (by omega)
      have hR1 := hR (k - 1) (by omega) (by omega)
      have hl1 := hlt (k - 1) (by omega) (by omega)
      have hkm : kM M (k - 1) = M 616 (k - 1) * 16 + sO (M 617 (k - 1)) := rfl
      rw [hA1.1, hA1.2]
      refine ⟨t * 16 + sO id < kM M (k - 1), ?_, ⟨by omega, by omega⟩, ⟨by omega, by omega⟩, fun q => by omega, fun q => ⟨fun q2 => Or.inr ⟨by omega, by omega⟩, fun q2 => ?_⟩⟩
      · intro hc
        refine ⟨by omega, up_in fun M64 h64 => ?_⟩
        have g617 : M64 617 (k - 1) = M 617 (k - 1) := by rw [h64, if_neg (by omega), hA1.2]
        rw [g617]
        refine up_in fun M65 h65 => ?_
        intro x66 e66
        refine ⟨x66.toNat, by omega, by omega, by omega, by omega, fun a a1 a2 => ?_, fun i a b => ?_, fun i a b => ?_⟩
        · rw [← hF a a1 a2]; exact funext fun b => by rw [h65, if_neg (by omega), h64, if_neg (by omega)]
        · have := hA i a (by omega)
          exact ⟨by rw [h65, if_neg (by omega), h64, if_neg (by omega)]; exact this.1, by rw [h65, if_neg (by omega), h64, if_neg (by omega)]; exact this.2⟩
        · by_cases c2 : i = k
          · rw [c2]
            exact ⟨by rw [h65, if_neg (by omega), h64, if_pos ⟨rfl, rfl⟩], by rw [h65, if_pos ⟨rfl, rfl⟩], hc⟩
          · have := hB i (by omega) b
            exact ⟨by rw [h65, if_neg (by omega), h64, if_neg (by omega)]; exact this.1, by rw [h65, if_neg (by omega), h64, if_neg (by omega)]; exact this.2.1, this.2.2⟩
      · have r1 := pg_rank hR1.1
        have r2 := pg_rank hid
        have r3 := rank_lt hR1.1 hid
        exact ⟨r1.1, r2.1, r1.2, r2.2, fun q3 => Or.inr ⟨by omega, by omega⟩, fun q3 => by omega⟩
/-- the reference's line behind n events -/
def RlN (M : jT) (Z k : Int → Int) (n : Nat) : Prop := M 608 18 = (f5 Z k n).2.2.1 ∧ M 608 24 = (f5 Z k n).2.2.2.1 ∧
  (∀ j, 0 ≤ j → j < (f5 Z k n).2.2.1 → M 618 j = tS Z k n j ∧ M 619 j = tF Z k n j ∧ M 620 j = tF Z k n (j + 1) ∧ M 621 j = tV Z k n j ∧ M 622 j = tI Z k n j) ∧
  (∀ j, 0 ≤ j → j < (f5 Z k n).2.2.2.1 → M 623 j = vT Z k n j ∧ M 624 j = vS Z k n j ∧ M 625 j = vI Z k n j)
def Rl (M : jT) (Z : Int → Int) : Prop := M 608 15 = nE Z ∧ LK Z ∧ RlN M Z (kE Z) (nE Z).toNat
theorem Rl.mv {M M' : jT} {Z : Int → Int} (h : Rl M Z) (h0 : M' 608 15 = M 608 15) (h1 : M' 608 18 = M 608 18) (h2 : M' 608 24 = M 608 24) (hr : ∀ a, 618 ≤ a → a ≤ 625 → M' a = M a) : Rl M' Z := by
  unfold Rl RlN
  rw [h0, h1, h2, hr 618 (by omega) (by omega), hr 619 (by omega) (by omega), hr 620 (by omega) (by omega), hr 621 (by omega) (by omega), hr 622 (by omega) (by omega), hr 623 (by omega) (by omega), hr 624 (by omega) (by omega), hr 625 (by omega) (by omega)]
  exact h
