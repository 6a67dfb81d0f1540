/-! a meeting added -/
theorem sp_repeat {M : jT} {k f s w : Int} {Q : jT → Prop} (kk : ∀ M', (∀ a, a ≠ k → a ≠ k + 1 → M' a = M a) → (∀ b, M' k b = if b = 6 then f else if b = 7 then s else if b = 8 then w else if b = 9 then 0 else M k b) → (∀ i, 0 ≤ i → i < 40 → M' (k + 1) i = 0) → Q M') : wp_X4_repeat M k f s w Q := by
  unfold wp_X4_repeat
  refine up_in fun M1 k1 => up_in fun M2 k2 => up_in fun M3 k3 => up_in fun M4 k4 => ?_
  have F4 : ∀ a, a ≠ k → M4 a = M a := (fun a ha => funext fun b => by rw [k4 a b, if_neg (by omega), k3 a b, if_neg (by omega), k2 a b, if_neg (by omega), k1 a b, if_neg (by omega)])
  refine ⟨fun n i M6 => 0 ≤ i ∧ i ≤ 40 ∧ (40 - i).toNat ≤ n ∧ (∀ a, a ≠ k + 1 → M6 a = M4 a) ∧ ∀ j, 0 ≤ j → j < i → M6 (k + 1) j = 0, ⟨40, by omega, by omega, by omega, fun _ _ => rfl, fun j a b => by omega⟩, ?_⟩
  rintro n8 x5 M6 ⟨i0, i1, i2, F6, h6⟩
  refine ⟨⟨by omega, by omega⟩, fun c => ?_, fun c => ⟨by omega, up_in fun M12 k12 => ?_⟩⟩
  · refine kk M6 (fun a a1 a2 => (F6 a a2).trans (F4 a a1)) (fun b => ?_) (fun i j0 j1 => h6 i j0 (by omega))
    rw [F6 k (by omega)]
    by_cases q9 : b = 9
    · rw [k4, if_pos ⟨rfl, q9⟩, if_neg (by omega), if_neg (by omega), if_neg (by omega), if_pos q9]
    · rw [k4, if_neg (by omega)]
      by_cases q8 : b = 8
      · rw [k3, if_pos ⟨rfl, q8⟩, if_neg (by omega), if_neg (by omega), if_pos q8]
      · rw [k3, if_neg (by omega)]
        by_cases q7 : b = 7
        · rw [k2, if_pos ⟨rfl, q7⟩, if_neg (by omega), if_pos q7]
        · rw [k2, if_neg (by omega)]
          by_cases q6 : b = 6
          · rw [k1, if_pos ⟨rfl, q6⟩, if_pos q6]
          · rw [k1, if_neg (by omega), if_neg q6, if_neg q7, if_neg q8, if_neg q9]
  · intro x13 e13
    refine ⟨(40 - x13).toNat, by omega, by omega, by omega, by omega, (fun a ha => by rw [← F6 a ha]; funext b; rw [k12, if_neg (by omega)]), fun j j0 j1 => ?_⟩
    by_cases q : j = x5
    · rw [q, k12, if_pos ⟨rfl, rfl⟩]
    · rw [k12, if_neg (by omega)]; exact h6 j j0 (by omega)
theorem bS_0 {i : Int} : ¬ bS 0 i := by
  show ¬ ((0 : Int) / 2 ^ i.toNat % 2 ≠ 0)
  rw [Int.zero_ediv]; decide
noncomputable def gN (z d t l mo n : Int) : Int → Int := fun j => if j = 0 then z else if j = 1 then d else if j = 2 then t else if j = 3 then l else if j = 4 then mo else if j = 5 then n else if j = 7 then 1 else 0
theorem gN_v (z d t l mo n : Int) : gN z d t l mo n 0 = z ∧ gN z d t l mo n 1 = d ∧ gN z d t l mo n 2 = t ∧ gN z d t l mo n 3 = l ∧ gN z d t l mo n 4 = mo ∧ gN z d t l mo n 5 = n ∧ gN z d t l mo n 6 = 0 ∧ gN z d t l mo n 7 = 1 := by
  refine ⟨?_, ?_, ?_, ?_, ?_, ?_, ?_, ?_⟩ <;> simp [gN]
theorem gN_0 {z d t l mo n j : Int} (h : j < 0 ∨ 8 ≤ j) : gN z d t l mo n j = 0 := by
  unfold gN
  rw [if_neg (by omega), if_neg (by omega), if_neg (by omega), if_neg (by omega), if_neg (by omega), if_neg (by omega), if_neg (by omega)]
theorem gN_ok {z d t l mo n : Int} (hd : 0 ≤ d ∧ d ≤ 11687) (ht : 0 ≤ t ∧ t ≤ 1439) (hl : 1 ≤ l ∧ l ≤ 1440) (hm : 0 ≤ mo ∧ mo ≤ 3) (hn : 1 ≤ n ∧ n ≤ 40) : GOk (gN z d t l mo n) := by
  obtain ⟨v0, v1, v2, v3, v4, v5, v6, v7⟩ := gN_v z d t l mo n
  unfold GOk
  rw [v1, v2, v3, v4, v5, v6, v7, gN_0 (j := 8) (by omega)]
  exact ⟨hd, ht, hl, hm, hn, ⟨by omega, by omega⟩, ⟨by omega, by omega⟩, ⟨by omega, by omega⟩, fun i i0 i1 => by rw [gN_0 (by omega)]; exact ⟨by omega, by omega⟩, fun i i0 i1 => Or.inl (gN_0 (by omega))⟩
noncomputable def nMeet (A G : Int → Int) : Int → Int := fun i => if i = 1 then A 1 + 1 else mput A (A 1) G i
theorem nMeet_1 {A G : Int → Int} : nMeet A G 1 = A 1 + 1 := by unfold nMeet; rw [if_pos rfl]
theorem nMeet_n {A G : Int → Int} {i : Int} (h : i ≠ 1) : nMeet A G i = mput A (A 1) G i := by unfold nMeet; rw [if_neg h]
theorem nMeet_0 {A G : Int → Int} (hA : AOk A) : nMeet A G 0 = A 0 := by
  have a2 := hA.2.1
  rw [nMeet_n (by omega), mput_n (by omega)]
theorem nMeet_z {A G : Int → Int} (hA : AOk A) {z : Int} (hz : 0 ≤ z ∧ z < 6) : zsl (nMeet A G) z = zsl A z := zsl_eq fun i i0 i1 => by
  have a2 := hA.2.1
  rw [nMeet_n (by omega), mput_n (by omega)]
theorem nMeet_y {A G : Int → Int} {m : Int} (hm : 0 ≤ m ∧ m ≠ A 1) : msl (nMeet A G) m = msl A m := msl_eq fun i i0 i1 => by
  rw [nMeet_n (by omega), mput_n (by omega)]
theorem nMeet_m {A G : Int → Int} (hA : AOk A) (h : ∀ i, i < 0 ∨ 89 ≤ i → G i = 0) : msl (nMeet A G) (A 1) = G := by
  have a2 := hA.2.1
  rw [← mput_m (A := A) (m := A 1) h]
  refine msl_eq fun i i0 i1 => ?_
  rw [nMeet_n (by omega), mput_m h]
theorem nMeet_ok {A G : Int → Int} (hA : AOk A) (h10 : A 1 < 10) (ho : ∀ i, i < 0 ∨ 89 ≤ i → G i = 0) (ok : GOk G) (hz : 0 ≤ G 0 ∧ G 0 < A 0) : AOk (nMeet A G) := by
  have a1 := hA.1
  have a2 := hA.2.1
  unfold AOk
  rw [nMeet_0 hA, nMeet_1]
  refine ⟨a1, by omega, fun z z0 z1 => by rw [nMeet_z hA (by omega)]; exact hA.2.2.1 z z0 z1, fun y y0 y1 => ?_⟩
  by_cases c : y = A 1
  · rw [c, nMeet_m hA ho]; exact ⟨ok, hz⟩
  · rw [nMeet_y ⟨y0, c⟩]; exact hA.2.2.2 y y0 (by omega)
def argM (d t l mo n : Int) : Prop := ((0 ≤ d ∧ d ≤ 11687) ∧ (0 ≤ t ∧ t ≤ 1439) ∧ 1 ≤ l ∧ l ≤ 1440) ∧ (0 ≤ mo ∧ mo ≤ 3) ∧ 1 ≤ n ∧ n ≤ 40
theorem cs_addMeeting {M : jT} {A : Int → Int} {z d t l mo n : Int} {Q : Int → jT → Prop} (h : CA M A) (hz : 0 ≤ z ∧ z < A 0) (ha : argM d t l mo n) (h10 : A 1 < 10) (kk : ∀ M', PF M M' → CA M' (nMeet A (gN z d t l mo n)) → Q (A 1) M') :
    ∀ x51 : Int, x51 = M 1 1 → (0 ≤ x51 ∧ x51 < 10) ∧ wp_X4_begin M (2 * x51 + 28) z d t l mo n (fun M55 => ∀ M56 : jT, M56 = up M55 1 1 (x51 + 1) → wp_X5_spoil M56 (3 * x51 + 570) (fun M59 => Q x51 M59)) := by
  obtain ⟨hA, hB, hC⟩ := h
  have a1 := hA.1
  have a2 := hA.2.1
  obtain ⟨⟨hd, ht, hl⟩, hm, hn⟩ := ha
  obtain ⟨v0, v1, v2, v3, v4, v5, v6, v7⟩ := gN_v z d t l mo n
  have ho : ∀ i, i < 0 ∨ 89 ≤ i → gN z d t l mo n i = 0 := fun i hi => gN_0 (by omega)
  have ok := nMeet_ok hA h10 ho (gN_ok hd ht hl hm hn) (by rw [v0]; exact hz)
  intro x51 e51
  rw [hB.2.1] at e51; subst e51
  refine ⟨by omega, ?_⟩
  unfold wp_X4_begin
  refine up_in fun M1 k1 => up_in fun M2 k2 => up_in fun M3 k3 => up_in fun M4 k4 => up_in fun M5 k5 => up_in fun M6 k6 => sp_repeat fun M7 F7 G7 H7 => up_in fun M8 k8 => ?_
  have F6 : ∀ a, a ≠ 2 * A 1 + 28 → M6 a = M a := (fun a ha => funext fun b => by rw [k6 a b, if_neg (by omega), k5 a b, if_neg (by omega), k4 a b, if_neg (by omega), k3 a b, if_neg (by omega), k2 a b, if_neg (by omega), k1 a b, if_neg (by omega)])
  have F8 : ∀ a, a ≠ 1 → M8 a = M7 a := (fun a ha => funext fun b => by rw [k8 a b, if_neg (by omega)])
  have F : ∀ a, a ≠ 1 → a ≠ 2 * A 1 + 28 → a ≠ 2 * A 1 + 29 → M8 a = M a := fun a c1 c2 c3 => (F8 a c1).trans ((F7 a c2 (by omega)).trans (F6 a c2))
  have c6 : ∀ j, 0 ≤ j → j < 6 → M6 (2 * A 1 + 28) j = gN z d t l mo n j := fun j j0 j1 => by
    rcases (show j = 0 ∨ j = 1 ∨ j = 2 ∨ j = 3 ∨ j = 4 ∨ j = 5 by omega) with c | c | c | c | c | c
    · rw [c, k6, if_neg (by omega), k5, if_neg (by omega), k4, if_neg (by omega), k3, if_neg (by omega), k2, if_neg (by omega), k1, if_pos ⟨rfl, rfl⟩, v0]
    · rw [c, k6, if_neg (by omega), k5, if_neg (by omega), k4, if_neg (by omega), k3, if_neg (by omega), k2, if_pos ⟨rfl, rfl⟩, v1]
    · rw [c, k6, if_neg (by omega), k5, if_neg (by omega), k4, if_neg (by omega), k3, if_pos ⟨rfl, rfl⟩, v2]
    · rw [c, k6, if_neg (by omega), k5, if_neg (by omega), k4, if_pos ⟨rfl, rfl⟩, v3]
    · rw [c, k6, if_neg (by omega), k5, if_pos ⟨rfl, rfl⟩, v4]
    · rw [c, k6, if_pos ⟨rfl, rfl⟩, v5]
  have hGE : GEq M8 (2 * A 1 + 28) (gN z d t l mo n) := by
    have r9 : M8 (2 * A 1 + 28) 9 = 0 := by rw [F8 _ (by omega), G7, if_neg (by omega), if_neg (by omega), if_neg (by omega), if_pos rfl]
    refine ⟨fun i i0 i1 => ?_, fun i i0 i1 => ?_, by rw [r9]; exact ⟨by omega, by omega⟩, fun i i0 i1 => ?_⟩
    · rw [F8 _ (by omega), G7]
      by_cases q6 : i = 6
      · rw [if_pos q6, q6, v6]
      · rw [if_neg q6]
        by_cases q7 : i = 7
        · rw [if_pos q7, q7, v7]
        · rw [if_neg q7]
          by_cases q8 : i = 8
          · rw [if_pos q8, q8, gN_0 (by omega)]
          · rw [if_neg q8, if_neg (by omega)]; exact c6 i i0 (by omega)
    · rw [F8 _ (by omega), H7 i i0 i1, gN_0 (by omega)]
    · rw [r9, gN_0 (by omega)]
      exact ⟨fun q => absurd q bS_0, fun q => absurd rfl q⟩
  have hB8 : BEq M8 1 (nMeet A (gN z d t l mo n)) := by
    unfold BEq
    rw [nMeet_0 hA, nMeet_1]
    refine ⟨by rw [k8, if_neg (by omega), F7 1 (by omega) (by omega), F6 1 (by omega), hB.1], by rw [k8, if_pos ⟨rfl, rfl⟩], fun y y0 y1 => ?_, fun y y0 y1 => ?_⟩
    · rw [nMeet_z hA (by omega)]
      exact (hB.2.2.1 y y0 y1).mv (F _ (by omega) (by omega) (by omega)) (F _ (by omega) (by omega) (by omega)) (F _ (by omega) (by omega) (by omega)) (F _ (by omega) (by omega) (by omega))
    · by_cases c : y = A 1
      · rw [c, nMeet_m hA ho, show 1 + 27 + 2 * A 1 = 2 * A 1 + 28 by omega]; exact hGE
      · rw [nMeet_y ⟨y0, c⟩]
        exact (hB.2.2.2 y y0 (by omega)).mv (F _ (by omega) (by omega) (by omega)) (F _ (by omega) (by omega) (by omega))
  refine sp_spoilPlan (A := A) (A' := nMeet A (gN z d t l mo n)) (m := A 1) rfl (by omega) hA ok (hC.mv hA (fun a b1 b2 => F a (by omega) (by omega) (by omega))) (nMeet_0 hA) (fun y y0 y1 => nMeet_z hA (by omega)) (fun i i0 i1 i2 => ?_) fun M9 F9 hC9 => kk M9 (fun a b1 b2 => (F9 a (by omega)).trans (F a (by omega) (by omega) (by omega))) ⟨ok, hB8.mv ok (fun a b1 b2 => F9 a (by omega)), hC9⟩
  rw [nMeet_1] at i1
  exact ⟨by omega, nMeet_y ⟨i0, i2⟩⟩
theorem sim_addMeeting {M : jT} {z d t l mo n : Int} (h : Inv M) (rz : rg z) (rd : rg d) (rt : rg t) (rl' : rg l) (rm : rg mo) (rn : rg n) : wp_X10_addMeeting M 0 z d t l mo n (fun v M1 => OKq (wp_X11_addMeeting M1 608 z d t l mo n) v) (fun e M1 => EXq (wp_X11_addMeeting M1 608 z d t l mo n) [1, 2, 3] e) := by
  have hA := h.1.1
  have a1 := hA.1
  have a2 := hA.2.1
  have e1 : M 1 1 = M 609 1 := h.1.2.2.1
  -- the reference
  have ref : ∀ (M1 : jT) (Q : Int → jT → Prop), M1 609 = M 609 → (∀ M2, (∀ a, a ≠ 608 → M2 a = M1 a) → (∀ b, b ≠ 0 → M2 608 b = M1 608 b) → M2 608 0 = 0 → 
      (0 ≤ z ∧ z < M 609 0 → (argM d t l mo n → (M 609 1 < 10 → ∀ R : jT → Prop, (∀ M83, M83 609 = M 609 → (∀ M84, (∀ a, a ≠ 609 → M84 a = M83 a) → M84 609 = nMeet (M 609) (gN z d t l mo n) → Q (M 609 1) M84) → R M83) → wp_X11_changes M2 608 R) ∧ (M 609 1 = 10 → wp_X11_raises M2 608 3 Q)) ∧ (¬ argM d t l mo n → wp_X11_raises M2 608 2 Q)) ∧ (¬ (0 ≤ z ∧ z < M 609 0) → wp_X11_raises M2 608 1 Q)) → wp_X11_addMeeting M1 608 z d t l mo n Q := by
    intro M1 Q e9 k
    unfold wp_X11_addMeeting
    simp only [Int.reduceAdd]
    refine up_in fun M2 k2 => ?_
    obtain ⟨p1, p2⟩ := k M2 (fun a ha => funext fun b => by rw [k2 a b, if_neg (by omega)]) (fun b hb => by rw [k2, if_neg (by omega)]) (by rw [k2, if_pos ⟨rfl, rfl⟩])
    have e2 : M2 609 = M 609 := by rw [← e9]; funext b; rw [k2, if_neg (by omega)]
    have zi' : pb_X11_isZone M2 608 z ↔ 0 ≤ z ∧ z < M 609 0 := by rw [zi, e2]
    refine ⟨pgz (by rw [e2]; exact hA) rz, fun c => ?_, fun c => p2 fun q => c (zi'.mpr q)⟩
    obtain ⟨p3, p4⟩ := p1 (zi'.mp c)
    rw [e2]
    refine ⟨(pgr rd).1, ¬ argM d t l mo n, p4, fun q a => q a.1.1, fun q1 => ⟨pg_in rt ⟨by omega, by omega⟩ ⟨by omega, by omega⟩, fun q a => q a.1.2.1, fun q2 => ⟨pg_in rl' ⟨by omega, by omega⟩ ⟨by omega, by omega⟩, fun q a => q a.1.2.2, fun q3 => ⟨pg_in rm ⟨by omega, by omega⟩ ⟨by omega, by omega⟩, fun q a => q a.2.1, fun q4 => ⟨pg_in rn ⟨by omega, by omega⟩ ⟨by omega, by omega⟩, fun q5 => ?_, fun q a => q a.2.2⟩⟩⟩⟩⟩
    have ha : argM d t l mo n := ⟨⟨q1, q2, q3⟩, q4, q5⟩
    obtain ⟨p5, p6⟩ := p3 ha
    obtain ⟨v0, v1, v2, v3, v4, v5, v6, v7⟩ := gN_v z d t l mo n
    refine ⟨⟨by omega, by omega⟩, fun c10 => ?_, p6⟩
    refine p5 (by omega) _ fun M83 e83 k83 => ?_
    intro x86 e86
    rw [mAt, e83] at e86
    refine ⟨fun n i M88 => 0 ≤ i ∧ i ≤ 89 ∧ (89 - i).toNat ≤ n ∧ ∀ a j, M88 a j = if a = 609 ∧ x86 ≤ j ∧ j < x86 + i then 0 else M83 a j, ⟨89, by omega, by omega, by omega, fun a j => by rw [if_neg (by omega)]⟩, ?_⟩
    rintro n90 x87 M88 ⟨i0, i1, i2, h88⟩
    refine ⟨⟨by omega, by omega⟩, fun c => ⟨by omega, up_in fun M94 k94 => ⟨by omega, up_in fun M96 k96 => ⟨by omega, up_in fun M98 k98 => ⟨by omega, up_in fun M100 k100 => ⟨by omega, up_in fun M102 k102 => ⟨by omega, up_in fun M104 k104 => ⟨by omega, up_in fun M106 k106 => up_in fun M107 k107 => ?_⟩⟩⟩⟩⟩⟩⟩, fun c => ⟨by omega, up_in fun M109 k109 => ?_⟩⟩
    · have n7 : ∀ b, (b < x86 ∨ x86 + 8 ≤ b) → M106 609 b = if x86 ≤ b ∧ b < x86 + 89 then 0 else M 609 b := fun b hb => by
        rw [k106, if_neg (by omega), k104, if_neg (by omega), k102, if_neg (by omega), k100, if_neg (by omega), k98, if_neg (by omega), k96, if_neg (by omega), k94, if_neg (by omega), h88, e83]
        by_cases q : x86 ≤ b ∧ b < x86 + 89
        · rw [if_pos (by omega), if_pos q]
        · rw [if_neg (by omega), if_neg q]
      have e8 : ∀ j, 0 ≤ j → j < 8 → M106 609 (x86 + j) = gN z d t l mo n j := fun j j0 j1 => by
        rcases (show j = 0 ∨ j = 1 ∨ j = 2 ∨ j = 3 ∨ j = 4 ∨ j = 5 ∨ j = 6 ∨ j = 7 by omega) with c | c | c | c | c | c | c | c
        · rw [c, k106, if_neg (by omega), k104, if_neg (by omega), k102, if_neg (by omega), k100, if_neg (by omega), k98, if_neg (by omega), k96, if_neg (by omega), k94, if_pos ⟨rfl, by omega⟩, v0]
        · rw [c, k106, if_neg (by omega), k104, if_neg (by omega), k102, if_neg (by omega), k100, if_neg (by omega), k98, if_neg (by omega), k96, if_pos ⟨rfl, rfl⟩, v1]
        · rw [c, k106, if_neg (by omega), k104, if_neg (by omega), k102, if_neg (by omega), k100, if_neg (by omega), k98, if_pos ⟨rfl, rfl⟩, v2]
        · rw [c, k106, if_neg (by omega), k104, if_neg (by omega), k102, if_neg (by omega), k100, if_pos ⟨rfl, rfl⟩, v3]
        · rw [c, k106, if_neg (by omega), k104, if_neg (by omega), k102, if_pos ⟨rfl, rfl⟩, v4]
        · rw [c, k106, if_neg (by omega), k104, if_pos ⟨rfl, rfl⟩, v5]
        · rw [c, k106, if_neg (by omega), k104, if_neg (by omega), k102, if_neg (by omega), k100, if_neg (by omega), k98, if_neg (by omega), k96, if_neg (by omega), k94, if_neg (by omega), h88, if_pos (by omega), v6]
        · rw [c, k106, if_pos ⟨rfl, rfl⟩, v7]
      have F : ∀ a, a ≠ 609 → M106 a = M83 a := fun a ha => funext fun j => by rw [k106, if_neg (by omega), k104, if_neg (by omega), k102, if_neg (by omega), k100, if_neg (by omega), k98, if_neg (by omega), k96, if_neg (by omega), k94, if_neg (by omega), h88, if_neg (by omega)]
      have r1 : M106 609 1 = M 609 1 := by rw [n7 1 (by omega), if_neg (by omega)]
      rw [r1] at k107 ⊢
      refine k83 M107 (fun a ha => funext fun j => by rw [k107, if_neg (by omega), F a ha]) (funext fun j => ?_)
      by_cases q1 : j = 1
      · rw [q1, k107, if_pos ⟨rfl, rfl⟩, nMeet_1]
      · rw [k107, if_neg (by omega), nMeet_n q1]
        by_cases p0 : j < 404 + 89 * M 609 1 ∨ 493 + 89 * M 609 1 ≤ j
        · rw [mput_n p0, n7 j (by omega), if_neg (by omega)]
        · rw [mput_i (by omega)]
          by_cases q2 : j < x86 + 8
          · rw [show j = x86 + (j - x86) by omega, e8 _ (by omega) (by omega)]; congr 1; omega
          · rw [n7 j (by omega), if_pos (by omega), gN_0 (by omega)]
    · intro x110 e110
      refine ⟨(89 - x110).toNat, by omega, by omega, by omega, by omega, fun a j => ?_⟩
      rw [k109, h88]
      by_cases p1 : a = 609 ∧ j = x86 + x87
      · rw [if_pos p1, if_pos (by omega)]
      · rw [if_neg p1]
        by_cases p2 : a = 609 ∧ x86 ≤ j ∧ j < x86 + x87
        · rw [if_pos p2, if_pos (by omega)]
        · rw [if_neg p2, if_neg (by omega)]
  have ex : ∀ c e, (e = c.toNat ∧ (c = 1 ∨ c = 2 ∨ c = 3)) → (∀ M2 Q, Inv M2 → wp_X11_raises M2 608 c Q → (0 ≤ z ∧ z < M 609 0 → (argM d t l mo n → (M 609 1 < 10 → ∀ R : jT → Prop, (∀ M83, M83 609 = M 609 → (∀ M84, (∀ a, a ≠ 609 → M84 a = M83 a) → M84 609 = nMeet (M 609) (gN z d t l mo n) → Q (M 609 1) M84) → R M83) → wp_X11_changes M2 608 R) ∧ (M 609 1 = 10 → wp_X11_raises M2 608 3 Q)) ∧ (¬ argM d t l mo n → wp_X11_raises M2 608 2 Q)) ∧ (¬ (0 ≤ z ∧ z < M 609 0) → wp_X11_raises M2 608 1 Q)) → EXq (wp_X11_addMeeting M 608 z d t l mo n) [1, 2, 3] e := by
    intro c e ⟨he, hc⟩ k
    refine ⟨by rcases hc with q | q | q <;> (rw [he, q]; decide), ref M _ rfl fun M2 F2 G2 t2 => ?_⟩
    have h2 : Inv M2 := h.r ⟨fun a ha => F2 a (by omega), ⟨F2 _ (by omega), F2 _ (by omega), F2 _ (by omega), F2 _ (by omega), F2 _ (by omega)⟩, G2 _ (by omega), G2 _ (by omega), G2 _ (by omega), G2 _ (by omega), G2 _ (by omega)⟩ (h.2.2.1.mv (F2 _ (by omega)) (fun b hb => G2 b (by omega)) (fun a _ _ => F2 a (by omega)))
    exact k M2 (fun _ N => N 608 0 = kx [1, 2, 3] e ∧ Inv N) h2 (rs h2 fun M3 h3 t3 => ⟨by rw [t3]; rcases hc with q | q | q <;> (rw [he, q]; rfl), h3⟩)
  unfold wp_X10_addMeeting
  simp only [Int.zero_add, e1]
  refine nz h.1 rz (fun hz => ?_) (fun hz => ex 1 1 ⟨rfl, by omega⟩ fun M2 Q h2 k => ⟨fun q => absurd q hz, fun _ => k⟩)
  refine ⟨(pgd rd).1, fun x => x = b2i ((0 ≤ d ∧ d ≤ 11687) ∧ (0 ≤ t ∧ t ≤ 1439) ∧ 1 ≤ l ∧ l ≤ 1440), fun x21 e21 => ?_, ¬ ((0 ≤ d ∧ d ≤ 11687) ∧ (0 ≤ t ∧ t ≤ 1439) ∧ 1 ≤ l ∧ l ≤ 1440), fun q => (b2i_f q).symm, fun q q2 => q q2.1, fun q1 => ⟨rt, fun q q2 => by omega, fun q2 => ⟨fun q q3 => by omega, fun q3 => ⟨rl', fun q q4 => by omega, fun q4 => ⟨fun q q5 => by omega, fun q5 => (b2i_t ⟨q1, ⟨q2, by omega⟩, q4, q5⟩).symm⟩⟩⟩⟩⟩
  rw [show x21 = _ from e21]
  refine na (fun ha1 => ?_) (fun ha1 => ex 2 2 ⟨rfl, by omega⟩ fun M2 Q h2 k => ⟨fun _ => ⟨fun a => absurd a.1 ha1, fun _ => k⟩, fun q => absurd hz q⟩)
  refine ⟨(pgd rm).2.2.2.2.2.2, fun x => x = b2i ((0 ≤ mo ∧ mo ≤ 3) ∧ 1 ≤ n ∧ n ≤ 40), fun x37 e37 => ?_, ¬ ((0 ≤ mo ∧ mo ≤ 3) ∧ 1 ≤ n ∧ n ≤ 40), fun q => (b2i_f q).symm, fun q q2 => q q2.1, fun q1 => ⟨rn, fun q q2 => by omega, fun q2 => ⟨fun q q3 => by omega, fun q3 => (b2i_t ⟨q1, q2, q3⟩).symm⟩⟩⟩
  rw [show x37 = _ from e37]
  refine na (fun ha2 => ?_) (fun ha2 => ex 2 2 ⟨rfl, by omega⟩ fun M2 Q h2 k => ⟨fun _ => ⟨fun a => absurd a.2 ha2, fun _ => k⟩, fun q => absurd hz q⟩)
  have ha : argM d t l mo n := ⟨ha1, ha2⟩
  refine ⟨⟨⟨by omega, by omega⟩, fun _ => trivial, fun _ => trivial⟩, fun x43 g1 g2 => refuse (by omega) (fun c0 => ?_) (fun c0 => ?_)⟩
  · have h10 : M 609 1 < 10 := by omega
    refine c_remember h fun M1 f1 hC1 hX1 hs1 => cs_addMeeting hC1 hz ha h10 fun M2 f2 hC2 => ?_
    have f12 := f1.trans f2.mf
    have hX2 := hX1.mv (M' := M2) (fun a ha => f2 a (by omega) (by omega))
    have hs2 := hs1.mv (M' := M2) (by rw [f2 48 (by omega) (by omega)]) (fun a _ _ => f2 a (by omega) (by omega)) (by rw [f2 608 (by omega) (by omega)]) (f2 611 (by omega) (by omega))
    obtain ⟨x1, x2, x3⟩ := h.2.2.2.1.un
    have e9 : M2 609 = M 609 := f12 609 (by omega) (by omega) (by omega)
    have e8 : M2 608 = M 608 := f12 608 (by omega) (by omega) (by omega)
    unfold OKq
    refine ref M2 _ e9 fun N1 F1 G1 t1 => ⟨fun _ => ⟨fun _ => ⟨fun _ R k => ?_, fun q => by omega⟩, fun q => absurd ha q⟩, fun q => absurd hz q⟩
    refine mut_changes h f12 (RM.of (fun a ha => F1 a (by omega)) (fun b hb => G1 b (by omega))) ((F1 609 (by omega)).trans e9) (x2.mv (by rw [G1 3 (by omega), e8]) ((F1 610 (by omega)).trans (f12 610 (by omega) (by omega) (by omega)))) fun N4 f4 d49 t4 c14 hr4 => k N4 d49 fun N5 F5 e5 => ?_
    obtain ⟨r1, r2, r3, r4, r5⟩ := rm9 F5
    refine ⟨by rw [r4, t4]; exact t1, rfl, mut_fin h f12 hC2 hX2 hs2 (f4.trans r1) (by rw [F5 608 (by omega)]; exact c14) (fun j _ _ => by rw [e5]) (hr4.mv r5 r2)⟩
  · have h10 : M 609 1 = 10 := by omega
    have ex3 : x43 = 3 := by omega
    rw [ex3]
    exact ex 3 3 ⟨rfl, by omega⟩ fun M2 Q h2 k => ⟨fun _ => ⟨fun _ => ⟨fun q => by omega, fun _ => k⟩, fun q => absurd ha q⟩, fun q => absurd hz q⟩
