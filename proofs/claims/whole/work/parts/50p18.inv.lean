/-! what holds between two calls -/
def ksl (K : Int → Int) (i : Int) : Int → Int := fun j => if 0 ≤ j ∧ j < 1294 then K (1294 * i + j) else 0
def HX (M : jT) : Prop := (M 48 0 = M 608 3 ∧ 0 ≤ M 48 0 ∧ M 48 0 ≤ 8 ∧ 0 ≤ M 48 3 ∧ M 48 3 < 9) ∧ (∀ i, 0 ≤ i → i < M 48 0 → AOk (ksl (M 610) i) ∧ BEq M (97 + 47 * ((M 48 3 - M 48 0 + i) % 9)) (ksl (M 610) i)) ∧ (rg (M 48 1) ∧ rg (M 608 5) ∧ (M 48 1 ≠ 0 ↔ M 608 5 ≠ 0)) ∧ (M 48 1 ≠ 0 → AOk (M 611) ∧ BEq M 49 (M 611))
def TX (M : jT) : Prop := (M 601 0 = M 608 8 ∧ 0 ≤ M 601 0 ∧ M 601 0 ≤ 60) ∧ (∀ i, 0 ≤ i → i < M 601 0 → M 602 i = M 613 i ∧ 33 ≤ M 602 i ∧ M 602 i ≤ 126) ∧ (M 601 2 = M 608 10 ∧ rg (M 601 2)) ∧ (M 604 0 = M 608 12 ∧ 0 ≤ M 604 0 ∧ M 604 0 ≤ 60) ∧ (∀ i, 0 ≤ i → i < M 604 0 → M 605 i = M 614 i ∧ 0 ≤ M 605 i ∧ M 605 i < 65536)
def Inv (M : jT) : Prop := D1 M ∧ CC M ∧ RC M ∧ HX M ∧ TX M
/-- the reference's data stay -/
def RFd (M M' : jT) : Prop := (∀ a, a < 608 → M' a = M a) ∧ (M' 609 = M 609 ∧ M' 610 = M 610 ∧ M' 611 = M 611 ∧ M' 613 = M 613 ∧ M' 614 = M 614) ∧ (M' 608 3 = M 608 3 ∧ M' 608 5 = M 608 5 ∧ M' 608 8 = M 608 8 ∧ M' 608 10 = M 608 10 ∧ M' 608 12 = M 608 12)
theorem RFr.fd {M M' : jT} (f : RFr M M') : RFd M M' := ⟨f.1, f.2.1, f.2.2.1, f.2.2.2.1, f.2.2.2.2.1, f.2.2.2.2.2.1, f.2.2.2.2.2.2.1⟩
theorem RFr.z {M M' : jT} (f : RFr M M') : M' 608 0 = M 608 0 := f.2.2.2.2.2.2.2
theorem HX.mv {M M' : jT} (h : HX M) (f : ∀ a, 48 ≤ a → a < 521 → M' a = M a) (h3 : M' 608 3 = M 608 3) (h5 : M' 608 5 = M 608 5) (e0 : M' 610 = M 610) (e1 : M' 611 = M 611) : HX M' := by
  obtain ⟨a1, a2, a3, a4⟩ := h
  unfold HX
  rw [f 48 (by omega) (by omega), h3, h5, e0, e1]
  refine ⟨a1, fun i i0 i1 => ?_, a3, fun q => ?_⟩
  · obtain ⟨b1, b2⟩ := a2 i i0 i1
    exact ⟨b1, b2.mv b1 (fun a _ _ => f a (by omega) (by omega))⟩
  · obtain ⟨b1, b2⟩ := a4 q
    exact ⟨b1, b2.mv b1 (fun a _ _ => f a (by omega) (by omega))⟩
theorem TX.mv {M M' : jT} (h : TX M) (f : ∀ a, 601 ≤ a → a ≤ 605 → M' a = M a) (h8 : M' 608 8 = M 608 8) (h10 : M' 608 10 = M 608 10) (h12 : M' 608 12 = M 608 12) (e0 : M' 613 = M 613) (e1 : M' 614 = M 614) : TX M' := by
  unfold TX
  rw [f 601 (by omega) (by omega), f 602 (by omega) (by omega), f 604 (by omega) (by omega), f 605 (by omega) (by omega), h8, h10, h12, e0, e1]
  exact h
theorem Inv.c {M M' : jT} (h : Inv M) (f : CF7 M M') (hC : CC M') : Inv M' := by
  obtain ⟨h1, h2, h3, h4, h5⟩ := h
  have e8 := f 608 (by omega)
  exact ⟨f.d1 h1, hC, h3.mv (f 609 (by omega)) (fun b _ => by rw [e8]) (fun a _ _ => f a (by omega)), h4.mv (fun a _ _ => f a (by omega)) (by rw [e8]) (by rw [e8]) (f 610 (by omega)) (f 611 (by omega)), h5.mv (fun a _ _ => f a (by omega)) (by rw [e8]) (by rw [e8]) (by rw [e8]) (f 613 (by omega)) (f 614 (by omega))⟩
theorem Inv.r {M M' : jT} (h : Inv M) (f : RFd M M') (hR : RC M') : Inv M' := by
  obtain ⟨h1, h2, h3, h4, h5⟩ := h
  obtain ⟨f1, ⟨r9, r10, r11, r13, r14⟩, c3, c5, c8, c10, c12⟩ := f
  have hD : D1 M' := by
    unfold D1; rw [r9]; exact ⟨h1.1, h1.2.mv h1.1 (fun a _ _ => f1 a (by omega))⟩
  exact ⟨hD, h2.mv h1 r9 (fun a _ _ => f1 a (by omega)), hR, h4.mv (fun a _ _ => f1 a (by omega)) c3 c5 r10 r11, h5.mv (fun a _ _ => f1 a (by omega)) c8 c10 c12 r13 r14⟩
/-- the reference sets its thrown -/
theorem Inv.t {M M' : jT} {c : Int} (h : Inv M) (e : ∀ a b, M' a b = if a = 608 ∧ b = 0 then c else M a b) : Inv M' ∧ M' 609 = M 609 ∧ M' 608 0 = c := by
  have F : ∀ a, a ≠ 608 → M' a = M a := (fun a ha => funext fun b => by rw [e a b, if_neg (by omega)])
  have G : ∀ b, b ≠ 0 → M' 608 b = M 608 b := fun b hb => by rw [e, if_neg (by omega)]
  refine ⟨h.r ⟨fun a ha => F a (by omega), ⟨F _ (by omega), F _ (by omega), F _ (by omega), F _ (by omega), F _ (by omega)⟩, G _ (by omega), G _ (by omega), G _ (by omega), G _ (by omega), G _ (by omega)⟩ (h.2.2.1.mv (F _ (by omega)) (fun b hb => G b (by omega)) (fun a _ _ => F a (by omega))), F _ (by omega), by rw [e, if_pos ⟨rfl, rfl⟩]⟩
theorem th0 {M : jT} {P : jT → Prop} (h : Inv M) (k : ∀ M1, Inv M1 → M1 609 = M 609 → M1 608 0 = 0 → P M1) : ∀ M1 : jT, M1 = up M 608 0 0 → P M1 :=
  up_in fun M1 h1 => by obtain ⟨a, b, c⟩ := h.t h1; exact k M1 a b c
theorem rs {M : jT} {c : Int} {Q : Int → jT → Prop} (h : Inv M) (k : ∀ M1, Inv M1 → M1 608 0 = c → Q 0 M1) : wp_X11_raises M 608 c Q := by
  unfold wp_X11_raises
  exact up_in fun M1 h1 => by obtain ⟨a, b, d⟩ := h.t h1; exact k M1 a d
/-! what the class's calls need -/
theorem na_o {M : jT} {P Q : Prop} (h : P) (q : Q) : wo_X10_needArgument M (b2i P) Q := by
  unfold wo_X10_needArgument; rw [b2i_t h]; exact ⟨⟨by omega, by omega⟩, fun _ => q, fun z => by omega⟩
theorem na_x {M : jT} {P : Prop} {Q : jT → Prop} {X : Nat → jT → Prop} (h : ¬ P) (q : X 2 M) : wp_X10_needArgument M (b2i P) Q X := by
  unfold wp_X10_needArgument; rw [b2i_f h]; exact ⟨⟨by omega, by omega⟩, fun z => by omega, fun _ => q⟩
theorem ni_o {M : jT} {P Q : Prop} (h : P) (q : Q) : wo_X10_needIndex M (b2i P) Q := by
  unfold wo_X10_needIndex; rw [b2i_t h]; exact ⟨⟨by omega, by omega⟩, fun _ => q, fun z => by omega⟩
theorem ni_x {M : jT} {P : Prop} {Q : jT → Prop} {X : Nat → jT → Prop} (h : ¬ P) (q : X 1 M) : wp_X10_needIndex M (b2i P) Q X := by
  unfold wp_X10_needIndex; rw [b2i_f h]; exact ⟨⟨by omega, by omega⟩, fun z => by omega, fun _ => q⟩
theorem ne_o {M : jT} {P Q : Prop} (h : P) (q : Q) : wo_X10_needElement M (b2i P) Q := by
  unfold wo_X10_needElement; rw [b2i_t h]; exact ⟨⟨by omega, by omega⟩, fun _ => q, fun z => by omega⟩
theorem ne_x {M : jT} {P : Prop} {Q : jT → Prop} {X : Nat → jT → Prop} (h : ¬ P) (q : X 4 M) : wp_X10_needElement M (b2i P) Q X := by
  unfold wp_X10_needElement; rw [b2i_f h]; exact ⟨⟨by omega, by omega⟩, fun z => by omega, fun _ => q⟩
/-- an argument that fits goes on, one that doesn't throws -/
theorem na {M : jT} {P Q : Prop} {Q' : jT → Prop} {X : Nat → jT → Prop} (k1 : P → Q) (k2 : ¬ P → X 2 M) : wo_X10_needArgument M (b2i P) Q ∨ wp_X10_needArgument M (b2i P) Q' X := by
  by_cases h : P
  · exact Or.inl (na_o h (k1 h))
  · exact Or.inr (na_x h (k2 h))
theorem ni {M : jT} {P Q : Prop} {Q' : jT → Prop} {X : Nat → jT → Prop} (k1 : P → Q) (k2 : ¬ P → X 1 M) : wo_X10_needIndex M (b2i P) Q ∨ wp_X10_needIndex M (b2i P) Q' X := by
  by_cases h : P
  · exact Or.inl (ni_o h (k1 h))
  · exact Or.inr (ni_x h (k2 h))
theorem ne' {M : jT} {P Q : Prop} {Q' : jT → Prop} {X : Nat → jT → Prop} (k1 : P → Q) (k2 : ¬ P → X 4 M) : wo_X10_needElement M (b2i P) Q ∨ wp_X10_needElement M (b2i P) Q' X := by
  by_cases h : P
  · exact Or.inl (ne_o h (k1 h))
  · exact Or.inr (ne_x h (k2 h))
theorem refuse_o {M : jT} {Q : Prop} (q : Q) : wo_X10_refuse M 0 Q := by
  unfold wo_X10_refuse
  refine ⟨⟨⟨by omega, by omega⟩, fun _ => trivial, fun _ => trivial⟩, ni_o (by omega) ⟨⟨⟨by omega, by omega⟩, fun _ => trivial, fun _ => trivial⟩, na_o (by omega) ⟨⟨by omega, by omega⟩, fun _ => q, fun z => by omega⟩⟩⟩
theorem refuse_x {M : jT} {a : Int} {X : Nat → jT → Prop} (h : a = 1 ∨ a = 2 ∨ a = 3) (q : X a.toNat M) : wp_X10_refuse M a (fun _ => False) X := by
  unfold wp_X10_refuse
  refine ⟨⟨⟨by omega, by omega⟩, fun _ => trivial, fun _ => trivial⟩, ?_⟩
  rcases h with rfl | rfl | rfl
  · exact Or.inr (ni_x (by omega) q)
  · exact Or.inl (ni_o (by omega) ⟨⟨⟨by omega, by omega⟩, fun _ => trivial, fun _ => trivial⟩, Or.inr (na_x (by omega) q)⟩)
  · exact Or.inl (ni_o (by omega) ⟨⟨⟨by omega, by omega⟩, fun _ => trivial, fun _ => trivial⟩, Or.inl (na_o (by omega) ⟨⟨by omega, by omega⟩, fun z => by omega, fun _ => q⟩)⟩)
/-- a fault's number: 0 goes on -/
theorem refuse {M : jT} {a : Int} {Q : Prop} {X : Nat → jT → Prop} (h : 0 ≤ a ∧ a ≤ 3) (k1 : a = 0 → Q) (k2 : a ≠ 0 → X a.toNat M) : wo_X10_refuse M a Q ∨ wp_X10_refuse M a (fun _ => False) X := by
  by_cases c : a = 0
  · rw [c]; exact Or.inl (refuse_o (k1 c))
  · exact Or.inr (refuse_x (by omega) (k2 c))
theorem pg_hz {M : jT} {z : Int} (hD : D1 M) (hz : rg z) : pg_X10_hasZone M 0 z := by
  have a1 := hD.1.1
  have e := hD.2.1
  unfold pg_X10_hasZone
  simp only [Int.zero_add, e]
  exact ⟨hz, fun _ => trivial, fun _ => ⟨⟨by omega, by omega⟩, fun _ => trivial, fun _ => trivial⟩⟩
theorem hz_iff {M : jT} {z : Int} (hD : D1 M) : pb_X10_hasZone M 0 z ↔ 0 ≤ z ∧ z < M 609 0 := by
  unfold pb_X10_hasZone
  rw [Int.zero_add, hD.2.1]
