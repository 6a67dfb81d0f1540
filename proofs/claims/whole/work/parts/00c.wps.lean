abbrev pb_X10_isYear (a0 : Int) : Prop :=
0 ≤ a0 ∧ a0 < 32
def pg_X10_isYear (a0 : Int) : Prop :=
rg a0 ∧
((a0 < 0 → True) ∧
(0 ≤ a0 → (((32 ≤ a0 → True) ∧
(a0 < 32 → True)))))
abbrev pb_X10_isMonth (a0 : Int) : Prop :=
1 ≤ a0 ∧ a0 ≤ 12
def pg_X10_isMonth (a0 : Int) : Prop :=
rg a0 ∧
((a0 < 1 → True) ∧
(1 ≤ a0 → (((12 < a0 → True) ∧
(a0 ≤ 12 → True)))))
def wo_X10_needArgument (M : jT) (a0 : Int) (Q : Prop) : Prop :=
rg a0 ∧
((a0 ≠ 0 → Q) ∧
(a0 = 0 → False))
def wp_X10_needArgument (M : jT) (a0 : Int) (Q : jT → Prop) (X : Nat → jT → Prop) : Prop :=
rg a0 ∧
((a0 ≠ 0 → Q M) ∧
(a0 = 0 → X 2 M))
def pf_X1_monthLength (a0 : Int) (a1 : Int) : Int :=
if a0 % 4 ≠ 0 then ((msF a1) - (msF (a1 - 1))) + 0 else if a1 ≠ 2 then ((msF a1) - (msF (a1 - 1))) + 0 else ((msF a1) - (msF (a1 - 1))) + 1
def pg_X1_monthLength (a0 : Int) (a1 : Int) : Prop :=
(0 ≤ a0 ∧ a0 < 2147483648) ∧
rg (a0 % 4) ∧
((a0 % 4 ≠ 0 → ((0 ≤ a1 ∧ a1 < 13) ∧
(0 ≤ a1 - 1 ∧ a1 - 1 < 13) ∧
True)) ∧
(a0 % 4 = 0 → (rg a1 ∧
((a1 ≠ 2 → ((0 ≤ a1 ∧ a1 < 13) ∧
(0 ≤ a1 - 1 ∧ a1 - 1 < 13) ∧
True)) ∧
(a1 = 2 → ((0 ≤ a1 ∧ a1 < 13) ∧
(0 ≤ a1 - 1 ∧ a1 - 1 < 13) ∧
True))))))
def pf_X1_monthStart (a0 : Int) (a1 : Int) : Int :=
if a0 % 4 ≠ 0 then (((365 * a0) + ((a0 + 3) / 4)) + (msF (a1 - 1))) + 0 else if a1 ≤ 2 then (((365 * a0) + ((a0 + 3) / 4)) + (msF (a1 - 1))) + 0 else (((365 * a0) + ((a0 + 3) / 4)) + (msF (a1 - 1))) + 1
def pg_X1_monthStart (a0 : Int) (a1 : Int) : Prop :=
(0 ≤ a0 ∧ a0 < 2147483648) ∧
rg (a0 % 4) ∧
((a0 % 4 ≠ 0 → ((0 ≤ (a0 + 3) ∧ (a0 + 3) < 2147483648) ∧
(0 ≤ a1 - 1 ∧ a1 - 1 < 13) ∧
True)) ∧
(a0 % 4 = 0 → (rg a1 ∧
((a1 ≤ 2 → ((0 ≤ (a0 + 3) ∧ (a0 + 3) < 2147483648) ∧
(0 ≤ a1 - 1 ∧ a1 - 1 < 13) ∧
True)) ∧
(2 < a1 → ((0 ≤ (a0 + 3) ∧ (a0 + 3) < 2147483648) ∧
(0 ≤ a1 - 1 ∧ a1 - 1 < 13) ∧
True))))))
def wo_X10_day (M : jT) (a0 : Int) (a1 : Int) (a2 : Int) (a3 : Int) (Q : Int → Prop) : Prop :=
(pg_X10_isYear a1) ∧
∃ K16 : Int → Prop, (∀ (x15 : Int), K16 x15 → (wo_X10_needArgument M x15 (∃ K35 : Int → Prop, (∀ (x34 : Int), K35 x34 → (wo_X10_needArgument M x34 ((pg_X1_monthStart a1 a2) ∧
Q (((pf_X1_monthStart a1 a2) + a3) - 1)))) ∧
∃ K48 : Prop, (K48 → K35 0) ∧
rg a3 ∧
((a3 < 1 → K48) ∧
(1 ≤ a3 → ((pg_X1_monthLength a1 a2) ∧
rg (pf_X1_monthLength a1 a2) ∧
((pf_X1_monthLength a1 a2 < a3 → K48) ∧
(a3 ≤ pf_X1_monthLength a1 a2 → K35 1)))))))) ∧
∃ K61 : Prop, (K61 → K16 0) ∧
((¬ (pb_X10_isYear a1) → K61) ∧
(pb_X10_isYear a1 → ((pg_X10_isMonth a2) ∧
((¬ (pb_X10_isMonth a2) → K61) ∧
(pb_X10_isMonth a2 → K16 1)))))
def wp_X10_day (M : jT) (a0 : Int) (a1 : Int) (a2 : Int) (a3 : Int) (Q : Int → jT → Prop) (X : Nat → jT → Prop) : Prop :=
(pg_X10_isYear a1) ∧
∃ K16 : Int → Prop, (∀ (x15 : Int), K16 x15 → (((wo_X10_needArgument M x15 (∃ K35 : Int → Prop, (∀ (x34 : Int), K35 x34 → (((wo_X10_needArgument M x34 ((pg_X1_monthStart a1 a2) ∧
Q (((pf_X1_monthStart a1 a2) + a3) - 1) M)) ∨
(wp_X10_needArgument M x34 (fun _ => False) X)))) ∧
∃ K48 : Prop, (K48 → K35 0) ∧
rg a3 ∧
((a3 < 1 → K48) ∧
(1 ≤ a3 → ((pg_X1_monthLength a1 a2) ∧
rg (pf_X1_monthLength a1 a2) ∧
((pf_X1_monthLength a1 a2 < a3 → K48) ∧
(a3 ≤ pf_X1_monthLength a1 a2 → K35 1))))))) ∨
(wp_X10_needArgument M x15 (fun _ => False) X)))) ∧
∃ K61 : Prop, (K61 → K16 0) ∧
((¬ (pb_X10_isYear a1) → K61) ∧
(pb_X10_isYear a1 → ((pg_X10_isMonth a2) ∧
((¬ (pb_X10_isMonth a2) → K61) ∧
(pb_X10_isMonth a2 → K16 1)))))
abbrev pb_X10_isDay (a0 : Int) : Prop :=
0 ≤ a0 ∧ a0 ≤ 11687
def pg_X10_isDay (a0 : Int) : Prop :=
rg a0 ∧
((a0 < 0 → True) ∧
(0 ≤ a0 → (((11687 < a0 → True) ∧
(a0 ≤ 11687 → True)))))
def wo_X10_needIndex (M : jT) (a0 : Int) (Q : Prop) : Prop :=
rg a0 ∧
((a0 ≠ 0 → Q) ∧
(a0 = 0 → False))
def wp_X10_needIndex (M : jT) (a0 : Int) (Q : jT → Prop) (X : Nat → jT → Prop) : Prop :=
rg a0 ∧
((a0 ≠ 0 → Q M) ∧
(a0 = 0 → X 1 M))
def pf_X1_yearOf (a0 : Int) : Int :=
if 366 ≤ a0 % 1461 then ((a0 / 1461) * 4) + (((a0 % 1461) - 1) / 365) else ((a0 / 1461) * 4) + 0
def pg_X1_yearOf (a0 : Int) : Prop :=
(0 ≤ a0 ∧ a0 < 2147483648) ∧
rg (a0 % 1461) ∧
((366 ≤ a0 % 1461 → ((0 ≤ ((a0 % 1461) - 1) ∧ ((a0 % 1461) - 1) < 2147483648) ∧
True)) ∧
(a0 % 1461 < 366 → True))
def wp_X1_monthOf (M : jT) (a0 : Int) (a1 : Int) (Q : Int → Prop) : Prop :=
(0 ≤ (a0 + 3) ∧ (a0 + 3) < 2147483648) ∧
∀ x2 : Int, x2 = (a1 - (365 * a0)) - ((a0 + 3) / 4) →
∃ I5 : Nat → Int → Int → Prop, (∃ n6, I5 n6 1 1) ∧
∀ (n6 : Nat) (x3 : Int) (x4 : Int), I5 n6 x3 x4 →
rg x4 ∧
((12 ≤ x4 → Q x3) ∧
(x4 < 12 → ((0 ≤ a0 ∧ a0 < 2147483648) ∧
∃ K18 : Int → Prop, (∀ (x17 : Int), K18 x17 → ((0 ≤ x4 ∧ x4 < 13) ∧
(rg x2 ∧
rg ((msF x4) + x17) ∧
((x2 < (msF x4) + x17 → True) ∧
((msF x4) + x17 ≤ x2 → True))) ∧
∀ x28 : Int, x28 = x3 + (b2i ((msF x4) + x17 ≤ x2)) →
∀ x29 : Int, x29 = x4 + 1 →
∃ n30, n30 < n6 ∧ I5 n30 x28 x29)) ∧
∃ K34 : Prop, (K34 → K18 0) ∧
rg (a0 % 4) ∧
((a0 % 4 ≠ 0 → K34) ∧
(a0 % 4 = 0 → (((x4 ≤ 1 → K34) ∧
(1 < x4 → K18 1))))))))
def pf_X1_weekday (a0 : Int) : Int :=
(a0 + 5) % 7
def pg_X1_weekday (a0 : Int) : Prop :=
(0 ≤ (a0 + 5) ∧ (a0 + 5) < 2147483648) ∧
True
def pf_X1_yearStart (a0 : Int) : Int :=
(365 * a0) + ((a0 + 3) / 4)
def pg_X1_yearStart (a0 : Int) : Prop :=
(0 ≤ (a0 + 3) ∧ (a0 + 3) < 2147483648) ∧
True
def wo_X10_date (M : jT) (a0 : Int) (a1 : Int) (a2 : Int) (Q : Int → Prop) : Prop :=
(pg_X10_isDay a1) ∧
wo_X10_needIndex M (b2i (pb_X10_isDay a1)) (∃ K14 : Int → Prop, (∀ (x13 : Int), K14 x13 → (wo_X10_needArgument M x13 ((pg_X1_yearOf a1) ∧
∀ x20 : Int, x20 = pf_X1_yearOf a1 →
wp_X1_monthOf M x20 a1 (fun z21 =>
(pg_X1_monthStart x20 z21) ∧
∀ x26 : Int, x26 = (a1 - (pf_X1_monthStart x20 z21)) + 1 →
rg a2 ∧
((a2 = 0 → Q x20) ∧
(a2 = 1 → Q z21) ∧
(a2 = 2 → Q x26) ∧
(a2 = 3 → ((pg_X1_weekday a1) ∧
Q (pf_X1_weekday a1))) ∧
(a2 = 4 → ((pg_X1_yearStart x20) ∧
Q ((a1 - (pf_X1_yearStart x20)) + 1))) ∧
(a2 ≠ 0 ∧ a2 ≠ 1 ∧ a2 ≠ 2 ∧ a2 ≠ 3 ∧ a2 ≠ 4 → ((0 ≤ (x26 - 1) ∧ (x26 - 1) < 2147483648) ∧
Q (((x26 - 1) / 7) + 1)))))))) ∧
∃ K39 : Prop, (K39 → K14 0) ∧
rg a2 ∧
((a2 < 0 → K39) ∧
(0 ≤ a2 → (((5 < a2 → K39) ∧
(a2 ≤ 5 → K14 1))))))
def wp_X10_date (M : jT) (a0 : Int) (a1 : Int) (a2 : Int) (Q : Int → jT → Prop) (X : Nat → jT → Prop) : Prop :=
(pg_X10_isDay a1) ∧
((wo_X10_needIndex M (b2i (pb_X10_isDay a1)) (∃ K14 : Int → Prop, (∀ (x13 : Int), K14 x13 → (((wo_X10_needArgument M x13 ((pg_X1_yearOf a1) ∧
∀ x20 : Int, x20 = pf_X1_yearOf a1 →
wp_X1_monthOf M x20 a1 (fun z21 =>
(pg_X1_monthStart x20 z21) ∧
∀ x26 : Int, x26 = (a1 - (pf_X1_monthStart x20 z21)) + 1 →
rg a2 ∧
((a2 = 0 → Q x20 M) ∧
(a2 = 1 → Q z21 M) ∧
(a2 = 2 → Q x26 M) ∧
(a2 = 3 → ((pg_X1_weekday a1) ∧
Q (pf_X1_weekday a1) M)) ∧
(a2 = 4 → ((pg_X1_yearStart x20) ∧
Q ((a1 - (pf_X1_yearStart x20)) + 1) M)) ∧
(a2 ≠ 0 ∧ a2 ≠ 1 ∧ a2 ≠ 2 ∧ a2 ≠ 3 ∧ a2 ≠ 4 → ((0 ≤ (x26 - 1) ∧ (x26 - 1) < 2147483648) ∧
Q (((x26 - 1) / 7) + 1) M)))))) ∨
(wp_X10_needArgument M x13 (fun _ => False) X)))) ∧
∃ K39 : Prop, (K39 → K14 0) ∧
rg a2 ∧
((a2 < 0 → K39) ∧
(0 ≤ a2 → (((5 < a2 → K39) ∧
(a2 ≤ 5 → K14 1))))))) ∨
(wp_X10_needIndex M (b2i (pb_X10_isDay a1)) (fun _ => False) X))
abbrev pb_X10_isBase (a0 : Int) : Prop :=
(-720) ≤ a0 ∧ a0 ≤ 840
def pg_X10_isBase (a0 : Int) : Prop :=
rg a0 ∧
((a0 < (-720) → True) ∧
((-720) ≤ a0 → (((840 < a0 → True) ∧
(a0 ≤ 840 → True)))))
def pf_X10_zoneFault (M : jT) (a0 : Int) (a1 : Int) : Int :=
if pb_X10_isBase a1 then (if 6 ≤ M (a0 + 1) 0 then 3 else 0) else 2
def pg_X10_zoneFault (M : jT) (a0 : Int) (a1 : Int) : Prop :=
(pg_X10_isBase a1) ∧
((pb_X10_isBase a1 → (rg (M (a0 + 1) 0) ∧
((6 ≤ M (a0 + 1) 0 → True) ∧
(M (a0 + 1) 0 < 6 → True)))) ∧
(¬ (pb_X10_isBase a1) → True))
def wo_X10_refuse (M : jT) (a0 : Int) (Q : Prop) : Prop :=
(rg a0 ∧
((a0 = 1 → True) ∧
(a0 ≠ 1 → True))) ∧
wo_X10_needIndex M (b2i (a0 ≠ 1)) ((rg a0 ∧
((a0 = 2 → True) ∧
(a0 ≠ 2 → True))) ∧
wo_X10_needArgument M (b2i (a0 ≠ 2)) (rg a0 ∧
((a0 ≠ 3 → Q) ∧
(a0 = 3 → False))))
def wp_X10_refuse (M : jT) (a0 : Int) (Q : jT → Prop) (X : Nat → jT → Prop) : Prop :=
(rg a0 ∧
((a0 = 1 → True) ∧
(a0 ≠ 1 → True))) ∧
((wo_X10_needIndex M (b2i (a0 ≠ 1)) ((rg a0 ∧
((a0 = 2 → True) ∧
(a0 ≠ 2 → True))) ∧
((wo_X10_needArgument M (b2i (a0 ≠ 2)) (rg a0 ∧
((a0 ≠ 3 → Q M) ∧
(a0 = 3 → X 3 M)))) ∨
(wp_X10_needArgument M (b2i (a0 ≠ 2)) (fun _ => False) X)))) ∨
(wp_X10_needIndex M (b2i (a0 ≠ 1)) (fun _ => False) X))
def wp_X9_copyFrom (M : jT) (a0 : Int) (a1 : Int) (Q : jT → Prop) : Prop :=
∀ M1 : jT, M1 = up M a0 0 (M a1 0) →
∀ M2 : jT, M2 = up M1 a0 1 (M1 a1 1) →
∀ M3 : jT, M3 = up M2 a0 2 (M2 a1 2) →
((0 : Int) ≤ (0 : Int) ∧ (0 : Int) ≤ (0 : Int) ∧ (0 : Int) ≤ ((M3 a0 1) * 7) ∧ (0 : Int) + ((M3 a0 1) * 7) ≤ 56 ∧ (0 : Int) + ((M3 a0 1) * 7) ≤ 56) ∧
∀ M5 : jT, M5 = upw M3 (a0 + 1) (cpy (M3 (a1 + 1)) (M3 (a0 + 1)) 0 0 ((M3 a0 1) * 7)) →
((0 : Int) ≤ (0 : Int) ∧ (0 : Int) ≤ (0 : Int) ∧ (0 : Int) ≤ (M5 a0 2) ∧ (0 : Int) + (M5 a0 2) ≤ 4 ∧ (0 : Int) + (M5 a0 2) ≤ 4) ∧
∀ M7 : jT, M7 = upw M5 (a0 + 2) (cpy (M5 (a1 + 2)) (M5 (a0 + 2)) 0 0 (M5 a0 2)) →
((0 : Int) ≤ (0 : Int) ∧ (0 : Int) ≤ (0 : Int) ∧ (0 : Int) ≤ (M7 a0 2) ∧ (0 : Int) + (M7 a0 2) ≤ 4 ∧ (0 : Int) + (M7 a0 2) ≤ 4) ∧
∀ M9 : jT, M9 = upw M7 (a0 + 3) (cpy (M7 (a1 + 3)) (M7 (a0 + 3)) 0 0 (M7 a0 2)) →
Q M9
def wp_X4_copyFrom (M : jT) (a0 : Int) (a1 : Int) (Q : jT → Prop) : Prop :=
∀ M1 : jT, M1 = up M a0 0 (M a1 0) →
∀ M2 : jT, M2 = up M1 a0 1 (M1 a1 1) →
∀ M3 : jT, M3 = up M2 a0 2 (M2 a1 2) →
∀ M4 : jT, M4 = up M3 a0 3 (M3 a1 3) →
∀ M5 : jT, M5 = up M4 a0 4 (M4 a1 4) →
∀ M6 : jT, M6 = up M5 a0 5 (M5 a1 5) →
∀ M7 : jT, M7 = up M6 a0 6 (M6 a1 6) →
∀ M8 : jT, M8 = up M7 a0 7 (M7 a1 7) →
∀ M9 : jT, M9 = up M8 a0 8 (M8 a1 8) →
∀ M10 : jT, M10 = up M9 a0 9 (M9 a1 9) →
((0 : Int) ≤ (0 : Int) ∧ (0 : Int) ≤ (0 : Int) ∧ (0 : Int) ≤ (40 : Int) ∧ (0 : Int) + (40 : Int) ≤ 40 ∧ (0 : Int) + (40 : Int) ≤ 40) ∧
∀ M12 : jT, M12 = upw M10 (a0 + 1) (cpy (M10 (a1 + 1)) (M10 (a0 + 1)) 0 0 40) →
Q M12
def wp_X0_copyFrom (M : jT) (a0 : Int) (a1 : Int) (Q : jT → Prop) : Prop :=
∀ M1 : jT, M1 = up M a0 0 (M a1 0) →
∀ M2 : jT, M2 = up M1 a0 1 (M1 a1 1) →
∃ I5 : Nat → Int → jT → Prop, (∃ n6, I5 n6 0 M2) ∧
∀ (n6 : Nat) (x3 : Int) (M4 : jT), I5 n6 x3 M4 →
rg x3 ∧
rg (M4 a0 0) ∧
((M4 a0 0 ≤ x3 → (∃ I12 : Nat → Int → jT → Prop, (∃ n13, I12 n13 0 M4) ∧
∀ (n13 : Nat) (x10 : Int) (M11 : jT), I12 n13 x10 M11 →
rg x10 ∧
rg (M11 a0 1) ∧
((M11 a0 1 ≤ x10 → Q M11) ∧
(x10 < M11 a0 1 → ((0 ≤ x10 ∧ x10 < 10) ∧
wp_X4_copyFrom M11 (a0 + 2 * x10 + 27) (a1 + 2 * x10 + 27) (fun M21 =>
∀ x22 : Int, x22 = x10 + 1 →
∃ n23, n23 < n13 ∧ I12 n23 x22 M21)))))) ∧
(x3 < M4 a0 0 → ((0 ≤ x3 ∧ x3 < 6) ∧
wp_X9_copyFrom M4 (a0 + 4 * x3 + 3) (a1 + 4 * x3 + 3) (fun M28 =>
∀ x29 : Int, x29 = x3 + 1 →
∃ n30, n30 < n6 ∧ I5 n30 x29 M28))))
def wp_X3_keep (M : jT) (a0 : Int) (a1 : Int) (Q : jT → Prop) : Prop :=
(0 ≤ M a0 3 ∧ M a0 3 < 9) ∧
wp_X0_copyFrom M (a0 + 47 * (M a0 3) + 49) a1 (fun M4 =>
Q M4)
def wp_X3_push (M : jT) (a0 : Int) (Q : jT → Prop) : Prop :=
(0 ≤ ((M a0 3) + 1) ∧ ((M a0 3) + 1) < 2147483648) ∧
∀ M2 : jT, M2 = up M a0 3 (((M a0 3) + 1) % 9) →
rg ((M2 a0 0) + 1) ∧
∀ M4 : jT, M4 = up M2 a0 0 (min ((M2 a0 0) + 1) 8) →
Q M4
def wp_X10_remember (M : jT) (a0 : Int) (Q : jT → Prop) : Prop :=
wp_X3_keep M (a0 + 48) (a0 + 1) (fun M2 =>
wp_X3_push M2 (a0 + 48) (fun M4 =>
Q M4))
def wp_X9_begin (M : jT) (a0 : Int) (a1 : Int) (Q : jT → Prop) : Prop :=
∀ M1 : jT, M1 = up M a0 0 a1 →
∀ M2 : jT, M2 = up M1 a0 1 0 →
∀ M3 : jT, M3 = up M2 a0 2 0 →
Q M3
def wp_X10_spoil (M : jT) (a0 : Int) (a1 : Int) (Q : jT → Prop) : Prop :=
(0 ≤ a1 ∧ a1 < 6) ∧
∀ M3 : jT, M3 = up M (a0 + 8 * a1 + 521) 0 0 →
∃ I6 : Nat → Int → jT → Prop, (∃ n7, I6 n7 0 M3) ∧
∀ (n7 : Nat) (x4 : Int) (M5 : jT), I6 n7 x4 M5 →
rg x4 ∧
((10 ≤ x4 → Q M5) ∧
(x4 < 10 → ((0 ≤ x4 ∧ x4 < 10) ∧
∀ M12 : jT, M12 = up M5 (a0 + 3 * x4 + 570) 1 0 →
∀ x13 : Int, x13 = x4 + 1 →
∃ n14, n14 < n7 ∧ I6 n14 x13 M12)))
def wp_X10_putZone (M : jT) (a0 : Int) (a1 : Int) (Q : Int → jT → Prop) : Prop :=
∀ x1 : Int, x1 = M (a0 + 1) 0 →
(0 ≤ x1 ∧ x1 < 6) ∧
wp_X9_begin M (a0 + 4 * x1 + 4) a1 (fun M5 =>
∀ M6 : jT, M6 = up M5 (a0 + 1) 0 (x1 + 1) →
wp_X10_spoil M6 a0 x1 (fun M8 =>
Q x1 M8))
def wo_X10_addZone (M : jT) (a0 : Int) (a1 : Int) (Q : Int → jT → Prop) : Prop :=
(pg_X10_zoneFault M a0 a1) ∧
wo_X10_refuse M (pf_X10_zoneFault M a0 a1) (wp_X10_remember M a0 (fun M7 =>
wp_X10_putZone M7 a0 a1 (fun z8 M9 =>
Q z8 M9)))
def wp_X10_addZone (M : jT) (a0 : Int) (a1 : Int) (Q : Int → jT → Prop) (X : Nat → jT → Prop) : Prop :=
(pg_X10_zoneFault M a0 a1) ∧
((wo_X10_refuse M (pf_X10_zoneFault M a0 a1) (wp_X10_remember M a0 (fun M7 =>
wp_X10_putZone M7 a0 a1 (fun z8 M9 =>
Q z8 M9)))) ∨
(wp_X10_refuse M (pf_X10_zoneFault M a0 a1) (fun _ => False) X))
abbrev pb_X10_hasZone (M : jT) (a0 : Int) (a1 : Int) : Prop :=
0 ≤ a1 ∧ a1 < M (a0 + 1) 0
def pg_X10_hasZone (M : jT) (a0 : Int) (a1 : Int) : Prop :=
rg a1 ∧
((a1 < 0 → True) ∧
(0 ≤ a1 → (rg (M (a0 + 1) 0) ∧
((M (a0 + 1) 0 ≤ a1 → True) ∧
(a1 < M (a0 + 1) 0 → True)))))
def pf_X10_changeFault (M : jT) (a0 : Int) (a1 : Int) (a2 : Int) (a3 : Int) : Int :=
if pb_X10_hasZone M a0 a1 then (if ¬ (pb_X10_isDay a2) then 2 else if pb_X10_isBase a3 then (if 4 ≤ M (a0 + 4 * a1 + 4) 2 then 3 else 0) else 2) else 1
def pg_X10_changeFault (M : jT) (a0 : Int) (a1 : Int) (a2 : Int) (a3 : Int) : Prop :=
(pg_X10_hasZone M a0 a1) ∧
((pb_X10_hasZone M a0 a1 → ((pg_X10_isDay a2) ∧
((¬ (pb_X10_isDay a2) → True) ∧
(pb_X10_isDay a2 → ((pg_X10_isBase a3) ∧
((pb_X10_isBase a3 → ((0 ≤ a1 ∧ a1 < 6) ∧
rg (M (a0 + 4 * a1 + 4) 2) ∧
((4 ≤ M (a0 + 4 * a1 + 4) 2 → True) ∧
(M (a0 + 4 * a1 + 4) 2 < 4 → True)))) ∧
(¬ (pb_X10_isBase a3) → True))))))) ∧
(¬ (pb_X10_hasZone M a0 a1) → True))
def wp_X9_putChange (M : jT) (a0 : Int) (a1 : Int) (a2 : Int) (Q : Int → jT → Prop) : Prop :=
(0 ≤ M a0 2 ∧ M a0 2 < 4) ∧
∀ M2 : jT, M2 = up M (a0 + 2) (M a0 2) a1 →
(0 ≤ M2 a0 2 ∧ M2 a0 2 < 4) ∧
∀ M4 : jT, M4 = up M2 (a0 + 3) (M2 a0 2) a2 →
∀ M5 : jT, M5 = up M4 a0 2 ((M4 a0 2) + 1) →
Q ((M5 a0 2) - 1) M5
def wp_X10_putChange (M : jT) (a0 : Int) (a1 : Int) (a2 : Int) (a3 : Int) (Q : Int → jT → Prop) : Prop :=
(0 ≤ a1 ∧ a1 < 6) ∧
wp_X9_putChange M (a0 + 4 * a1 + 4) a2 a3 (fun z3 M4 =>
wp_X10_spoil M4 a0 a1 (fun M6 =>
Q z3 M6))
def wo_X10_changeBase (M : jT) (a0 : Int) (a1 : Int) (a2 : Int) (a3 : Int) (Q : Int → jT → Prop) : Prop :=
(pg_X10_changeFault M a0 a1 a2 a3) ∧
wo_X10_refuse M (pf_X10_changeFault M a0 a1 a2 a3) (wp_X10_remember M a0 (fun M7 =>
wp_X10_putChange M7 a0 a1 a2 a3 (fun z8 M9 =>
Q z8 M9)))
def wp_X10_changeBase (M : jT) (a0 : Int) (a1 : Int) (a2 : Int) (a3 : Int) (Q : Int → jT → Prop) (X : Nat → jT → Prop) : Prop :=
(pg_X10_changeFault M a0 a1 a2 a3) ∧
((wo_X10_refuse M (pf_X10_changeFault M a0 a1 a2 a3) (wp_X10_remember M a0 (fun M7 =>
wp_X10_putChange M7 a0 a1 a2 a3 (fun z8 M9 =>
Q z8 M9)))) ∨
(wp_X10_refuse M (pf_X10_changeFault M a0 a1 a2 a3) (fun _ => False) X))
abbrev pb_X10_isDate (a0 : Int) : Prop :=
(100 ≤ a0 ∧ ((1000 ≤ a0 ∧ 1010 ≤ a0 ∧ a0 ≤ 1316 ∧ a0 % 10 ≤ 6) ∨ (a0 < 1000 ∧ a0 / 100 ≤ 5 ∧ a0 % 100 ≤ 6))) ∨ (a0 < 100 ∧ 1 ≤ a0 ∧ a0 ≤ 31)
def pg_X10_isDate (a0 : Int) : Prop :=
rg a0 ∧
((100 ≤ a0 → (((1000 ≤ a0 → (((a0 < 1010 → True) ∧
(1010 ≤ a0 → (((1316 < a0 → True) ∧
(a0 ≤ 1316 → ((0 ≤ a0 ∧ a0 < 2147483648) ∧
rg (a0 % 10) ∧
((6 < a0 % 10 → True) ∧
(a0 % 10 ≤ 6 → True)))))))))) ∧
(a0 < 1000 → ((0 ≤ a0 ∧ a0 < 2147483648) ∧
rg (a0 / 100) ∧
((5 < a0 / 100 → True) ∧
(a0 / 100 ≤ 5 → (rg (a0 % 100) ∧
((6 < a0 % 100 → True) ∧
(a0 % 100 ≤ 6 → True)))))))))) ∧
(a0 < 100 → (((a0 < 1 → True) ∧
(1 ≤ a0 → (((31 < a0 → True) ∧
(a0 ≤ 31 → True))))))))
def wp_X10_ruleFault (M : jT) (a0 : Int) (a1 : Int) (a2 : Int) (a3 : Int) (a4 : Int) (a5 : Int) (a6 : Int) (Q : Int → Prop) : Prop :=
(pg_X10_hasZone M a0 a1) ∧
((pb_X10_hasZone M a0 a1 → (∃ K23 : Int → Prop, (∀ (x22 : Int), K23 x22 → (∃ K40 : Int → Prop, (∀ (x39 : Int), K40 x39 → (∃ K49 : Int → Prop, (∀ (x48 : Int), K49 x48 → (∃ K72 : Prop, (K72 → Q 2) ∧
rg x22 ∧
((x22 = 0 → K72) ∧
(x22 ≠ 0 → ((pg_X10_isMonth a3) ∧
((¬ (pb_X10_isMonth a3) → K72) ∧
(pb_X10_isMonth a3 → ((pg_X10_isDate a4) ∧
((¬ (pb_X10_isDate a4) → K72) ∧
(pb_X10_isDate a4 → (rg x39 ∧
((x39 = 0 → K72) ∧
(x39 ≠ 0 → (rg x48 ∧
((x48 ≠ 0 → ((0 ≤ a1 ∧ a1 < 6) ∧
(rg (M (a0 + 4 * a1 + 4) 1) ∧
((8 ≤ M (a0 + 4 * a1 + 4) 1 → True) ∧
(M (a0 + 4 * a1 + 4) 1 < 8 → True))) ∧
(∀ x91 : Int, (8 ≤ M (a0 + 4 * a1 + 4) 1 → x91 = 3) → (M (a0 + 4 * a1 + 4) 1 < 8 → x91 = 0) → 
Q x91))) ∧
(x48 = 0 → K72)))))))))))))))) ∧
∃ K98 : Prop, (K98 → K49 0) ∧
rg a6 ∧
((a6 < 0 → K98) ∧
(0 ≤ a6 → (((120 < a6 → K98) ∧
(a6 ≤ 120 → K49 1))))))) ∧
∃ K109 : Prop, (K109 → K40 0) ∧
rg a5 ∧
((a5 < 0 → K109) ∧
(0 ≤ a5 → ((0 ≤ a5 ∧ a5 < 2147483648) ∧
rg (a5 / 10) ∧
((1440 ≤ a5 / 10 → K109) ∧
(a5 / 10 < 1440 → (rg (a5 % 10) ∧
((2 < a5 % 10 → K109) ∧
(a5 % 10 ≤ 2 → K40 1)))))))))) ∧
∃ K125 : Prop, (K125 → K23 0) ∧
rg a2 ∧
((a2 < 0 → K125) ∧
(0 ≤ a2 → ((0 ≤ a2 ∧ a2 < 2147483648) ∧
rg (a2 / 100) ∧
((32 ≤ a2 / 100 → K125) ∧
(a2 / 100 < 32 → (rg (a2 % 100) ∧
((32 ≤ a2 % 100 → K125) ∧
(a2 % 100 < 32 → (((a2 % 100 < a2 / 100 → K125) ∧
(a2 / 100 ≤ a2 % 100 → K23 1))))))))))))) ∧
(¬ (pb_X10_hasZone M a0 a1) → Q 1))
def wp_X9_putRule (M : jT) (a0 : Int) (a1 : Int) (a2 : Int) (a3 : Int) (a4 : Int) (a5 : Int) (Q : Int → jT → Prop) : Prop :=
∀ x1 : Int, x1 = (M a0 1) * 7 →
(0 ≤ a1 ∧ a1 < 2147483648) ∧
(0 ≤ x1 + 0 ∧ x1 + 0 < 56) ∧
∀ M4 : jT, M4 = up M (a0 + 1) (x1 + 0) (a1 / 100) →
(0 ≤ x1 + 1 ∧ x1 + 1 < 56) ∧
∀ M6 : jT, M6 = up M4 (a0 + 1) (x1 + 1) (a1 % 100) →
(0 ≤ x1 + 2 ∧ x1 + 2 < 56) ∧
∀ M8 : jT, M8 = up M6 (a0 + 1) (x1 + 2) a2 →
(0 ≤ x1 + 3 ∧ x1 + 3 < 56) ∧
∀ M10 : jT, M10 = up M8 (a0 + 1) (x1 + 3) a3 →
(0 ≤ a4 ∧ a4 < 2147483648) ∧
(0 ≤ x1 + 4 ∧ x1 + 4 < 56) ∧
∀ M13 : jT, M13 = up M10 (a0 + 1) (x1 + 4) (a4 / 10) →
(0 ≤ x1 + 5 ∧ x1 + 5 < 56) ∧
∀ M15 : jT, M15 = up M13 (a0 + 1) (x1 + 5) (a4 % 10) →
(0 ≤ x1 + 6 ∧ x1 + 6 < 56) ∧
∀ M17 : jT, M17 = up M15 (a0 + 1) (x1 + 6) a5 →
∀ M18 : jT, M18 = up M17 a0 1 ((M17 a0 1) + 1) →
Q ((M18 a0 1) - 1) M18
def wp_X10_putRule (M : jT) (a0 : Int) (a1 : Int) (a2 : Int) (a3 : Int) (a4 : Int) (a5 : Int) (a6 : Int) (Q : Int → jT → Prop) : Prop :=
(0 ≤ a1 ∧ a1 < 6) ∧
wp_X9_putRule M (a0 + 4 * a1 + 4) a2 a3 a4 a5 a6 (fun z3 M4 =>
wp_X10_spoil M4 a0 a1 (fun M6 =>
Q z3 M6))
def wo_X10_addRule (M : jT) (a0 : Int) (a1 : Int) (a2 : Int) (a3 : Int) (a4 : Int) (a5 : Int) (a6 : Int) (Q : Int → jT → Prop) : Prop :=
wp_X10_ruleFault M a0 a1 a2 a3 a4 a5 a6 (fun z1 =>
wo_X10_refuse M z1 (wp_X10_remember M a0 (fun M6 =>
wp_X10_putRule M6 a0 a1 a2 a3 a4 a5 a6 (fun z7 M8 =>
Q z7 M8))))
def wp_X10_addRule (M : jT) (a0 : Int) (a1 : Int) (a2 : Int) (a3 : Int) (a4 : Int) (a5 : Int) (a6 : Int) (Q : Int → jT → Prop) (X : Nat → jT → Prop) : Prop :=
wp_X10_ruleFault M a0 a1 a2 a3 a4 a5 a6 (fun z1 =>
((wo_X10_refuse M z1 (wp_X10_remember M a0 (fun M6 =>
wp_X10_putRule M6 a0 a1 a2 a3 a4 a5 a6 (fun z7 M8 =>
Q z7 M8)))) ∨
(wp_X10_refuse M z1 (fun _ => False) X)))
def pf_X10_ruleIndexFault (M : jT) (a0 : Int) (a1 : Int) (a2 : Int) : Int :=
if ¬ (pb_X10_hasZone M a0 a1) then 1 else if a2 < 0 then 1 else if M (a0 + 4 * a1 + 4) 1 ≤ a2 then 1 else 0
def pg_X10_ruleIndexFault (M : jT) (a0 : Int) (a1 : Int) (a2 : Int) : Prop :=
(pg_X10_hasZone M a0 a1) ∧
((¬ (pb_X10_hasZone M a0 a1) → True) ∧
(pb_X10_hasZone M a0 a1 → (rg a2 ∧
((a2 < 0 → True) ∧
(0 ≤ a2 → ((0 ≤ a1 ∧ a1 < 6) ∧
rg (M (a0 + 4 * a1 + 4) 1) ∧
((M (a0 + 4 * a1 + 4) 1 ≤ a2 → True) ∧
(a2 < M (a0 + 4 * a1 + 4) 1 → True))))))))
def wp_X9_takeRule (M : jT) (a0 : Int) (a1 : Int) (Q : jT → Prop) : Prop :=
∀ x1 : Int, x1 = (a1 + 1) * 7 →
((0 : Int) ≤ x1 ∧ (0 : Int) ≤ (a1 * 7) ∧ (0 : Int) ≤ (((M a0 1) * 7) - x1) ∧ x1 + (((M a0 1) * 7) - x1) ≤ 56 ∧ (a1 * 7) + (((M a0 1) * 7) - x1) ≤ 56) ∧
∀ M3 : jT, M3 = upw M (a0 + 1) (cpy (M (a0 + 1)) (M (a0 + 1)) x1 (a1 * 7) (((M a0 1) * 7) - x1)) →
∀ M4 : jT, M4 = up M3 a0 1 ((M3 a0 1) - 1) →
Q M4
def wp_X10_takeRule (M : jT) (a0 : Int) (a1 : Int) (a2 : Int) (Q : Int → jT → Prop) : Prop :=
(0 ≤ a1 ∧ a1 < 6) ∧
wp_X9_takeRule M (a0 + 4 * a1 + 4) a2 (fun M4 =>
wp_X10_spoil M4 a0 a1 (fun M6 =>
Q (M6 (a0 + 4 * a1 + 4) 1) M6))
def wo_X10_dropRule (M : jT) (a0 : Int) (a1 : Int) (a2 : Int) (Q : Int → jT → Prop) : Prop :=
(pg_X10_ruleIndexFault M a0 a1 a2) ∧
wo_X10_refuse M (pf_X10_ruleIndexFault M a0 a1 a2) (wp_X10_remember M a0 (fun M7 =>
wp_X10_takeRule M7 a0 a1 a2 (fun z8 M9 =>
Q z8 M9)))
def wp_X10_dropRule (M : jT) (a0 : Int) (a1 : Int) (a2 : Int) (Q : Int → jT → Prop) (X : Nat → jT → Prop) : Prop :=
(pg_X10_ruleIndexFault M a0 a1 a2) ∧
((wo_X10_refuse M (pf_X10_ruleIndexFault M a0 a1 a2) (wp_X10_remember M a0 (fun M7 =>
wp_X10_takeRule M7 a0 a1 a2 (fun z8 M9 =>
Q z8 M9)))) ∨
(wp_X10_refuse M (pf_X10_ruleIndexFault M a0 a1 a2) (fun _ => False) X))
def wo_X10_needZone (M : jT) (a0 : Int) (a1 : Int) (Q : Prop) : Prop :=
(pg_X10_hasZone M a0 a1) ∧
wo_X10_needIndex M (b2i (pb_X10_hasZone M a0 a1)) (Q)
def wp_X10_needZone (M : jT) (a0 : Int) (a1 : Int) (Q : jT → Prop) (X : Nat → jT → Prop) : Prop :=
(pg_X10_hasZone M a0 a1) ∧
((wo_X10_needIndex M (b2i (pb_X10_hasZone M a0 a1)) (Q M)) ∨
(wp_X10_needIndex M (b2i (pb_X10_hasZone M a0 a1)) (fun _ => False) X))
def pf_X9_ruleNumber (M : jT) (a0 : Int) (a1 : Int) (a2 : Int) : Int :=
M (a0 + 1) ((a1 * 7) + a2)
def pg_X9_ruleNumber (M : jT) (a0 : Int) (a1 : Int) (a2 : Int) : Prop :=
(0 ≤ (a1 * 7) + a2 ∧ (a1 * 7) + a2 < 56) ∧
True
def wp_X9_putKey (M : jT) (a0 : Int) (a1 : Int) (a2 : Int) (a3 : Int) (a4 : Int) (Q : Int → jT → Prop) : Prop :=
∃ K21 : Prop, (K21 → Q a2 M) ∧
rg a3 ∧
((a3 < 0 → K21) ∧
(0 ≤ a3 → (rg a2 ∧
((a2 < 260 → ((rg a4 ∧
((4 ≤ a4 → ((pg_X9_ruleNumber M a0 (a4 - 4) 4) ∧
True)) ∧
(a4 < 4 → True))) ∧
(∀ x31 : Int, (4 ≤ a4 → x31 = pf_X9_ruleNumber M a0 (a4 - 4) 4) → (a4 < 4 → x31 = 0) → 
rg ((1440 * a3) + x31) ∧
rg a4 ∧
(0 ≤ a2 ∧ a2 < 260) ∧
∀ M41 : jT, M41 = up M a1 a2 ((((1440 * a3) + x31) * 16) + a4) →
Q (a2 + 1) M41))) ∧
(260 ≤ a2 → K21)))))
def pf_X1_weekdayFrom (a0 : Int) (a1 : Int) : Int :=
a0 + (((a1 - ((a0 + 5) % 7)) + 7) % 7)
def pg_X1_weekdayFrom (a0 : Int) (a1 : Int) : Prop :=
(0 ≤ (a0 + 5) ∧ (a0 + 5) < 2147483648) ∧
(0 ≤ ((a1 - ((a0 + 5) % 7)) + 7) ∧ ((a1 - ((a0 + 5) % 7)) + 7) < 2147483648) ∧
True
def pf_X1_dayOfDate (a0 : Int) (a1 : Int) (a2 : Int) : Int :=
if 31 < a2 then (if 500 ≤ a2 then (if 1000 ≤ a2 then (if (pf_X1_monthStart a0 a1) + (pf_X1_monthLength a0 a1) ≤ pf_X1_weekdayFrom (((pf_X1_monthStart a0 a1) + ((a2 - 1000) / 10)) - 1) (a2 % 10) then (-1) else pf_X1_weekdayFrom (((pf_X1_monthStart a0 a1) + ((a2 - 1000) / 10)) - 1) (a2 % 10)) else if (pf_X1_monthStart a0 a1) + (pf_X1_monthLength a0 a1) ≤ pf_X1_weekdayFrom (((pf_X1_monthStart a0 a1) + (pf_X1_monthLength a0 a1)) - 7) (a2 % 100) then (-1) else pf_X1_weekdayFrom (((pf_X1_monthStart a0 a1) + (pf_X1_monthLength a0 a1)) - 7) (a2 % 100)) else if (pf_X1_monthStart a0 a1) + (pf_X1_monthLength a0 a1) ≤ (pf_X1_weekdayFrom (pf_X1_monthStart a0 a1) (a2 % 100)) + (7 * ((a2 / 100) - 1)) then (-1) else (pf_X1_weekdayFrom (pf_X1_monthStart a0 a1) (a2 % 100)) + (7 * ((a2 / 100) - 1))) else if (pf_X1_monthStart a0 a1) + (pf_X1_monthLength a0 a1) ≤ ((pf_X1_monthStart a0 a1) + a2) - 1 then (-1) else ((pf_X1_monthStart a0 a1) + a2) - 1
def pg_X1_dayOfDate (a0 : Int) (a1 : Int) (a2 : Int) : Prop :=
(pg_X1_monthStart a0 a1) ∧
(pg_X1_monthLength a0 a1) ∧
rg a2 ∧
((31 < a2 → (((500 ≤ a2 → (((1000 ≤ a2 → ((0 ≤ (a2 - 1000) ∧ (a2 - 1000) < 2147483648) ∧
(0 ≤ a2 ∧ a2 < 2147483648) ∧
(pg_X1_weekdayFrom (((pf_X1_monthStart a0 a1) + ((a2 - 1000) / 10)) - 1) (a2 % 10)) ∧
rg (pf_X1_weekdayFrom (((pf_X1_monthStart a0 a1) + ((a2 - 1000) / 10)) - 1) (a2 % 10)) ∧
rg ((pf_X1_monthStart a0 a1) + (pf_X1_monthLength a0 a1)) ∧
(((pf_X1_monthStart a0 a1) + (pf_X1_monthLength a0 a1) ≤ pf_X1_weekdayFrom (((pf_X1_monthStart a0 a1) + ((a2 - 1000) / 10)) - 1) (a2 % 10) → True) ∧
(pf_X1_weekdayFrom (((pf_X1_monthStart a0 a1) + ((a2 - 1000) / 10)) - 1) (a2 % 10) < (pf_X1_monthStart a0 a1) + (pf_X1_monthLength a0 a1) → True)))) ∧
(a2 < 1000 → ((0 ≤ a2 ∧ a2 < 2147483648) ∧
(pg_X1_weekdayFrom (((pf_X1_monthStart a0 a1) + (pf_X1_monthLength a0 a1)) - 7) (a2 % 100)) ∧
rg (pf_X1_weekdayFrom (((pf_X1_monthStart a0 a1) + (pf_X1_monthLength a0 a1)) - 7) (a2 % 100)) ∧
rg ((pf_X1_monthStart a0 a1) + (pf_X1_monthLength a0 a1)) ∧
(((pf_X1_monthStart a0 a1) + (pf_X1_monthLength a0 a1) ≤ pf_X1_weekdayFrom (((pf_X1_monthStart a0 a1) + (pf_X1_monthLength a0 a1)) - 7) (a2 % 100) → True) ∧
(pf_X1_weekdayFrom (((pf_X1_monthStart a0 a1) + (pf_X1_monthLength a0 a1)) - 7) (a2 % 100) < (pf_X1_monthStart a0 a1) + (pf_X1_monthLength a0 a1) → True))))))) ∧
(a2 < 500 → ((0 ≤ a2 ∧ a2 < 2147483648) ∧
(pg_X1_weekdayFrom (pf_X1_monthStart a0 a1) (a2 % 100)) ∧
rg ((pf_X1_weekdayFrom (pf_X1_monthStart a0 a1) (a2 % 100)) + (7 * ((a2 / 100) - 1))) ∧
rg ((pf_X1_monthStart a0 a1) + (pf_X1_monthLength a0 a1)) ∧
(((pf_X1_monthStart a0 a1) + (pf_X1_monthLength a0 a1) ≤ (pf_X1_weekdayFrom (pf_X1_monthStart a0 a1) (a2 % 100)) + (7 * ((a2 / 100) - 1)) → True) ∧
((pf_X1_weekdayFrom (pf_X1_monthStart a0 a1) (a2 % 100)) + (7 * ((a2 / 100) - 1)) < (pf_X1_monthStart a0 a1) + (pf_X1_monthLength a0 a1) → True))))))) ∧
(a2 ≤ 31 → (rg (((pf_X1_monthStart a0 a1) + a2) - 1) ∧
rg ((pf_X1_monthStart a0 a1) + (pf_X1_monthLength a0 a1)) ∧
(((pf_X1_monthStart a0 a1) + (pf_X1_monthLength a0 a1) ≤ ((pf_X1_monthStart a0 a1) + a2) - 1 → True) ∧
(((pf_X1_monthStart a0 a1) + a2) - 1 < (pf_X1_monthStart a0 a1) + (pf_X1_monthLength a0 a1) → True)))))
def wp_X9_listEvents (M : jT) (a0 : Int) (a1 : Int) (Q : Int → jT → Prop) : Prop :=
∃ I4 : Nat → Int → Int → jT → Prop, (∃ n5, I4 n5 0 0 M) ∧
∀ (n5 : Nat) (x1 : Int) (x2 : Int) (M3 : jT), I4 n5 x1 x2 M3 →
rg x2 ∧
rg (M3 a0 2) ∧
((M3 a0 2 ≤ x2 → (∃ I12 : Nat → Int → Int → jT → Prop, (∃ n13, I12 n13 x1 0 M3) ∧
∀ (n13 : Nat) (x9 : Int) (x10 : Int) (M11 : jT), I12 n13 x9 x10 M11 →
rg x10 ∧
rg (M11 a0 1) ∧
((M11 a0 1 ≤ x10 → Q x9 M11) ∧
(x10 < M11 a0 1 → ((pg_X9_ruleNumber M11 a0 x10 2) ∧
∀ x20 : Int, x20 = pf_X9_ruleNumber M11 a0 x10 2 →
(pg_X9_ruleNumber M11 a0 x10 3) ∧
∀ x24 : Int, x24 = pf_X9_ruleNumber M11 a0 x10 3 →
(pg_X9_ruleNumber M11 a0 x10 1) ∧
∀ x28 : Int, x28 = pf_X9_ruleNumber M11 a0 x10 1 →
(pg_X9_ruleNumber M11 a0 x10 0) ∧
∀ x32 : Int, x32 = pf_X9_ruleNumber M11 a0 x10 0 →
∃ I36 : Nat → Int → Int → jT → Prop, (∃ n37, I36 n37 x9 x32 M11) ∧
∀ (n37 : Nat) (x33 : Int) (x34 : Int) (M35 : jT), I36 n37 x33 x34 M35 →
rg x34 ∧
rg x28 ∧
((x28 < x34 → (∀ x41 : Int, x41 = x10 + 1 →
∃ n42, n42 < n13 ∧ I12 n42 x33 x41 M35)) ∧
(x34 ≤ x28 → ((pg_X1_dayOfDate x34 x20 x24) ∧
∀ x46 : Int, x46 = pf_X1_dayOfDate x34 x20 x24 →
wp_X9_putKey M35 a0 a1 x33 x46 (4 + x10) (fun z47 M48 =>
∀ x49 : Int, x49 = x34 + 1 →
∃ n50, n50 < n37 ∧ I36 n50 z47 x49 M48))))))))) ∧
(x2 < M3 a0 2 → ((0 ≤ x2 ∧ x2 < 4) ∧
wp_X9_putKey M3 a0 a1 x1 (M3 (a0 + 2) x2) x2 (fun z52 M53 =>
∀ x54 : Int, x54 = x2 + 1 →
∃ n55, n55 < n5 ∧ I4 n55 z52 x54 M53))))
def wp_X10_sortKeys (M : jT) (a0 : Int) (a1 : Int) (Q : jT → Prop) : Prop :=
rg a1 ∧
∀ x2 : Int, x2 = min a1 260 →
(0 ≤ x2 ∧ x2 < 2147483648) ∧
∀ x4 : Int, x4 = x2 / 2 →
∃ I7 : Nat → Int → jT → Prop, (∃ n8, I7 n8 x4 M) ∧
∀ (n8 : Nat) (x5 : Int) (M6 : jT), I7 n8 x5 M6 →
rg x5 ∧
((x5 ≤ 0 → Q M6) ∧
(0 < x5 → (∃ I13 : Nat → Int → jT → Prop, (∃ n14, I13 n14 x5 M6) ∧
∀ (n14 : Nat) (x11 : Int) (M12 : jT), I13 n14 x11 M12 →
rg x11 ∧
rg x2 ∧
((x2 ≤ x11 → ((0 ≤ x5 ∧ x5 < 2147483648) ∧
∀ x19 : Int, x19 = x5 / 2 →
∃ n20, n20 < n8 ∧ I7 n20 x19 M12)) ∧
(x11 < x2 → ((0 ≤ x11 ∧ x11 < 260) ∧
∀ x22 : Int, x22 = M12 a0 x11 →
∃ I25 : Nat → Int → jT → Prop, (∃ n26, I25 n26 x11 M12) ∧
∀ (n26 : Nat) (x23 : Int) (M24 : jT), I25 n26 x23 M24 →
∃ K37 : Prop, (K37 → ((0 ≤ x23 ∧ x23 < 260) ∧
∀ M39 : jT, M39 = up M24 a0 x23 x22 →
∀ x40 : Int, x40 = x11 + 1 →
∃ n41, n41 < n14 ∧ I13 n41 x40 M39)) ∧
rg x23 ∧
((x23 < x5 → K37) ∧
(x5 ≤ x23 → ((0 ≤ x23 - x5 ∧ x23 - x5 < 260) ∧
rl (M24 a0 (x23 - x5)) ∧
rl x22 ∧
((M24 a0 (x23 - x5) ≤ x22 → K37) ∧
(x22 < M24 a0 (x23 - x5) → ((0 ≤ x23 ∧ x23 < 260) ∧
∀ M49 : jT, M49 = up M24 a0 x23 (M24 a0 (x23 - x5)) →
∀ x50 : Int, x50 = x23 - x5 →
∃ n51, n51 < n26 ∧ I25 n51 x50 M49))))))))))))
def wp_X10_sortKeys_b (M : jT) (a0 : Int) (a1 : Int) (Q : jT → Prop) : Prop :=
rg a1 ∧
∀ x2 : Int, x2 = min a1 400 →
(0 ≤ x2 ∧ x2 < 2147483648) ∧
∀ x4 : Int, x4 = x2 / 2 →
∃ I7 : Nat → Int → jT → Prop, (∃ n8, I7 n8 x4 M) ∧
∀ (n8 : Nat) (x5 : Int) (M6 : jT), I7 n8 x5 M6 →
rg x5 ∧
((x5 ≤ 0 → Q M6) ∧
(0 < x5 → (∃ I13 : Nat → Int → jT → Prop, (∃ n14, I13 n14 x5 M6) ∧
∀ (n14 : Nat) (x11 : Int) (M12 : jT), I13 n14 x11 M12 →
rg x11 ∧
rg x2 ∧
((x2 ≤ x11 → ((0 ≤ x5 ∧ x5 < 2147483648) ∧
∀ x19 : Int, x19 = x5 / 2 →
∃ n20, n20 < n8 ∧ I7 n20 x19 M12)) ∧
(x11 < x2 → ((0 ≤ x11 ∧ x11 < 400) ∧
∀ x22 : Int, x22 = M12 a0 x11 →
∃ I25 : Nat → Int → jT → Prop, (∃ n26, I25 n26 x11 M12) ∧
∀ (n26 : Nat) (x23 : Int) (M24 : jT), I25 n26 x23 M24 →
∃ K37 : Prop, (K37 → ((0 ≤ x23 ∧ x23 < 400) ∧
∀ M39 : jT, M39 = up M24 a0 x23 x22 →
∀ x40 : Int, x40 = x11 + 1 →
∃ n41, n41 < n14 ∧ I13 n41 x40 M39)) ∧
rg x23 ∧
((x23 < x5 → K37) ∧
(x5 ≤ x23 → ((0 ≤ x23 - x5 ∧ x23 - x5 < 400) ∧
rl (M24 a0 (x23 - x5)) ∧
rl x22 ∧
((M24 a0 (x23 - x5) ≤ x22 → K37) ∧
(x22 < M24 a0 (x23 - x5) → ((0 ≤ x23 ∧ x23 < 400) ∧
∀ M49 : jT, M49 = up M24 a0 x23 (M24 a0 (x23 - x5)) →
∀ x50 : Int, x50 = x23 - x5 →
∃ n51, n51 < n26 ∧ I25 n51 x50 M49))))))))))))
def wp_X2_begin (M : jT) (a0 : Int) (a1 : Int) (Q : jT → Prop) : Prop :=
∀ M1 : jT, M1 = up M a0 0 a1 →
∀ M2 : jT, M2 = up M1 a0 1 0 →
∀ M3 : jT, M3 = up M2 a0 3 0 →
Q M3
def wp_X2_take (M : jT) (a0 : Int) (a1 : Int) (a2 : Int) (Q : Int → jT → Prop) : Prop :=
(0 ≤ a2 ∧ a2 < 9223372036854775808) ∧
∀ x2 : Int, x2 = a2 % 16 →
(rg x2 ∧
((4 ≤ x2 → True) ∧
(x2 < 4 → True))) ∧
(((¬ (x2 < 4) → ((pg_X9_ruleNumber M a1 (x2 - 4) 5) ∧
True)) ∧
(x2 < 4 → True))) ∧
(∀ x13 : Int, (¬ (x2 < 4) → x13 = pf_X9_ruleNumber M a1 (x2 - 4) 5) → (x2 < 4 → x13 = 0) → 
(rg x13 ∧
((x13 ≠ 2 → True) ∧
(x13 = 2 → True))) ∧
(∀ x21 : Int, (x13 ≠ 2 → x21 = M a0 0) → (x13 = 2 → x21 = 0) → 
(rg x13 ∧
((x13 ≠ 0 → True) ∧
(x13 = 0 → True))) ∧
(∀ x27 : Int, (x13 ≠ 0 → x27 = 0) → (x13 = 0 → x27 = M a0 1) → 
∀ M31 : jT, M31 = up M a0 2 (((a2 / 16) - x21) - x27) →
∃ K37 : Prop, (K37 → (∀ x38 : Int, x38 = (M31 a0 0) + (M31 a0 1) →
∃ K47 : jT → Prop, (∀ (M46 : jT), K47 M46 → (rg ((M46 a0 0) + (M46 a0 1)) ∧
rg x38 ∧
(((M46 a0 0) + (M46 a0 1) ≠ x38 → (∀ M51 : jT, M51 = up M46 a0 3 1 →
∀ M52 : jT, M52 = up M51 a0 4 (M51 a0 2) →
Q 2 M52)) ∧
((M46 a0 0) + (M46 a0 1) = x38 → Q 1 M46)))) ∧
((¬ (x2 < 4) → ((pg_X9_ruleNumber M31 a1 (x2 - 4) 6) ∧
∀ M57 : jT, M57 = up M31 a0 1 (pf_X9_ruleNumber M31 a1 (x2 - 4) 6) →
K47 M57)) ∧
(x2 < 4 → ((0 ≤ x2 ∧ x2 < 4) ∧
∀ M59 : jT, M59 = up M31 a0 0 (M31 (a1 + 3) x2) →
K47 M59))))) ∧
rg (M31 a0 3) ∧
((M31 a0 3 = 0 → K37) ∧
(M31 a0 3 ≠ 0 → (rg (M31 a0 4) ∧
rg (M31 a0 2) ∧
((M31 a0 4 < M31 a0 2 → K37) ∧
(M31 a0 2 ≤ M31 a0 4 → Q 0 M31))))))))
def pf_X7_sourceOf (a0 : Int) : Int :=
if 4 ≤ a0 % 16 then (a0 % 16) - 4 else 100 + (a0 % 16)
def pg_X7_sourceOf (a0 : Int) : Prop :=
(0 ≤ a0 ∧ a0 < 9223372036854775808) ∧
rg (a0 % 16) ∧
((4 ≤ a0 % 16 → True) ∧
(a0 % 16 < 4 → True))
def wp_X7_putVoid (M : jT) (a0 : Int) (a1 : Int) (a2 : Int) (Q : jT → Prop) : Prop :=
(0 ≤ a1 ∧ a1 < 9223372036854775808) ∧
(0 ≤ M a0 3 ∧ M a0 3 < 260) ∧
∀ M3 : jT, M3 = up M (a0 + 4) (M a0 3) (a1 / 16) →
(0 ≤ M3 a0 3 ∧ M3 a0 3 < 260) ∧
∀ M5 : jT, M5 = up M3 (a0 + 5) (M3 a0 3) (M3 a2 2) →
(pg_X7_sourceOf a1) ∧
(0 ≤ M5 a0 3 ∧ M5 a0 3 < 260) ∧
∀ M10 : jT, M10 = up M5 (a0 + 6) (M5 a0 3) (pf_X7_sourceOf a1) →
∀ M11 : jT, M11 = up M10 a0 3 ((M10 a0 3) + 1) →
Q M11
def wp_X7_putTransition (M : jT) (a0 : Int) (a1 : Int) (a2 : Int) (Q : jT → Prop) : Prop :=
∀ x1 : Int, x1 = (M a2 0) + (M a2 1) →
(0 ≤ M a0 2 ∧ M a0 2 < 260) ∧
∀ M3 : jT, M3 = up M (a0 + 1) (M a0 2) (M a2 2) →
(0 ≤ M3 a0 2 ∧ M3 a0 2 < 260) ∧
∀ M5 : jT, M5 = up M3 (a0 + 2) (M3 a0 2) (M3 a2 1) →
(pg_X7_sourceOf a1) ∧
(0 ≤ M5 a0 2 ∧ M5 a0 2 < 260) ∧
∀ M10 : jT, M10 = up M5 (a0 + 3) (M5 a0 2) (pf_X7_sourceOf a1) →
∀ M11 : jT, M11 = up M10 a0 2 ((M10 a0 2) + 1) →
(0 ≤ M11 a0 2 ∧ M11 a0 2 < 261) ∧
∀ M13 : jT, M13 = up M11 (a0 + 7) (M11 a0 2) x1 →
rg (M13 a0 4) ∧
rg x1 ∧
∀ M16 : jT, M16 = up M13 a0 4 (max (M13 a0 4) x1) →
rg (M16 a0 5) ∧
∀ M18 : jT, M18 = up M16 a0 5 (min (M16 a0 5) x1) →
Q M18
def wp_X7_compile (M : jT) (a0 : Int) (a1 : Int) (a2 : Int) (a3 : Int) (a4 : Int) (Q : jT → Prop) : Prop :=
∀ M1 : jT, M1 = up M a0 1 a3 →
∀ M2 : jT, M2 = up M1 a0 2 0 →
∀ M3 : jT, M3 = up M2 a0 3 0 →
∀ M4 : jT, M4 = up M3 a0 4 (M3 a1 0) →
∀ M5 : jT, M5 = up M4 a0 5 (M4 a1 0) →
∀ M6 : jT, M6 = up M5 (a0 + 7) 0 (M5 a1 0) →
wp_X2_begin M6 a4 (M6 a1 0) (fun M8 =>
∃ I11 : Nat → Int → jT → Prop, (∃ n12, I11 n12 0 M8) ∧
∀ (n12 : Nat) (x9 : Int) (M10 : jT), I11 n12 x9 M10 →
rg x9 ∧
rg a3 ∧
((a3 ≤ x9 → (∀ M16 : jT, M16 = up M10 a0 0 1 →
Q M16)) ∧
(x9 < a3 → ((0 ≤ x9 ∧ x9 < 260) ∧
wp_X2_take M10 a4 a1 (M10 a2 x9) (fun z18 M19 =>
∃ K28 : jT → Prop, (∀ (M27 : jT), K28 M27 → (∀ x29 : Int, x29 = x9 + 1 →
∃ n30, n30 < n12 ∧ I11 n30 x29 M27)) ∧
rg z18 ∧
((z18 ≠ 0 → (((z18 ≠ 2 → K28 M19) ∧
(z18 = 2 → wp_X7_putTransition M19 a0 (M19 a2 x9) a4 (fun M35 =>
K28 M35))))) ∧
(z18 = 0 → wp_X7_putVoid M19 a0 (M19 a2 x9) a4 (fun M37 =>
K28 M37))))))))
def wp_X10_compiled (M : jT) (a0 : Int) (a1 : Int) (Q : Int → jT → Prop) : Prop :=
(0 ≤ a1 ∧ a1 < 6) ∧
∃ K13 : jT → Prop, (∀ (M12 : jT), K13 M12 → Q (a0 + 8 * a1 + 521) M12) ∧
rg (M (a0 + 8 * a1 + 521) 0) ∧
((M (a0 + 8 * a1 + 521) 0 ≠ 0 → K13 M) ∧
(M (a0 + 8 * a1 + 521) 0 = 0 → wp_X9_listEvents M (a0 + 4 * a1 + 4) (a0 + 606) (fun z17 M18 =>
wp_X10_sortKeys M18 (a0 + 606) z17 (fun M20 =>
wp_X7_compile M20 (a0 + 8 * a1 + 521) (a0 + 4 * a1 + 4) (a0 + 606) z17 (a0 + 600) (fun M22 =>
K13 M22)))))
def pf_X7_offsetIn (M : jT) (a0 : Int) (a1 : Int) : Int :=
M (a0 + 7) a1
def pg_X7_offsetIn (M : jT) (a0 : Int) (a1 : Int) : Prop :=
(0 ≤ a1 ∧ a1 < 261) ∧
True
def wo_X10_zone (M : jT) (a0 : Int) (a1 : Int) (a2 : Int) (Q : Int → jT → Prop) : Prop :=
wo_X10_needZone M a0 a1 (∃ K11 : Int → Prop, (∀ (x10 : Int), K11 x10 → (wo_X10_needArgument M x10 ((0 ≤ a1 ∧ a1 < 6) ∧
wp_X10_compiled M a0 a1 (fun k16 M17 =>
rg a2 ∧
((a2 = 0 → Q (M17 (a0 + 4 * a1 + 4) 0) M17) ∧
(a2 = 1 → Q (M17 (a0 + 4 * a1 + 4) 1) M17) ∧
(a2 = 2 → Q (M17 (a0 + 4 * a1 + 4) 2) M17) ∧
(a2 = 3 → Q (M17 k16 2) M17) ∧
(a2 = 4 → Q (M17 k16 3) M17) ∧
(a2 = 5 → Q (M17 k16 1) M17) ∧
(a2 = 6 → ((pg_X7_offsetIn M17 k16 (M17 k16 2)) ∧
Q (pf_X7_offsetIn M17 k16 (M17 k16 2)) M17)) ∧
(a2 = 7 → Q (M17 k16 4) M17) ∧
(a2 ≠ 0 ∧ a2 ≠ 1 ∧ a2 ≠ 2 ∧ a2 ≠ 3 ∧ a2 ≠ 4 ∧ a2 ≠ 5 ∧ a2 ≠ 6 ∧ a2 ≠ 7 → Q (M17 k16 5) M17)))))) ∧
∃ K26 : Prop, (K26 → K11 0) ∧
rg a2 ∧
((a2 < 0 → K26) ∧
(0 ≤ a2 → (((8 < a2 → K26) ∧
(a2 ≤ 8 → K11 1))))))
def wp_X10_zone (M : jT) (a0 : Int) (a1 : Int) (a2 : Int) (Q : Int → jT → Prop) (X : Nat → jT → Prop) : Prop :=
((wo_X10_needZone M a0 a1 (∃ K11 : Int → Prop, (∀ (x10 : Int), K11 x10 → (((wo_X10_needArgument M x10 ((0 ≤ a1 ∧ a1 < 6) ∧
wp_X10_compiled M a0 a1 (fun k16 M17 =>
rg a2 ∧
((a2 = 0 → Q (M17 (a0 + 4 * a1 + 4) 0) M17) ∧
(a2 = 1 → Q (M17 (a0 + 4 * a1 + 4) 1) M17) ∧
(a2 = 2 → Q (M17 (a0 + 4 * a1 + 4) 2) M17) ∧
(a2 = 3 → Q (M17 k16 2) M17) ∧
(a2 = 4 → Q (M17 k16 3) M17) ∧
(a2 = 5 → Q (M17 k16 1) M17) ∧
(a2 = 6 → ((pg_X7_offsetIn M17 k16 (M17 k16 2)) ∧
Q (pf_X7_offsetIn M17 k16 (M17 k16 2)) M17)) ∧
(a2 = 7 → Q (M17 k16 4) M17) ∧
(a2 ≠ 0 ∧ a2 ≠ 1 ∧ a2 ≠ 2 ∧ a2 ≠ 3 ∧ a2 ≠ 4 ∧ a2 ≠ 5 ∧ a2 ≠ 6 ∧ a2 ≠ 7 → Q (M17 k16 5) M17))))) ∨
(wp_X10_needArgument M x10 (fun _ => False) X)))) ∧
∃ K26 : Prop, (K26 → K11 0) ∧
rg a2 ∧
((a2 < 0 → K26) ∧
(0 ≤ a2 → (((8 < a2 → K26) ∧
(a2 ≤ 8 → K11 1))))))) ∨
(wp_X10_needZone M a0 a1 (fun _ => False) X))
def wo_X10_rule (M : jT) (a0 : Int) (a1 : Int) (a2 : Int) (a3 : Int) (Q : Int → Prop) : Prop :=
(pg_X10_ruleIndexFault M a0 a1 a2) ∧
wo_X10_refuse M (pf_X10_ruleIndexFault M a0 a1 a2) (∃ K14 : Int → Prop, (∀ (x13 : Int), K14 x13 → (wo_X10_needArgument M x13 ((0 ≤ a1 ∧ a1 < 6) ∧
(pg_X9_ruleNumber M (a0 + 4 * a1 + 4) a2 a3) ∧
Q (pf_X9_ruleNumber M (a0 + 4 * a1 + 4) a2 a3)))) ∧
∃ K25 : Prop, (K25 → K14 0) ∧
rg a3 ∧
((a3 < 0 → K25) ∧
(0 ≤ a3 → (((7 ≤ a3 → K25) ∧
(a3 < 7 → K14 1))))))
def wp_X10_rule (M : jT) (a0 : Int) (a1 : Int) (a2 : Int) (a3 : Int) (Q : Int → jT → Prop) (X : Nat → jT → Prop) : Prop :=
(pg_X10_ruleIndexFault M a0 a1 a2) ∧
((wo_X10_refuse M (pf_X10_ruleIndexFault M a0 a1 a2) (∃ K14 : Int → Prop, (∀ (x13 : Int), K14 x13 → (((wo_X10_needArgument M x13 ((0 ≤ a1 ∧ a1 < 6) ∧
(pg_X9_ruleNumber M (a0 + 4 * a1 + 4) a2 a3) ∧
Q (pf_X9_ruleNumber M (a0 + 4 * a1 + 4) a2 a3) M)) ∨
(wp_X10_needArgument M x13 (fun _ => False) X)))) ∧
∃ K25 : Prop, (K25 → K14 0) ∧
rg a3 ∧
((a3 < 0 → K25) ∧
(0 ≤ a3 → (((7 ≤ a3 → K25) ∧
(a3 < 7 → K14 1))))))) ∨
(wp_X10_refuse M (pf_X10_ruleIndexFault M a0 a1 a2) (fun _ => False) X))
def pf_X9_dayOfEvent (M : jT) (a0 : Int) (a1 : Int) (a2 : Int) : Int :=
if a2 < M (a0 + 1) ((a1 * 7) + 0) then (-1) else if a2 ≤ M (a0 + 1) ((a1 * 7) + 1) then pf_X1_dayOfDate a2 (M (a0 + 1) ((a1 * 7) + 2)) (M (a0 + 1) ((a1 * 7) + 3)) else (-1)
def pg_X9_dayOfEvent (M : jT) (a0 : Int) (a1 : Int) (a2 : Int) : Prop :=
(0 ≤ (a1 * 7) + 0 ∧ (a1 * 7) + 0 < 56) ∧
rg a2 ∧
rg (M (a0 + 1) ((a1 * 7) + 0)) ∧
((a2 < M (a0 + 1) ((a1 * 7) + 0) → True) ∧
(M (a0 + 1) ((a1 * 7) + 0) ≤ a2 → ((0 ≤ (a1 * 7) + 1 ∧ (a1 * 7) + 1 < 56) ∧
rg (M (a0 + 1) ((a1 * 7) + 1)) ∧
((a2 ≤ M (a0 + 1) ((a1 * 7) + 1) → ((0 ≤ (a1 * 7) + 2 ∧ (a1 * 7) + 2 < 56) ∧
(0 ≤ (a1 * 7) + 3 ∧ (a1 * 7) + 3 < 56) ∧
(pg_X1_dayOfDate a2 (M (a0 + 1) ((a1 * 7) + 2)) (M (a0 + 1) ((a1 * 7) + 3))) ∧
True)) ∧
(M (a0 + 1) ((a1 * 7) + 1) < a2 → True)))))
def wo_X10_needElement (M : jT) (a0 : Int) (Q : Prop) : Prop :=
rg a0 ∧
((a0 ≠ 0 → Q) ∧
(a0 = 0 → False))
def wp_X10_needElement (M : jT) (a0 : Int) (Q : jT → Prop) (X : Nat → jT → Prop) : Prop :=
rg a0 ∧
((a0 ≠ 0 → Q M) ∧
(a0 = 0 → X 4 M))
def wo_X10_eventDay (M : jT) (a0 : Int) (a1 : Int) (a2 : Int) (a3 : Int) (Q : Int → Prop) : Prop :=
(pg_X10_ruleIndexFault M a0 a1 a2) ∧
wo_X10_refuse M (pf_X10_ruleIndexFault M a0 a1 a2) ((pg_X10_isYear a3) ∧
wo_X10_needArgument M (b2i (pb_X10_isYear a3)) ((0 ≤ a1 ∧ a1 < 6) ∧
(pg_X9_dayOfEvent M (a0 + 4 * a1 + 4) a2 a3) ∧
∀ x16 : Int, x16 = pf_X9_dayOfEvent M (a0 + 4 * a1 + 4) a2 a3 →
(rg x16 ∧
((x16 < 0 → True) ∧
(0 ≤ x16 → True))) ∧
wo_X10_needElement M (b2i (0 ≤ x16)) (Q x16)))
def wp_X10_eventDay (M : jT) (a0 : Int) (a1 : Int) (a2 : Int) (a3 : Int) (Q : Int → jT → Prop) (X : Nat → jT → Prop) : Prop :=
(pg_X10_ruleIndexFault M a0 a1 a2) ∧
((wo_X10_refuse M (pf_X10_ruleIndexFault M a0 a1 a2) ((pg_X10_isYear a3) ∧
((wo_X10_needArgument M (b2i (pb_X10_isYear a3)) ((0 ≤ a1 ∧ a1 < 6) ∧
(pg_X9_dayOfEvent M (a0 + 4 * a1 + 4) a2 a3) ∧
∀ x16 : Int, x16 = pf_X9_dayOfEvent M (a0 + 4 * a1 + 4) a2 a3 →
(rg x16 ∧
((x16 < 0 → True) ∧
(0 ≤ x16 → True))) ∧
((wo_X10_needElement M (b2i (0 ≤ x16)) (Q x16 M)) ∨
(wp_X10_needElement M (b2i (0 ≤ x16)) (fun _ => False) X)))) ∨
(wp_X10_needArgument M (b2i (pb_X10_isYear a3)) (fun _ => False) X)))) ∨
(wp_X10_refuse M (pf_X10_ruleIndexFault M a0 a1 a2) (fun _ => False) X))
def wo_X10_transition (M : jT) (a0 : Int) (a1 : Int) (a2 : Int) (a3 : Int) (Q : Int → jT → Prop) : Prop :=
wo_X10_needZone M a0 a1 (wp_X10_compiled M a0 a1 (fun k3 M4 =>
∃ K15 : Int → Prop, (∀ (x14 : Int), K15 x14 → (wo_X10_needElement M4 x14 (∃ K26 : Int → Prop, (∀ (x25 : Int), K26 x25 → (wo_X10_needArgument M4 x25 (rg a3 ∧
((a3 = 0 → ((0 ≤ a2 ∧ a2 < 260) ∧
Q (M4 (k3 + 1) a2) M4)) ∧
(a3 = 1 → ((pg_X7_offsetIn M4 k3 a2) ∧
Q (pf_X7_offsetIn M4 k3 a2) M4)) ∧
(a3 = 2 → ((pg_X7_offsetIn M4 k3 (a2 + 1)) ∧
Q (pf_X7_offsetIn M4 k3 (a2 + 1)) M4)) ∧
(a3 = 3 → ((0 ≤ a2 ∧ a2 < 260) ∧
Q (M4 (k3 + 2) a2) M4)) ∧
(a3 ≠ 0 ∧ a3 ≠ 1 ∧ a3 ≠ 2 ∧ a3 ≠ 3 → ((0 ≤ a2 ∧ a2 < 260) ∧
Q (M4 (k3 + 3) a2) M4)))))) ∧
∃ K43 : Prop, (K43 → K26 0) ∧
rg a3 ∧
((a3 < 0 → K43) ∧
(0 ≤ a3 → (((4 < a3 → K43) ∧
(a3 ≤ 4 → K26 1)))))))) ∧
∃ K51 : Prop, (K51 → K15 0) ∧
rg a2 ∧
((a2 < 0 → K51) ∧
(0 ≤ a2 → (rg (M4 k3 2) ∧
((M4 k3 2 ≤ a2 → K51) ∧
(a2 < M4 k3 2 → K15 1)))))))
def wp_X10_transition (M : jT) (a0 : Int) (a1 : Int) (a2 : Int) (a3 : Int) (Q : Int → jT → Prop) (X : Nat → jT → Prop) : Prop :=
((wo_X10_needZone M a0 a1 (wp_X10_compiled M a0 a1 (fun k3 M4 =>
∃ K15 : Int → Prop, (∀ (x14 : Int), K15 x14 → (((wo_X10_needElement M4 x14 (∃ K26 : Int → Prop, (∀ (x25 : Int), K26 x25 → (((wo_X10_needArgument M4 x25 (rg a3 ∧
((a3 = 0 → ((0 ≤ a2 ∧ a2 < 260) ∧
Q (M4 (k3 + 1) a2) M4)) ∧
(a3 = 1 → ((pg_X7_offsetIn M4 k3 a2) ∧
Q (pf_X7_offsetIn M4 k3 a2) M4)) ∧
(a3 = 2 → ((pg_X7_offsetIn M4 k3 (a2 + 1)) ∧
Q (pf_X7_offsetIn M4 k3 (a2 + 1)) M4)) ∧
(a3 = 3 → ((0 ≤ a2 ∧ a2 < 260) ∧
Q (M4 (k3 + 2) a2) M4)) ∧
(a3 ≠ 0 ∧ a3 ≠ 1 ∧ a3 ≠ 2 ∧ a3 ≠ 3 → ((0 ≤ a2 ∧ a2 < 260) ∧
Q (M4 (k3 + 3) a2) M4))))) ∨
(wp_X10_needArgument M4 x25 (fun _ => False) X)))) ∧
∃ K43 : Prop, (K43 → K26 0) ∧
rg a3 ∧
((a3 < 0 → K43) ∧
(0 ≤ a3 → (((4 < a3 → K43) ∧
(a3 ≤ 4 → K26 1))))))) ∨
(wp_X10_needElement M4 x14 (fun _ => False) X)))) ∧
∃ K51 : Prop, (K51 → K15 0) ∧
rg a2 ∧
((a2 < 0 → K51) ∧
(0 ≤ a2 → (rg (M4 k3 2) ∧
((M4 k3 2 ≤ a2 → K51) ∧
(a2 < M4 k3 2 → K15 1)))))))) ∨
(wp_X10_needZone M a0 a1 (fun _ => False) X))
def wo_X10_voidEvent (M : jT) (a0 : Int) (a1 : Int) (a2 : Int) (a3 : Int) (Q : Int → jT → Prop) : Prop :=
wo_X10_needZone M a0 a1 (wp_X10_compiled M a0 a1 (fun k3 M4 =>
∃ K15 : Int → Prop, (∀ (x14 : Int), K15 x14 → (wo_X10_needElement M4 x14 (∃ K26 : Int → Prop, (∀ (x25 : Int), K26 x25 → (wo_X10_needArgument M4 x25 (rg a3 ∧
((a3 = 0 → ((0 ≤ a2 ∧ a2 < 260) ∧
Q (M4 (k3 + 4) a2) M4)) ∧
(a3 = 1 → ((0 ≤ a2 ∧ a2 < 260) ∧
Q (M4 (k3 + 5) a2) M4)) ∧
(a3 ≠ 0 ∧ a3 ≠ 1 → ((0 ≤ a2 ∧ a2 < 260) ∧
Q (M4 (k3 + 6) a2) M4)))))) ∧
∃ K37 : Prop, (K37 → K26 0) ∧
rg a3 ∧
((a3 < 0 → K37) ∧
(0 ≤ a3 → (((2 < a3 → K37) ∧
(a3 ≤ 2 → K26 1)))))))) ∧
∃ K45 : Prop, (K45 → K15 0) ∧
rg a2 ∧
((a2 < 0 → K45) ∧
(0 ≤ a2 → (rg (M4 k3 3) ∧
((M4 k3 3 ≤ a2 → K45) ∧
(a2 < M4 k3 3 → K15 1)))))))
def wp_X10_voidEvent (M : jT) (a0 : Int) (a1 : Int) (a2 : Int) (a3 : Int) (Q : Int → jT → Prop) (X : Nat → jT → Prop) : Prop :=
((wo_X10_needZone M a0 a1 (wp_X10_compiled M a0 a1 (fun k3 M4 =>
∃ K15 : Int → Prop, (∀ (x14 : Int), K15 x14 → (((wo_X10_needElement M4 x14 (∃ K26 : Int → Prop, (∀ (x25 : Int), K26 x25 → (((wo_X10_needArgument M4 x25 (rg a3 ∧
((a3 = 0 → ((0 ≤ a2 ∧ a2 < 260) ∧
Q (M4 (k3 + 4) a2) M4)) ∧
(a3 = 1 → ((0 ≤ a2 ∧ a2 < 260) ∧
Q (M4 (k3 + 5) a2) M4)) ∧
(a3 ≠ 0 ∧ a3 ≠ 1 → ((0 ≤ a2 ∧ a2 < 260) ∧
Q (M4 (k3 + 6) a2) M4))))) ∨
(wp_X10_needArgument M4 x25 (fun _ => False) X)))) ∧
∃ K37 : Prop, (K37 → K26 0) ∧
rg a3 ∧
((a3 < 0 → K37) ∧
(0 ≤ a3 → (((2 < a3 → K37) ∧
(a3 ≤ 2 → K26 1))))))) ∨
(wp_X10_needElement M4 x14 (fun _ => False) X)))) ∧
∃ K45 : Prop, (K45 → K15 0) ∧
rg a2 ∧
((a2 < 0 → K45) ∧
(0 ≤ a2 → (rg (M4 k3 3) ∧
((M4 k3 3 ≤ a2 → K45) ∧
(a2 < M4 k3 3 → K15 1)))))))) ∨
(wp_X10_needZone M a0 a1 (fun _ => False) X))
abbrev pb_X10_isInstant (a0 : Int) : Prop :=
(-2000) ≤ a0 ∧ a0 ≤ 16832719
def pg_X10_isInstant (a0 : Int) : Prop :=
rg a0 ∧
((a0 < (-2000) → True) ∧
((-2000) ≤ a0 → (((16832719 < a0 → True) ∧
(a0 ≤ 16832719 → True)))))
def wp_X7_spanAt (M : jT) (a0 : Int) (a1 : Int) (Q : Int → Prop) : Prop :=
∀ x1 : Int, x1 = M a0 2 →
∃ I4 : Nat → Int → Int → Prop, (∃ n5, I4 n5 0 x1) ∧
∀ (n5 : Nat) (x2 : Int) (x3 : Int), I4 n5 x2 x3 →
rg x2 ∧
rg x3 ∧
((x3 ≤ x2 → Q x2) ∧
(x2 < x3 → ((0 ≤ (x2 + x3) ∧ (x2 + x3) < 2147483648) ∧
∀ x10 : Int, x10 = (x2 + x3) / 2 →
(0 ≤ x10 ∧ x10 < 260) ∧
(rg (M (a0 + 1) x10) ∧
rg a1 ∧
((a1 < M (a0 + 1) x10 → True) ∧
(M (a0 + 1) x10 ≤ a1 → True))) ∧
(∀ x15 : Int, (a1 < M (a0 + 1) x10 → x15 = x2) → (M (a0 + 1) x10 ≤ a1 → x15 = x10 + 1) → ∀ x16 : Int, (a1 < M (a0 + 1) x10 → x16 = x10) → (M (a0 + 1) x10 ≤ a1 → x16 = x3) → 
∃ n21, n21 < n5 ∧ I4 n21 x15 x16))))
def wp_X7_offsetAt (M : jT) (a0 : Int) (a1 : Int) (Q : Int → Prop) : Prop :=
wp_X7_spanAt M a0 a1 (fun z1 =>
(0 ≤ z1 ∧ z1 < 261) ∧
Q (M (a0 + 7) z1))
def wo_X10_offset (M : jT) (a0 : Int) (a1 : Int) (a2 : Int) (Q : Int → jT → Prop) : Prop :=
wo_X10_needZone M a0 a1 ((pg_X10_isInstant a2) ∧
wo_X10_needArgument M (b2i (pb_X10_isInstant a2)) (wp_X10_compiled M a0 a1 (fun k8 M9 =>
wp_X7_offsetAt M9 k8 a2 (fun z10 =>
Q z10 M9))))
def wp_X10_offset (M : jT) (a0 : Int) (a1 : Int) (a2 : Int) (Q : Int → jT → Prop) (X : Nat → jT → Prop) : Prop :=
((wo_X10_needZone M a0 a1 ((pg_X10_isInstant a2) ∧
((wo_X10_needArgument M (b2i (pb_X10_isInstant a2)) (wp_X10_compiled M a0 a1 (fun k8 M9 =>
wp_X7_offsetAt M9 k8 a2 (fun z10 =>
Q z10 M9)))) ∨
(wp_X10_needArgument M (b2i (pb_X10_isInstant a2)) (fun _ => False) X)))) ∨
(wp_X10_needZone M a0 a1 (fun _ => False) X))
def wp_X9_listEventsOfYear (M : jT) (a0 : Int) (a1 : Int) (a2 : Int) (Q : Int → jT → Prop) : Prop :=
∃ I4 : Nat → Int → Int → jT → Prop, (∃ n5, I4 n5 0 0 M) ∧
∀ (n5 : Nat) (x1 : Int) (x2 : Int) (M3 : jT), I4 n5 x1 x2 M3 →
rg x2 ∧
rg (M3 a0 2) ∧
((M3 a0 2 ≤ x2 → (∃ I12 : Nat → Int → Int → jT → Prop, (∃ n13, I12 n13 x1 0 M3) ∧
∀ (n13 : Nat) (x9 : Int) (x10 : Int) (M11 : jT), I12 n13 x9 x10 M11 →
rg x10 ∧
rg (M11 a0 1) ∧
((M11 a0 1 ≤ x10 → Q x9 M11) ∧
(x10 < M11 a0 1 → ((pg_X9_dayOfEvent M11 a0 x10 a1) ∧
wp_X9_putKey M11 a0 a2 x9 (pf_X9_dayOfEvent M11 a0 x10 a1) (4 + x10) (fun z20 M21 =>
∀ x22 : Int, x22 = x10 + 1 →
∃ n23, n23 < n13 ∧ I12 n23 z20 x22 M21)))))) ∧
(x2 < M3 a0 2 → ((0 ≤ x2 ∧ x2 < 4) ∧
∀ x25 : Int, x25 = M3 (a0 + 2) x2 →
(pg_X1_yearStart a1) ∧
∃ K47 : Int → Prop, (∀ (x46 : Int), K47 x46 → ((rg x46 ∧
((x46 = 0 → True) ∧
(x46 ≠ 0 → True))) ∧
(∀ x50 : Int, (x46 = 0 → x50 = (-1)) → (x46 ≠ 0 → x50 = x25) → 
wp_X9_putKey M3 a0 a2 x1 x50 x2 (fun z54 M55 =>
∀ x56 : Int, x56 = x2 + 1 →
∃ n57, n57 < n5 ∧ I4 n57 z54 x56 M55)))) ∧
∃ K66 : Prop, (K66 → K47 0) ∧
rg x25 ∧
rg (pf_X1_yearStart a1) ∧
((x25 < pf_X1_yearStart a1 → K66) ∧
(pf_X1_yearStart a1 ≤ x25 → ((pg_X1_yearStart (a1 + 1)) ∧
rg (pf_X1_yearStart (a1 + 1)) ∧
((pf_X1_yearStart (a1 + 1) ≤ x25 → K66) ∧
(x25 < pf_X1_yearStart (a1 + 1) → K47 1))))))))
def wo_X10_offsetAgain (M : jT) (a0 : Int) (a1 : Int) (a2 : Int) (Q : Int → jT → Prop) : Prop :=
wo_X10_needZone M a0 a1 ((pg_X10_isInstant a2) ∧
wo_X10_needArgument M (b2i (pb_X10_isInstant a2)) ((0 ≤ a1 ∧ a1 < 6) ∧
wp_X2_begin M (a0 + 600) (M (a0 + 4 * a1 + 4) 0) (fun M11 =>
∀ x12 : Int, x12 = M11 (a0 + 4 * a1 + 4) 0 →
∃ I16 : Nat → Int → Int → jT → Prop, (∃ n17, I16 n17 x12 0 M11) ∧
∀ (n17 : Nat) (x13 : Int) (x14 : Int) (M15 : jT), I16 n17 x13 x14 M15 →
rg x14 ∧
((32 ≤ x14 → Q x13 M15) ∧
(x14 < 32 → (wp_X9_listEventsOfYear M15 (a0 + 4 * a1 + 4) x14 (a0 + 606) (fun z20 M21 =>
wp_X10_sortKeys M21 (a0 + 606) z20 (fun M23 =>
∃ I27 : Nat → Int → Int → jT → Prop, (∃ n28, I27 n28 x13 0 M23) ∧
∀ (n28 : Nat) (x24 : Int) (x25 : Int) (M26 : jT), I27 n28 x24 x25 M26 →
rg x25 ∧
rg z20 ∧
((z20 ≤ x25 → (∀ x32 : Int, x32 = x14 + 1 →
∃ n33, n33 < n17 ∧ I16 n33 x24 x32 M26)) ∧
(x25 < z20 → ((0 ≤ x25 ∧ x25 < 260) ∧
wp_X2_take M26 (a0 + 600) (a0 + 4 * a1 + 4) (M26 (a0 + 606) x25) (fun z35 M36 =>
(rg z35 ∧
((z35 ≠ 2 → True) ∧
(z35 = 2 → (rg (M36 (a0 + 600) 2) ∧
rg a2 ∧
((a2 < M36 (a0 + 600) 2 → True) ∧
(M36 (a0 + 600) 2 ≤ a2 → True)))))) ∧
(∀ x42 : Int, (z35 ≠ 2 → x42 = x24) → (z35 = 2 ∧ a2 < M36 (a0 + 600) 2 → x42 = x24) → (z35 = 2 ∧ M36 (a0 + 600) 2 ≤ a2 → x42 = (M36 (a0 + 600) 0) + (M36 (a0 + 600) 1)) → 
∀ x49 : Int, x49 = x25 + 1 →
∃ n50, n50 < n28 ∧ I27 n50 x42 x49 M36)))))))))))))
def wp_X10_offsetAgain (M : jT) (a0 : Int) (a1 : Int) (a2 : Int) (Q : Int → jT → Prop) (X : Nat → jT → Prop) : Prop :=
((wo_X10_needZone M a0 a1 ((pg_X10_isInstant a2) ∧
((wo_X10_needArgument M (b2i (pb_X10_isInstant a2)) ((0 ≤ a1 ∧ a1 < 6) ∧
wp_X2_begin M (a0 + 600) (M (a0 + 4 * a1 + 4) 0) (fun M11 =>
∀ x12 : Int, x12 = M11 (a0 + 4 * a1 + 4) 0 →
∃ I16 : Nat → Int → Int → jT → Prop, (∃ n17, I16 n17 x12 0 M11) ∧
∀ (n17 : Nat) (x13 : Int) (x14 : Int) (M15 : jT), I16 n17 x13 x14 M15 →
rg x14 ∧
((32 ≤ x14 → Q x13 M15) ∧
(x14 < 32 → (wp_X9_listEventsOfYear M15 (a0 + 4 * a1 + 4) x14 (a0 + 606) (fun z20 M21 =>
wp_X10_sortKeys M21 (a0 + 606) z20 (fun M23 =>
∃ I27 : Nat → Int → Int → jT → Prop, (∃ n28, I27 n28 x13 0 M23) ∧
∀ (n28 : Nat) (x24 : Int) (x25 : Int) (M26 : jT), I27 n28 x24 x25 M26 →
rg x25 ∧
rg z20 ∧
((z20 ≤ x25 → (∀ x32 : Int, x32 = x14 + 1 →
∃ n33, n33 < n17 ∧ I16 n33 x24 x32 M26)) ∧
(x25 < z20 → ((0 ≤ x25 ∧ x25 < 260) ∧
wp_X2_take M26 (a0 + 600) (a0 + 4 * a1 + 4) (M26 (a0 + 606) x25) (fun z35 M36 =>
(rg z35 ∧
((z35 ≠ 2 → True) ∧
(z35 = 2 → (rg (M36 (a0 + 600) 2) ∧
rg a2 ∧
((a2 < M36 (a0 + 600) 2 → True) ∧
(M36 (a0 + 600) 2 ≤ a2 → True)))))) ∧
(∀ x42 : Int, (z35 ≠ 2 → x42 = x24) → (z35 = 2 ∧ a2 < M36 (a0 + 600) 2 → x42 = x24) → (z35 = 2 ∧ M36 (a0 + 600) 2 ≤ a2 → x42 = (M36 (a0 + 600) 0) + (M36 (a0 + 600) 1)) → 
∀ x49 : Int, x49 = x25 + 1 →
∃ n50, n50 < n28 ∧ I27 n50 x42 x49 M36))))))))))))) ∨
(wp_X10_needArgument M (b2i (pb_X10_isInstant a2)) (fun _ => False) X)))) ∨
(wp_X10_needZone M a0 a1 (fun _ => False) X))
def wo_X10_toLocal (M : jT) (a0 : Int) (a1 : Int) (a2 : Int) (Q : Int → jT → Prop) : Prop :=
wo_X10_needZone M a0 a1 ((pg_X10_isInstant a2) ∧
wo_X10_needArgument M (b2i (pb_X10_isInstant a2)) (wp_X10_compiled M a0 a1 (fun k8 M9 =>
wp_X7_offsetAt M9 k8 a2 (fun z10 =>
Q (a2 + z10) M9))))
def wp_X10_toLocal (M : jT) (a0 : Int) (a1 : Int) (a2 : Int) (Q : Int → jT → Prop) (X : Nat → jT → Prop) : Prop :=
((wo_X10_needZone M a0 a1 ((pg_X10_isInstant a2) ∧
((wo_X10_needArgument M (b2i (pb_X10_isInstant a2)) (wp_X10_compiled M a0 a1 (fun k8 M9 =>
wp_X7_offsetAt M9 k8 a2 (fun z10 =>
Q (a2 + z10) M9)))) ∨
(wp_X10_needArgument M (b2i (pb_X10_isInstant a2)) (fun _ => False) X)))) ∨
(wp_X10_needZone M a0 a1 (fun _ => False) X))
abbrev pb_X10_isLocal (a0 : Int) : Prop :=
0 ≤ a0 ∧ a0 < 16830720
def pg_X10_isLocal (a0 : Int) : Prop :=
rg a0 ∧
((a0 < 0 → True) ∧
(0 ≤ a0 → (((16830720 ≤ a0 → True) ∧
(a0 < 16830720 → True)))))
abbrev pb_X7_spanHolds (M : jT) (a0 : Int) (a1 : Int) (a2 : Int) : Prop :=
(a1 = 0 ∧ (a1 = M a0 2 ∨ a2 < M (a0 + 1) a1)) ∨ (a1 ≠ 0 ∧ (M (a0 + 1) (a1 - 1) ≤ a2 ∧ (a1 = M a0 2 ∨ a2 < M (a0 + 1) a1)))
def pg_X7_spanHolds (M : jT) (a0 : Int) (a1 : Int) (a2 : Int) : Prop :=
rg a1 ∧
((a1 = 0 → (rg (M a0 2) ∧
((a1 = M a0 2 → True) ∧
(a1 ≠ M a0 2 → ((0 ≤ a1 ∧ a1 < 260) ∧
rg a2 ∧
rg (M (a0 + 1) a1) ∧
((M (a0 + 1) a1 ≤ a2 → True) ∧
(a2 < M (a0 + 1) a1 → True))))))) ∧
(a1 ≠ 0 → ((0 ≤ a1 - 1 ∧ a1 - 1 < 260) ∧
rg (M (a0 + 1) (a1 - 1)) ∧
rg a2 ∧
((a2 < M (a0 + 1) (a1 - 1) → True) ∧
(M (a0 + 1) (a1 - 1) ≤ a2 → (rg (M a0 2) ∧
((a1 = M a0 2 → True) ∧
(a1 ≠ M a0 2 → ((0 ≤ a1 ∧ a1 < 260) ∧
rg (M (a0 + 1) a1) ∧
((M (a0 + 1) a1 ≤ a2 → True) ∧
(a2 < M (a0 + 1) a1 → True)))))))))))
def wp_X7_look (M : jT) (a0 : Int) (a1 : Int) (Q : jT → Prop) : Prop :=
∀ M1 : jT, M1 = up M a0 13 0 →
∀ M2 : jT, M2 = up M1 a0 14 ((-1000000000)) →
∀ M3 : jT, M3 = up M2 a0 15 ((-1000000000)) →
∀ x4 : Int, x4 = a1 - (M3 a0 5) →
wp_X7_spanAt M3 a0 (a1 - (M3 a0 4)) (fun z5 =>
∃ I9 : Nat → Int → jT → Prop, (∃ n10, I9 n10 z5 M3) ∧
∀ (n10 : Nat) (x7 : Int) (M8 : jT), I9 n10 x7 M8 →
∃ K54 : Prop, (K54 → Q M8) ∧
rg x7 ∧
rg (M8 a0 2) ∧
((M8 a0 2 < x7 → K54) ∧
(x7 ≤ M8 a0 2 → (∃ K63 : Prop, (K63 → ((0 ≤ x7 ∧ x7 < 261) ∧
∀ x65 : Int, x65 = a1 - (M8 (a0 + 7) x7) →
(pg_X7_spanHolds M8 a0 x7 x65) ∧
∃ K80 : jT → Prop, (∀ (M79 : jT), K80 M79 → (∀ x81 : Int, x81 = x7 + 1 →
∃ n82, n82 < n10 ∧ I9 n82 x81 M79)) ∧
((¬ (pb_X7_spanHolds M8 a0 x7 x65) → K80 M8) ∧
(pb_X7_spanHolds M8 a0 x7 x65 → ((rg (M8 a0 13) ∧
((M8 a0 13 ≠ 0 → True) ∧
(M8 a0 13 = 0 → True))) ∧
(∀ x86 : Int, (M8 a0 13 ≠ 0 → x86 = M8 a0 14) → (M8 a0 13 = 0 → x86 = x65) → 
∀ M90 : jT, M90 = up M8 a0 14 x86 →
∀ M91 : jT, M91 = up M90 a0 15 x65 →
∀ M92 : jT, M92 = up M91 a0 13 ((M91 a0 13) + 1) →
K80 M92)))))) ∧
((x7 ≤ 0 → K63) ∧
(0 < x7 → ((0 ≤ x7 - 1 ∧ x7 - 1 < 260) ∧
rg (M8 (a0 + 1) (x7 - 1)) ∧
rg x4 ∧
((M8 (a0 + 1) (x7 - 1) ≤ x4 → K63) ∧
(x4 < M8 (a0 + 1) (x7 - 1) → K54)))))))))
def wo_X10_instants (M : jT) (a0 : Int) (a1 : Int) (a2 : Int) (Q : Int → jT → Prop) : Prop :=
wo_X10_needZone M a0 a1 ((pg_X10_isLocal a2) ∧
wo_X10_needArgument M (b2i (pb_X10_isLocal a2)) (wp_X10_compiled M a0 a1 (fun k8 M9 =>
wp_X7_look M9 k8 a2 (fun M11 =>
Q (M11 k8 13) M11))))
def wp_X10_instants (M : jT) (a0 : Int) (a1 : Int) (a2 : Int) (Q : Int → jT → Prop) (X : Nat → jT → Prop) : Prop :=
((wo_X10_needZone M a0 a1 ((pg_X10_isLocal a2) ∧
((wo_X10_needArgument M (b2i (pb_X10_isLocal a2)) (wp_X10_compiled M a0 a1 (fun k8 M9 =>
wp_X7_look M9 k8 a2 (fun M11 =>
Q (M11 k8 13) M11)))) ∨
(wp_X10_needArgument M (b2i (pb_X10_isLocal a2)) (fun _ => False) X)))) ∨
(wp_X10_needZone M a0 a1 (fun _ => False) X))
def wp_X10_addKey (M : jT) (a0 : Int) (a1 : Int) (a2 : Int) (Q : Int → jT → Prop) : Prop :=
∃ I2 : Nat → Int → Prop, (∃ n3, I2 n3 0) ∧
∀ (n3 : Nat) (x1 : Int), I2 n3 x1 →
rg x1 ∧
rg a1 ∧
((a1 ≤ x1 → (((a1 < 400 → ((0 ≤ a1 ∧ a1 < 400) ∧
∀ M9 : jT, M9 = up M a0 a1 a2 →
Q (a1 + 1) M9)) ∧
(400 ≤ a1 → Q a1 M)))) ∧
(x1 < a1 → ((0 ≤ x1 ∧ x1 < 400) ∧
rl (M a0 x1) ∧
rl a2 ∧
((M a0 x1 ≠ a2 → (∀ x14 : Int, x14 = x1 + 1 →
∃ n15, n15 < n3 ∧ I2 n15 x14)) ∧
(M a0 x1 = a2 → Q a1 M)))))
def wo_X10_instantsAgain (M : jT) (a0 : Int) (a1 : Int) (a2 : Int) (Q : Int → jT → Prop) : Prop :=
wo_X10_needZone M a0 a1 ((pg_X10_isLocal a2) ∧
wo_X10_needArgument M (b2i (pb_X10_isLocal a2)) (wp_X10_compiled M a0 a1 (fun k8 M9 =>
∃ I14 : Nat → Int → Int → Int → jT → Prop, (∃ n15, I14 n15 0 0 0 M9) ∧
∀ (n15 : Nat) (x10 : Int) (x11 : Int) (x12 : Int) (M13 : jT), I14 n15 x10 x11 x12 M13 →
rg x12 ∧
rg (M13 k8 2) ∧
((M13 k8 2 < x12 → Q x11 M13) ∧
(x12 ≤ M13 k8 2 → ((pg_X7_offsetIn M13 k8 x12) ∧
∀ x22 : Int, x22 = pf_X7_offsetIn M13 k8 x12 →
rg x22 ∧
wp_X10_addKey M13 (a0 + 607) x10 x22 (fun z24 M25 =>
∃ K42 : Int → Prop, (∀ (x41 : Int), K42 x41 → (∀ x43 : Int, x43 = x11 + x41 →
∀ x44 : Int, x44 = x12 + 1 →
∃ n45, n45 < n15 ∧ I14 n45 z24 x43 x44 M25)) ∧
∃ K53 : Prop, (K53 → K42 0) ∧
rg z24 ∧
rg x10 ∧
((z24 ≤ x10 → K53) ∧
(x10 < z24 → (wp_X7_offsetAt M25 k8 (a2 - x22) (fun z57 =>
rg z57 ∧
((z57 ≠ x22 → K53) ∧
(z57 = x22 → K42 1)))))))))))))
def wp_X10_instantsAgain (M : jT) (a0 : Int) (a1 : Int) (a2 : Int) (Q : Int → jT → Prop) (X : Nat → jT → Prop) : Prop :=
((wo_X10_needZone M a0 a1 ((pg_X10_isLocal a2) ∧
((wo_X10_needArgument M (b2i (pb_X10_isLocal a2)) (wp_X10_compiled M a0 a1 (fun k8 M9 =>
∃ I14 : Nat → Int → Int → Int → jT → Prop, (∃ n15, I14 n15 0 0 0 M9) ∧
∀ (n15 : Nat) (x10 : Int) (x11 : Int) (x12 : Int) (M13 : jT), I14 n15 x10 x11 x12 M13 →
rg x12 ∧
rg (M13 k8 2) ∧
((M13 k8 2 < x12 → Q x11 M13) ∧
(x12 ≤ M13 k8 2 → ((pg_X7_offsetIn M13 k8 x12) ∧
∀ x22 : Int, x22 = pf_X7_offsetIn M13 k8 x12 →
rg x22 ∧
wp_X10_addKey M13 (a0 + 607) x10 x22 (fun z24 M25 =>
∃ K42 : Int → Prop, (∀ (x41 : Int), K42 x41 → (∀ x43 : Int, x43 = x11 + x41 →
∀ x44 : Int, x44 = x12 + 1 →
∃ n45, n45 < n15 ∧ I14 n45 z24 x43 x44 M25)) ∧
∃ K53 : Prop, (K53 → K42 0) ∧
rg z24 ∧
rg x10 ∧
((z24 ≤ x10 → K53) ∧
(x10 < z24 → (wp_X7_offsetAt M25 k8 (a2 - x22) (fun z57 =>
rg z57 ∧
((z57 ≠ x22 → K53) ∧
(z57 = x22 → K42 1))))))))))))) ∨
(wp_X10_needArgument M (b2i (pb_X10_isLocal a2)) (fun _ => False) X)))) ∨
(wp_X10_needZone M a0 a1 (fun _ => False) X))
def wp_X7_gapOf (M : jT) (a0 : Int) (a1 : Int) (Q : Int → Prop) : Prop :=
wp_X7_spanAt M a0 (a1 - (M a0 4)) (fun z1 =>
∃ I4 : Nat → Int → Prop, (∃ n5, I4 n5 z1) ∧
∀ (n5 : Nat) (x3 : Int), I4 n5 x3 →
rg x3 ∧
rg (M a0 2) ∧
((M a0 2 ≤ x3 → Q ((-1))) ∧
(x3 < M a0 2 → ((0 ≤ x3 ∧ x3 < 260) ∧
(0 ≤ x3 ∧ x3 < 261) ∧
∃ K17 : Prop, (K17 → (∀ x18 : Int, x18 = x3 + 1 →
∃ n19, n19 < n5 ∧ I4 n19 x18)) ∧
rg ((M (a0 + 1) x3) + (M (a0 + 7) x3)) ∧
rg a1 ∧
((a1 < (M (a0 + 1) x3) + (M (a0 + 7) x3) → K17) ∧
((M (a0 + 1) x3) + (M (a0 + 7) x3) ≤ a1 → ((0 ≤ x3 + 1 ∧ x3 + 1 < 261) ∧
rg ((M (a0 + 1) x3) + (M (a0 + 7) (x3 + 1))) ∧
(((M (a0 + 1) x3) + (M (a0 + 7) (x3 + 1)) ≤ a1 → K17) ∧
(a1 < (M (a0 + 1) x3) + (M (a0 + 7) (x3 + 1)) → Q x3)))))))))
def wp_X7_causeOf (M : jT) (a0 : Int) (a1 : Int) (Q : Int → jT → Prop) : Prop :=
wp_X7_look M a0 a1 (fun M2 =>
rg (M2 a0 13) ∧
((M2 a0 13 ≠ 0 → (∃ K9 : Int → Prop, (∀ (x8 : Int), K9 x8 → Q x8 M2) ∧
((M2 a0 13 ≠ 1 → wp_X7_spanAt M2 a0 (M2 a0 14) (fun z11 =>
K9 z11)) ∧
(M2 a0 13 = 1 → K9 ((-1)))))) ∧
(M2 a0 13 = 0 → wp_X7_gapOf M2 a0 a1 (fun z13 =>
Q z13 M2))))
def wo_X10_cause (M : jT) (a0 : Int) (a1 : Int) (a2 : Int) (Q : Int → jT → Prop) : Prop :=
wo_X10_needZone M a0 a1 ((pg_X10_isLocal a2) ∧
wo_X10_needArgument M (b2i (pb_X10_isLocal a2)) (wp_X10_compiled M a0 a1 (fun k8 M9 =>
wp_X7_causeOf M9 k8 a2 (fun z10 M11 =>
Q z10 M11))))
def wp_X10_cause (M : jT) (a0 : Int) (a1 : Int) (a2 : Int) (Q : Int → jT → Prop) (X : Nat → jT → Prop) : Prop :=
((wo_X10_needZone M a0 a1 ((pg_X10_isLocal a2) ∧
((wo_X10_needArgument M (b2i (pb_X10_isLocal a2)) (wp_X10_compiled M a0 a1 (fun k8 M9 =>
wp_X7_causeOf M9 k8 a2 (fun z10 M11 =>
Q z10 M11)))) ∨
(wp_X10_needArgument M (b2i (pb_X10_isLocal a2)) (fun _ => False) X)))) ∨
(wp_X10_needZone M a0 a1 (fun _ => False) X))
abbrev pb_X10_isMode (a0 : Int) : Prop :=
0 ≤ a0 ∧ a0 ≤ 3
def pg_X10_isMode (a0 : Int) : Prop :=
rg a0 ∧
((a0 < 0 → True) ∧
(0 ≤ a0 → (((3 < a0 → True) ∧
(a0 ≤ 3 → True)))))
def wp_X7_instantOf (M : jT) (a0 : Int) (a1 : Int) (a2 : Int) (Q : Int → jT → Prop) : Prop :=
wp_X7_look M a0 a1 (fun M2 =>
rg (M2 a0 13) ∧
((M2 a0 13 ≠ 1 → (rg a2 ∧
((a2 ≠ 3 → (((M2 a0 13 ≤ 1 → (wp_X7_gapOf M2 a0 a1 (fun z8 =>
rg z8 ∧
((0 ≤ z8 → ((((a2 ≠ 2 → ((0 ≤ z8 + a2 ∧ z8 + a2 < 261) ∧
True)) ∧
(a2 = 2 → ((0 ≤ z8 ∧ z8 < 260) ∧
True)))) ∧
(∀ x15 : Int, (a2 ≠ 2 → x15 = a1 - (M2 (a0 + 7) (z8 + a2))) → (a2 = 2 → x15 = M2 (a0 + 1) z8) → 
Q x15 M2))) ∧
(z8 < 0 → Q ((-1000000000)) M2))))) ∧
(1 < M2 a0 13 → (∀ x21 : Int, (a2 ≠ 1 → x21 = M2 a0 14) → (a2 = 1 → x21 = M2 a0 15) → 
Q x21 M2))))) ∧
(a2 = 3 → Q ((-1000000000)) M2)))) ∧
(M2 a0 13 = 1 → Q (M2 a0 14) M2)))
def wo_X10_needInstant (M : jT) (a0 : Int) (Q : Int → Prop) : Prop :=
rg a0 ∧
((a0 ≠ (-1000000000) → Q a0) ∧
(a0 = (-1000000000) → False))
def wp_X10_needInstant (M : jT) (a0 : Int) (Q : Int → jT → Prop) (X : Nat → jT → Prop) : Prop :=
rg a0 ∧
((a0 ≠ (-1000000000) → Q a0 M) ∧
(a0 = (-1000000000) → X 5 M))
def wo_X10_toInstant (M : jT) (a0 : Int) (a1 : Int) (a2 : Int) (a3 : Int) (Q : Int → jT → Prop) : Prop :=
wo_X10_needZone M a0 a1 ((pg_X10_isLocal a2) ∧
∃ K18 : Int → Prop, (∀ (x17 : Int), K18 x17 → wo_X10_needArgument M x17 (wp_X10_compiled M a0 a1 (fun k21 M22 =>
wp_X7_instantOf M22 k21 a2 a3 (fun z23 M24 =>
wo_X10_needInstant M24 z23 (fun z25 =>
Q z25 M24))))) ∧
∃ K32 : Prop, (K32 → K18 0) ∧
((¬ (pb_X10_isLocal a2) → K32) ∧
(pb_X10_isLocal a2 → ((pg_X10_isMode a3) ∧
((¬ (pb_X10_isMode a3) → K32) ∧
(pb_X10_isMode a3 → K18 1))))))
def wp_X10_toInstant (M : jT) (a0 : Int) (a1 : Int) (a2 : Int) (a3 : Int) (Q : Int → jT → Prop) (X : Nat → jT → Prop) : Prop :=
((wo_X10_needZone M a0 a1 ((pg_X10_isLocal a2) ∧
∃ K18 : Int → Prop, (∀ (x17 : Int), K18 x17 → ((wo_X10_needArgument M x17 (wp_X10_compiled M a0 a1 (fun k21 M22 =>
wp_X7_instantOf M22 k21 a2 a3 (fun z23 M24 =>
((wo_X10_needInstant M24 z23 (fun z25 =>
Q z25 M24)) ∨
(wp_X10_needInstant M24 z23 (fun _ _ => False) X)))))) ∨
(wp_X10_needArgument M x17 (fun _ => False) X))) ∧
∃ K32 : Prop, (K32 → K18 0) ∧
((¬ (pb_X10_isLocal a2) → K32) ∧
(pb_X10_isLocal a2 → ((pg_X10_isMode a3) ∧
((¬ (pb_X10_isMode a3) → K32) ∧
(pb_X10_isMode a3 → K18 1))))))) ∨
(wp_X10_needZone M a0 a1 (fun _ => False) X))
def wo_X10_convert (M : jT) (a0 : Int) (a1 : Int) (a2 : Int) (a3 : Int) (a4 : Int) (Q : Int → jT → Prop) : Prop :=
wo_X10_needZone M a0 a1 (wo_X10_needZone M a0 a3 ((pg_X10_isLocal a2) ∧
∃ K20 : Int → Prop, (∀ (x19 : Int), K20 x19 → wo_X10_needArgument M x19 (wp_X10_compiled M a0 a1 (fun k23 M24 =>
wp_X7_instantOf M24 k23 a2 a4 (fun z25 M26 =>
wo_X10_needInstant M26 z25 (fun z27 =>
wp_X10_compiled M26 a0 a3 (fun k29 M30 =>
wp_X7_offsetAt M30 k29 z27 (fun z31 =>
Q (z27 + z31) M30))))))) ∧
∃ K38 : Prop, (K38 → K20 0) ∧
((¬ (pb_X10_isLocal a2) → K38) ∧
(pb_X10_isLocal a2 → ((pg_X10_isMode a4) ∧
((¬ (pb_X10_isMode a4) → K38) ∧
(pb_X10_isMode a4 → K20 1)))))))
def wp_X10_convert (M : jT) (a0 : Int) (a1 : Int) (a2 : Int) (a3 : Int) (a4 : Int) (Q : Int → jT → Prop) (X : Nat → jT → Prop) : Prop :=
((wo_X10_needZone M a0 a1 (((wo_X10_needZone M a0 a3 ((pg_X10_isLocal a2) ∧
∃ K20 : Int → Prop, (∀ (x19 : Int), K20 x19 → ((wo_X10_needArgument M x19 (wp_X10_compiled M a0 a1 (fun k23 M24 =>
wp_X7_instantOf M24 k23 a2 a4 (fun z25 M26 =>
((wo_X10_needInstant M26 z25 (fun z27 =>
wp_X10_compiled M26 a0 a3 (fun k29 M30 =>
wp_X7_offsetAt M30 k29 z27 (fun z31 =>
Q (z27 + z31) M30)))) ∨
(wp_X10_needInstant M26 z25 (fun _ _ => False) X)))))) ∨
(wp_X10_needArgument M x19 (fun _ => False) X))) ∧
∃ K38 : Prop, (K38 → K20 0) ∧
((¬ (pb_X10_isLocal a2) → K38) ∧
(pb_X10_isLocal a2 → ((pg_X10_isMode a4) ∧
((¬ (pb_X10_isMode a4) → K38) ∧
(pb_X10_isMode a4 → K20 1))))))) ∨
(wp_X10_needZone M a0 a3 (fun _ => False) X)))) ∨
(wp_X10_needZone M a0 a1 (fun _ => False) X))
def wp_X7_beginningOf (M : jT) (a0 : Int) (a1 : Int) (Q : Int → jT → Prop) : Prop :=
wp_X7_instantOf M a0 (1440 * a1) 2 (fun z1 M2 =>
Q z1 M2)
def wo_X10_dayLength (M : jT) (a0 : Int) (a1 : Int) (a2 : Int) (Q : Int → jT → Prop) : Prop :=
wo_X10_needZone M a0 a1 ((pg_X10_isDay a2) ∧
wo_X10_needIndex M (b2i (pb_X10_isDay a2)) (wp_X10_compiled M a0 a1 (fun k8 M9 =>
wp_X7_beginningOf M9 k8 (a2 + 1) (fun z10 M11 =>
wp_X7_beginningOf M11 k8 a2 (fun z12 M13 =>
Q (z10 - z12) M13)))))
def wp_X10_dayLength (M : jT) (a0 : Int) (a1 : Int) (a2 : Int) (Q : Int → jT → Prop) (X : Nat → jT → Prop) : Prop :=
((wo_X10_needZone M a0 a1 ((pg_X10_isDay a2) ∧
((wo_X10_needIndex M (b2i (pb_X10_isDay a2)) (wp_X10_compiled M a0 a1 (fun k8 M9 =>
wp_X7_beginningOf M9 k8 (a2 + 1) (fun z10 M11 =>
wp_X7_beginningOf M11 k8 a2 (fun z12 M13 =>
Q (z10 - z12) M13))))) ∨
(wp_X10_needIndex M (b2i (pb_X10_isDay a2)) (fun _ => False) X)))) ∨
(wp_X10_needZone M a0 a1 (fun _ => False) X))
def pf_X7_earlierEdge (a0 : Int) (a1 : Int) (a2 : Int) : Int :=
if a1 ≤ a0 then a2 else if a2 ≤ a1 then a2 else a1
def pg_X7_earlierEdge (a0 : Int) (a1 : Int) (a2 : Int) : Prop :=
rg a1 ∧
rg a0 ∧
((a1 ≤ a0 → True) ∧
(a0 < a1 → (rg a2 ∧
((a2 ≤ a1 → True) ∧
(a1 < a2 → True)))))
def wp_X7_nextEdge (M : jT) (a0 : Int) (a1 : Int) (a2 : Int) (Q : Int → Prop) : Prop :=
wp_X7_spanAt M a0 (a1 - (M a0 4)) (fun z1 =>
∃ I5 : Nat → Int → Int → Prop, (∃ n6, I5 n6 a2 z1) ∧
∀ (n6 : Nat) (x3 : Int) (x4 : Int), I5 n6 x3 x4 →
∃ K26 : Prop, (K26 → Q x3) ∧
rg x4 ∧
rg (M a0 2) ∧
((M a0 2 ≤ x4 → K26) ∧
(x4 < M a0 2 → ((0 ≤ x4 ∧ x4 < 260) ∧
rg ((M (a0 + 1) x4) + (M a0 5)) ∧
rg x3 ∧
((x3 ≤ (M (a0 + 1) x4) + (M a0 5) → K26) ∧
((M (a0 + 1) x4) + (M a0 5) < x3 → ((0 ≤ x4 ∧ x4 < 261) ∧
(pg_X7_earlierEdge a1 ((M (a0 + 1) x4) + (M (a0 + 7) x4)) x3) ∧
∀ x38 : Int, x38 = pf_X7_earlierEdge a1 ((M (a0 + 1) x4) + (M (a0 + 7) x4)) x3 →
(0 ≤ x4 + 1 ∧ x4 + 1 < 261) ∧
(pg_X7_earlierEdge a1 ((M (a0 + 1) x4) + (M (a0 + 7) (x4 + 1))) x38) ∧
∀ x43 : Int, x43 = pf_X7_earlierEdge a1 ((M (a0 + 1) x4) + (M (a0 + 7) (x4 + 1))) x38 →
∀ x44 : Int, x44 = x4 + 1 →
∃ n45, n45 < n6 ∧ I5 n45 x43 x44)))))))
def wp_X7_countMinutes (M : jT) (a0 : Int) (a1 : Int) (a2 : Int) (a3 : Int) (Q : Int → jT → Prop) : Prop :=
∃ I5 : Nat → Int → Int → Int → jT → Prop, (∃ n6, I5 n6 0 a1 0 M) ∧
∀ (n6 : Nat) (x1 : Int) (x2 : Int) (x3 : Int) (M4 : jT), I5 n6 x1 x2 x3 M4 →
∃ K27 : Prop, (K27 → Q x1 M4) ∧
rg x3 ∧
rg (2 * (M4 a0 2)) ∧
((2 * (M4 a0 2) < x3 → K27) ∧
(x3 ≤ 2 * (M4 a0 2) → (rg x2 ∧
rg a2 ∧
((a2 ≤ x2 → K27) ∧
(x2 < a2 → (wp_X7_nextEdge M4 a0 x2 a2 (fun z34 =>
wp_X7_look M4 a0 x2 (fun M37 =>
(rg a3 ∧
((a3 = 0 → True) ∧
(a3 ≠ 0 → True))) ∧
(∀ x40 : Int, (a3 = 0 → x40 = (M37 a0 13) - 1) → (a3 ≠ 0 → x40 = 1 - (M37 a0 13)) → 
rg x40 ∧
∀ x45 : Int, x45 = x1 + ((max x40 0) * (z34 - x2)) →
∀ x46 : Int, x46 = x3 + 1 →
∃ n47, n47 < n6 ∧ I5 n47 x45 z34 x46 M37)))))))))
def wo_X10_account (M : jT) (a0 : Int) (a1 : Int) (a2 : Int) (a3 : Int) (Q : Int → jT → Prop) : Prop :=
wo_X10_needZone M a0 a1 ((pg_X10_isYear a2) ∧
∃ K16 : Int → Prop, (∀ (x15 : Int), K16 x15 → (wo_X10_needArgument M x15 (wp_X10_compiled M a0 a1 (fun k19 M20 =>
(pg_X1_yearStart a2) ∧
∀ x24 : Int, x24 = pf_X1_yearStart a2 →
(pg_X1_yearStart (a2 + 1)) ∧
∀ x28 : Int, x28 = pf_X1_yearStart (a2 + 1) →
rg a3 ∧
((a3 = 0 → wp_X7_beginningOf M20 k19 x28 (fun z31 M32 =>
wp_X7_beginningOf M32 k19 x24 (fun z33 M34 =>
Q (z31 - z33) M34))) ∧
(a3 = 1 → wp_X7_countMinutes M20 k19 (1440 * x24) (1440 * x28) 1 (fun z35 M36 =>
Q z35 M36)) ∧
(a3 = 2 → wp_X7_countMinutes M20 k19 (1440 * x24) (1440 * x28) 0 (fun z37 M38 =>
Q z37 M38)) ∧
(a3 ≠ 0 ∧ a3 ≠ 1 ∧ a3 ≠ 2 → Q (1440 * (x28 - x24)) M20)))))) ∧
∃ K43 : Prop, (K43 → K16 0) ∧
((¬ (pb_X10_isYear a2) → K43) ∧
(pb_X10_isYear a2 → (rg a3 ∧
((a3 < 0 → K43) ∧
(0 ≤ a3 → (((3 < a3 → K43) ∧
(a3 ≤ 3 → K16 1)))))))))
def wp_X10_account (M : jT) (a0 : Int) (a1 : Int) (a2 : Int) (a3 : Int) (Q : Int → jT → Prop) (X : Nat → jT → Prop) : Prop :=
((wo_X10_needZone M a0 a1 ((pg_X10_isYear a2) ∧
∃ K16 : Int → Prop, (∀ (x15 : Int), K16 x15 → (((wo_X10_needArgument M x15 (wp_X10_compiled M a0 a1 (fun k19 M20 =>
(pg_X1_yearStart a2) ∧
∀ x24 : Int, x24 = pf_X1_yearStart a2 →
(pg_X1_yearStart (a2 + 1)) ∧
∀ x28 : Int, x28 = pf_X1_yearStart (a2 + 1) →
rg a3 ∧
((a3 = 0 → wp_X7_beginningOf M20 k19 x28 (fun z31 M32 =>
wp_X7_beginningOf M32 k19 x24 (fun z33 M34 =>
Q (z31 - z33) M34))) ∧
(a3 = 1 → wp_X7_countMinutes M20 k19 (1440 * x24) (1440 * x28) 1 (fun z35 M36 =>
Q z35 M36)) ∧
(a3 = 2 → wp_X7_countMinutes M20 k19 (1440 * x24) (1440 * x28) 0 (fun z37 M38 =>
Q z37 M38)) ∧
(a3 ≠ 0 ∧ a3 ≠ 1 ∧ a3 ≠ 2 → Q (1440 * (x28 - x24)) M20))))) ∨
(wp_X10_needArgument M x15 (fun _ => False) X)))) ∧
∃ K43 : Prop, (K43 → K16 0) ∧
((¬ (pb_X10_isYear a2) → K43) ∧
(pb_X10_isYear a2 → (rg a3 ∧
((a3 < 0 → K43) ∧
(0 ≤ a3 → (((3 < a3 → K43) ∧
(a3 ≤ 3 → K16 1)))))))))) ∨
(wp_X10_needZone M a0 a1 (fun _ => False) X))
def wp_X4_repeat (M : jT) (a0 : Int) (a1 : Int) (a2 : Int) (a3 : Int) (Q : jT → Prop) : Prop :=
∀ M1 : jT, M1 = up M a0 6 a1 →
∀ M2 : jT, M2 = up M1 a0 7 a2 →
∀ M3 : jT, M3 = up M2 a0 8 a3 →
∀ M4 : jT, M4 = up M3 a0 9 0 →
∃ I7 : Nat → Int → jT → Prop, (∃ n8, I7 n8 0 M4) ∧
∀ (n8 : Nat) (x5 : Int) (M6 : jT), I7 n8 x5 M6 →
rg x5 ∧
((40 ≤ x5 → Q M6) ∧
(x5 < 40 → ((0 ≤ x5 ∧ x5 < 40) ∧
∀ M12 : jT, M12 = up M6 (a0 + 1) x5 0 →
∀ x13 : Int, x13 = x5 + 1 →
∃ n14, n14 < n8 ∧ I7 n14 x13 M12)))
def wp_X4_begin (M : jT) (a0 : Int) (a1 : Int) (a2 : Int) (a3 : Int) (a4 : Int) (a5 : Int) (a6 : Int) (Q : jT → Prop) : Prop :=
∀ M1 : jT, M1 = up M a0 0 a1 →
∀ M2 : jT, M2 = up M1 a0 1 a2 →
∀ M3 : jT, M3 = up M2 a0 2 a3 →
∀ M4 : jT, M4 = up M3 a0 3 a4 →
∀ M5 : jT, M5 = up M4 a0 4 a5 →
∀ M6 : jT, M6 = up M5 a0 5 a6 →
wp_X4_repeat M6 a0 0 1 0 (fun M8 =>
Q M8)
def wp_X5_spoil (M : jT) (a0 : Int) (Q : jT → Prop) : Prop :=
∀ M1 : jT, M1 = up M a0 0 0 →
∀ M2 : jT, M2 = up M1 a0 1 0 →
Q M2
def wo_X10_addMeeting (M : jT) (a0 : Int) (a1 : Int) (a2 : Int) (a3 : Int) (a4 : Int) (a5 : Int) (a6 : Int) (Q : Int → jT → Prop) : Prop :=
wo_X10_needZone M a0 a1 ((pg_X10_isDay a2) ∧
∃ K22 : Int → Prop, (∀ (x21 : Int), K22 x21 → (wo_X10_needArgument M x21 ((pg_X10_isMode a5) ∧
∃ K38 : Int → Prop, (∀ (x37 : Int), K38 x37 → (wo_X10_needArgument M x37 ((rg (M (a0 + 1) 1) ∧
((10 ≤ M (a0 + 1) 1 → True) ∧
(M (a0 + 1) 1 < 10 → True))) ∧
(∀ x43 : Int, (10 ≤ M (a0 + 1) 1 → x43 = 3) → (M (a0 + 1) 1 < 10 → x43 = 0) → 
wo_X10_refuse M x43 (wp_X10_remember M a0 (fun M50 =>
∀ x51 : Int, x51 = M50 (a0 + 1) 1 →
(0 ≤ x51 ∧ x51 < 10) ∧
wp_X4_begin M50 (a0 + 2 * x51 + 28) a1 a2 a3 a4 a5 a6 (fun M55 =>
∀ M56 : jT, M56 = up M55 (a0 + 1) 1 (x51 + 1) →
wp_X5_spoil M56 (a0 + 3 * x51 + 570) (fun M59 =>
Q x51 M59)))))))) ∧
∃ K64 : Prop, (K64 → K38 0) ∧
((¬ (pb_X10_isMode a5) → K64) ∧
(pb_X10_isMode a5 → (rg a6 ∧
((a6 < 1 → K64) ∧
(1 ≤ a6 → (((40 < a6 → K64) ∧
(a6 ≤ 40 → K38 1))))))))))) ∧
∃ K76 : Prop, (K76 → K22 0) ∧
((¬ (pb_X10_isDay a2) → K76) ∧
(pb_X10_isDay a2 → (rg a3 ∧
((a3 < 0 → K76) ∧
(0 ≤ a3 → (((1440 ≤ a3 → K76) ∧
(a3 < 1440 → (rg a4 ∧
((a4 < 1 → K76) ∧
(1 ≤ a4 → (((1440 < a4 → K76) ∧
(a4 ≤ 1440 → K22 1)))))))))))))))
def wp_X10_addMeeting (M : jT) (a0 : Int) (a1 : Int) (a2 : Int) (a3 : Int) (a4 : Int) (a5 : Int) (a6 : Int) (Q : Int → jT → Prop) (X : Nat → jT → Prop) : Prop :=
((wo_X10_needZone M a0 a1 ((pg_X10_isDay a2) ∧
∃ K22 : Int → Prop, (∀ (x21 : Int), K22 x21 → (((wo_X10_needArgument M x21 ((pg_X10_isMode a5) ∧
∃ K38 : Int → Prop, (∀ (x37 : Int), K38 x37 → (((wo_X10_needArgument M x37 ((rg (M (a0 + 1) 1) ∧
((10 ≤ M (a0 + 1) 1 → True) ∧
(M (a0 + 1) 1 < 10 → True))) ∧
(∀ x43 : Int, (10 ≤ M (a0 + 1) 1 → x43 = 3) → (M (a0 + 1) 1 < 10 → x43 = 0) → 
((wo_X10_refuse M x43 (wp_X10_remember M a0 (fun M50 =>
∀ x51 : Int, x51 = M50 (a0 + 1) 1 →
(0 ≤ x51 ∧ x51 < 10) ∧
wp_X4_begin M50 (a0 + 2 * x51 + 28) a1 a2 a3 a4 a5 a6 (fun M55 =>
∀ M56 : jT, M56 = up M55 (a0 + 1) 1 (x51 + 1) →
wp_X5_spoil M56 (a0 + 3 * x51 + 570) (fun M59 =>
Q x51 M59))))) ∨
(wp_X10_refuse M x43 (fun _ => False) X))))) ∨
(wp_X10_needArgument M x37 (fun _ => False) X)))) ∧
∃ K64 : Prop, (K64 → K38 0) ∧
((¬ (pb_X10_isMode a5) → K64) ∧
(pb_X10_isMode a5 → (rg a6 ∧
((a6 < 1 → K64) ∧
(1 ≤ a6 → (((40 < a6 → K64) ∧
(a6 ≤ 40 → K38 1)))))))))) ∨
(wp_X10_needArgument M x21 (fun _ => False) X)))) ∧
∃ K76 : Prop, (K76 → K22 0) ∧
((¬ (pb_X10_isDay a2) → K76) ∧
(pb_X10_isDay a2 → (rg a3 ∧
((a3 < 0 → K76) ∧
(0 ≤ a3 → (((1440 ≤ a3 → K76) ∧
(a3 < 1440 → (rg a4 ∧
((a4 < 1 → K76) ∧
(1 ≤ a4 → (((1440 < a4 → K76) ∧
(a4 ≤ 1440 → K22 1)))))))))))))))) ∨
(wp_X10_needZone M a0 a1 (fun _ => False) X))
def wo_X10_needMeeting (M : jT) (a0 : Int) (a1 : Int) (Q : Prop) : Prop :=
∃ K11 : Int → Prop, (∀ (x10 : Int), K11 x10 → wo_X10_needIndex M x10 (Q)) ∧
∃ K18 : Prop, (K18 → K11 0) ∧
rg a1 ∧
((a1 < 0 → K18) ∧
(0 ≤ a1 → (rg (M (a0 + 1) 1) ∧
((M (a0 + 1) 1 ≤ a1 → K18) ∧
(a1 < M (a0 + 1) 1 → K11 1)))))
def wp_X10_needMeeting (M : jT) (a0 : Int) (a1 : Int) (Q : jT → Prop) (X : Nat → jT → Prop) : Prop :=
∃ K11 : Int → Prop, (∀ (x10 : Int), K11 x10 → ((wo_X10_needIndex M x10 (Q M)) ∨
(wp_X10_needIndex M x10 (fun _ => False) X))) ∧
∃ K18 : Prop, (K18 → K11 0) ∧
rg a1 ∧
((a1 < 0 → K18) ∧
(0 ≤ a1 → (rg (M (a0 + 1) 1) ∧
((M (a0 + 1) 1 ≤ a1 → K18) ∧
(a1 < M (a0 + 1) 1 → K11 1)))))
def pf_X10_greatestStep (a0 : Int) : Int :=
if a0 = 0 then 60 else if a0 = 1 then 8 else 24
def pg_X10_greatestStep (a0 : Int) : Prop :=
rg a0 ∧
((a0 = 0 → True) ∧
(a0 = 1 → True) ∧
(a0 ≠ 0 ∧ a0 ≠ 1 → True))
def wp_X5_putDay (M : jT) (a0 : Int) (a1 : Int) (a2 : Int) (Q : jT → Prop) : Prop :=
∃ K13 : jT → Prop, (∀ (M12 : jT), K13 M12 → Q M12) ∧
rg a2 ∧
rg (M a1 1) ∧
((a2 < M a1 1 → K13 M) ∧
(M a1 1 ≤ a2 → (((11687 < a2 → K13 M) ∧
(a2 ≤ 11687 → (rg (M a0 2) ∧
rg (M a1 5) ∧
((M a1 5 ≤ M a0 2 → K13 M) ∧
(M a0 2 < M a1 5 → (((40 ≤ M a0 2 → K13 M) ∧
(M a0 2 < 40 → ((0 ≤ M a0 2 ∧ M a0 2 < 40) ∧
∀ M23 : jT, M23 = up M (a0 + 1) (M a0 2) a2 →
∀ M24 : jT, M24 = up M23 a0 2 ((M23 a0 2) + 1) →
K13 M24))))))))))))
def wp_X5_layDays (M : jT) (a0 : Int) (a1 : Int) (Q : jT → Prop) : Prop :=
∃ I3 : Nat → Int → jT → Prop, (∃ n4, I3 n4 0 M) ∧
∀ (n4 : Nat) (x1 : Int) (M2 : jT), I3 n4 x1 M2 →
rg x1 ∧
rg (M2 a1 5) ∧
((M2 a1 5 ≤ x1 → Q M2) ∧
(x1 < M2 a1 5 → (wp_X5_putDay M2 a0 a1 ((M2 a1 1) + (x1 * (M2 a1 7))) (fun M9 =>
∀ x10 : Int, x10 = x1 + 1 →
∃ n11, n11 < n4 ∧ I3 n11 x10 M9))))
def wp_X5_layWeeks (M : jT) (a0 : Int) (a1 : Int) (Q : jT → Prop) : Prop :=
(pg_X1_weekday (M a1 1)) ∧
∀ x4 : Int, x4 = (M a1 1) - (pf_X1_weekday (M a1 1)) →
∃ I7 : Nat → Int → jT → Prop, (∃ n8, I7 n8 x4 M) ∧
∀ (n8 : Nat) (x5 : Int) (M6 : jT), I7 n8 x5 M6 →
∃ K37 : Prop, (K37 → Q M6) ∧
rg x5 ∧
((11687 < x5 → K37) ∧
(x5 ≤ 11687 → (rg (M6 a0 2) ∧
rg (M6 a1 5) ∧
((M6 a1 5 ≤ M6 a0 2 → K37) ∧
(M6 a0 2 < M6 a1 5 → (∃ I45 : Nat → Int → jT → Prop, (∃ n46, I45 n46 0 M6) ∧
∀ (n46 : Nat) (x43 : Int) (M44 : jT), I45 n46 x43 M44 →
rg x43 ∧
((7 ≤ x43 → (rg (M44 a1 7) ∧
∀ x50 : Int, x50 = x5 + (7 * (max (M44 a1 7) 1)) →
∃ n51, n51 < n8 ∧ I7 n51 x50 M44)) ∧
(x43 < 7 → ((0 ≤ x43 ∧ x43 < 32) ∧
rg (M44 a1 8) ∧
∃ K59 : jT → Prop, (∀ (M58 : jT), K59 M58 → (∀ x60 : Int, x60 = x43 + 1 →
∃ n61, n61 < n46 ∧ I45 n61 x60 M58)) ∧
rg (((M44 a1 8) / 2 ^ x43.toNat) % 2) ∧
((((M44 a1 8) / 2 ^ x43.toNat) % 2 = 0 → K59 M44) ∧
(((M44 a1 8) / 2 ^ x43.toNat) % 2 ≠ 0 → wp_X5_putDay M44 a0 a1 (x5 + x43) (fun M65 =>
K59 M65))))))))))))
def wp_X5_layMonths (M : jT) (a0 : Int) (a1 : Int) (Q : jT → Prop) : Prop :=
(pg_X1_yearOf (M a1 1)) ∧
∀ x4 : Int, x4 = pf_X1_yearOf (M a1 1) →
wp_X1_monthOf M x4 (M a1 1) (fun z5 =>
∀ x7 : Int, x7 = ((12 * x4) + z5) - 1 →
(0 ≤ x7 ∧ x7 < 2147483648) ∧
(pg_X1_monthStart x4 ((x7 % 12) + 1)) ∧
∀ x12 : Int, x12 = (M a1 1) - (pf_X1_monthStart x4 ((x7 % 12) + 1)) →
(pg_X1_weekday (M a1 1)) ∧
∀ x16 : Int, x16 = pf_X1_weekday (M a1 1) →
rg (M a1 7) ∧
∀ x18 : Int, x18 = max (M a1 7) 1 →
∃ I21 : Nat → Int → jT → Prop, (∃ n22, I21 n22 x7 M) ∧
∀ (n22 : Nat) (x19 : Int) (M20 : jT), I21 n22 x19 M20 →
∃ K65 : Prop, (K65 → Q M20) ∧
rg x19 ∧
((384 ≤ x19 → K65) ∧
(x19 < 384 → (rg (M20 a0 2) ∧
rg (M20 a1 5) ∧
((M20 a1 5 ≤ M20 a0 2 → K65) ∧
(M20 a0 2 < M20 a1 5 → ((0 ≤ x19 ∧ x19 < 2147483648) ∧
(pg_X1_monthStart (x19 / 12) ((x19 % 12) + 1)) ∧
∀ x75 : Int, x75 = pf_X1_monthStart (x19 / 12) ((x19 % 12) + 1) →
(pg_X1_monthLength (x19 / 12) ((x19 % 12) + 1)) ∧
∀ x79 : Int, x79 = x75 + (pf_X1_monthLength (x19 / 12) ((x19 % 12) + 1)) →
(rg (M20 a1 6) ∧
((M20 a1 6 ≠ 2 → ((pg_X1_weekdayFrom x75 x16) ∧
(0 ≤ x12 ∧ x12 < 2147483648) ∧
True)) ∧
(M20 a1 6 = 2 → True))) ∧
(∀ x86 : Int, (M20 a1 6 ≠ 2 → x86 = (pf_X1_weekdayFrom x75 x16) + ((x12 / 7) * 7)) → (M20 a1 6 = 2 → x86 = x75 + x12) → 
∃ K100 : jT → Prop, (∀ (M99 : jT), K100 M99 → (∀ x101 : Int, x101 = x19 + x18 →
∃ n102, n102 < n22 ∧ I21 n102 x101 M99)) ∧
rg x86 ∧
rg x79 ∧
((x79 ≤ x86 → K100 M20) ∧
(x86 < x79 → wp_X5_putDay M20 a0 a1 x86 (fun M107 =>
K100 M107)))))))))))
def wp_X5_layOut (M : jT) (a0 : Int) (a1 : Int) (Q : jT → Prop) : Prop :=
∀ M1 : jT, M1 = up M a0 2 0 →
∃ K11 : jT → Prop, (∀ (M10 : jT), K11 M10 → (∀ M12 : jT, M12 = up M10 a0 0 1 →
Q M12)) ∧
rg (M1 a1 6) ∧
((M1 a1 6 = 0 → wp_X5_layDays M1 a0 a1 (fun M16 =>
K11 M16)) ∧
(M1 a1 6 = 1 → wp_X5_layWeeks M1 a0 a1 (fun M18 =>
K11 M18)) ∧
(M1 a1 6 ≠ 0 ∧ M1 a1 6 ≠ 1 → wp_X5_layMonths M1 a0 a1 (fun M20 =>
K11 M20)))
def wp_X10_laidOut (M : jT) (a0 : Int) (a1 : Int) (Q : Int → jT → Prop) : Prop :=
(0 ≤ a1 ∧ a1 < 10) ∧
∃ K9 : jT → Prop, (∀ (M8 : jT), K9 M8 → Q (a0 + 3 * a1 + 570) M8) ∧
rg (M (a0 + 3 * a1 + 570) 0) ∧
((M (a0 + 3 * a1 + 570) 0 ≠ 0 → K9 M) ∧
(M (a0 + 3 * a1 + 570) 0 = 0 → wp_X5_layOut M (a0 + 3 * a1 + 570) (a0 + 2 * a1 + 28) (fun M14 =>
K9 M14)))
def wo_X10_recur (M : jT) (a0 : Int) (a1 : Int) (a2 : Int) (a3 : Int) (a4 : Int) (Q : Int → jT → Prop) : Prop :=
wo_X10_needMeeting M a0 a1 (∃ K25 : Int → Prop, (∀ (x24 : Int), K25 x24 → (wo_X10_needArgument M x24 ((rg a2 ∧
((a2 ≠ 1 → (rg a4 ∧
((a4 ≠ 0 → True) ∧
(a4 = 0 → True)))) ∧
(a2 = 1 → (rg a4 ∧
((a4 < 1 → True) ∧
(1 ≤ a4 → (((127 < a4 → True) ∧
(a4 ≤ 127 → True))))))))) ∧
wo_X10_needArgument M (b2i ((a2 ≠ 1 ∧ a4 = 0) ∨ (a2 = 1 ∧ 1 ≤ a4 ∧ a4 ≤ 127))) (wp_X10_remember M a0 (fun M47 =>
(0 ≤ a1 ∧ a1 < 10) ∧
wp_X4_repeat M47 (a0 + 2 * a1 + 28) a2 a3 a4 (fun M51 =>
wp_X5_spoil M51 (a0 + 3 * a1 + 570) (fun M54 =>
wp_X10_laidOut M54 a0 a1 (fun k55 M56 =>
Q (M56 k55 2) M56)))))))) ∧
∃ K67 : Prop, (K67 → K25 0) ∧
rg a2 ∧
((a2 < 0 → K67) ∧
(0 ≤ a2 → (((3 < a2 → K67) ∧
(a2 ≤ 3 → (rg a3 ∧
((a3 < 1 → K67) ∧
(1 ≤ a3 → ((pg_X10_greatestStep a2) ∧
rg (pf_X10_greatestStep a2) ∧
((pf_X10_greatestStep a2 < a3 → K67) ∧
(a3 ≤ pf_X10_greatestStep a2 → K25 1))))))))))))
def wp_X10_recur (M : jT) (a0 : Int) (a1 : Int) (a2 : Int) (a3 : Int) (a4 : Int) (Q : Int → jT → Prop) (X : Nat → jT → Prop) : Prop :=
((wo_X10_needMeeting M a0 a1 (∃ K25 : Int → Prop, (∀ (x24 : Int), K25 x24 → (((wo_X10_needArgument M x24 ((rg a2 ∧
((a2 ≠ 1 → (rg a4 ∧
((a4 ≠ 0 → True) ∧
(a4 = 0 → True)))) ∧
(a2 = 1 → (rg a4 ∧
((a4 < 1 → True) ∧
(1 ≤ a4 → (((127 < a4 → True) ∧
(a4 ≤ 127 → True))))))))) ∧
((wo_X10_needArgument M (b2i ((a2 ≠ 1 ∧ a4 = 0) ∨ (a2 = 1 ∧ 1 ≤ a4 ∧ a4 ≤ 127))) (wp_X10_remember M a0 (fun M47 =>
(0 ≤ a1 ∧ a1 < 10) ∧
wp_X4_repeat M47 (a0 + 2 * a1 + 28) a2 a3 a4 (fun M51 =>
wp_X5_spoil M51 (a0 + 3 * a1 + 570) (fun M54 =>
wp_X10_laidOut M54 a0 a1 (fun k55 M56 =>
Q (M56 k55 2) M56)))))) ∨
(wp_X10_needArgument M (b2i ((a2 ≠ 1 ∧ a4 = 0) ∨ (a2 = 1 ∧ 1 ≤ a4 ∧ a4 ≤ 127))) (fun _ => False) X)))) ∨
(wp_X10_needArgument M x24 (fun _ => False) X)))) ∧
∃ K67 : Prop, (K67 → K25 0) ∧
rg a2 ∧
((a2 < 0 → K67) ∧
(0 ≤ a2 → (((3 < a2 → K67) ∧
(a2 ≤ 3 → (rg a3 ∧
((a3 < 1 → K67) ∧
(1 ≤ a3 → ((pg_X10_greatestStep a2) ∧
rg (pf_X10_greatestStep a2) ∧
((pf_X10_greatestStep a2 < a3 → K67) ∧
(a3 ≤ pf_X10_greatestStep a2 → K25 1))))))))))))) ∨
(wp_X10_needMeeting M a0 a1 (fun _ => False) X))
def wp_X10_occurrenceFault (M : jT) (a0 : Int) (a1 : Int) (a2 : Int) (Q : Int → jT → Prop) : Prop :=
∃ K25 : Int → jT → Prop, (∀ (x23 : Int) (M24 : jT), K25 x23 M24 → ((rg x23 ∧
((x23 = 0 → True) ∧
(x23 ≠ 0 → True))) ∧
Q (b2i (x23 = 0)) M24)) ∧
∃ K43 : jT → Prop, (∀ (M42 : jT), K43 M42 → K25 0 M42) ∧
rg a1 ∧
((a1 < 0 → K43 M) ∧
(0 ≤ a1 → (rg (M (a0 + 1) 1) ∧
((M (a0 + 1) 1 ≤ a1 → K43 M) ∧
(a1 < M (a0 + 1) 1 → (rg a2 ∧
((a2 < 0 → K43 M) ∧
(0 ≤ a2 → (wp_X10_laidOut M a0 a1 (fun k50 M51 =>
rg (M51 k50 2) ∧
((M51 k50 2 ≤ a2 → K43 M51) ∧
(a2 < M51 k50 2 → K25 1 M51))))))))))))
abbrev pb_X4_isCancelled (M : jT) (a0 : Int) (a1 : Int) : Prop :=
((M a0 9) / 2 ^ a1.toNat) % 2 ≠ 0
def pg_X4_isCancelled (M : jT) (a0 : Int) (a1 : Int) : Prop :=
(0 ≤ a1 ∧ a1 < 63) ∧
rl (M a0 9) ∧
rl (((M a0 9) / 2 ^ a1.toNat) % 2) ∧
((((M a0 9) / 2 ^ a1.toNat) % 2 = 0 → True) ∧
(((M a0 9) / 2 ^ a1.toNat) % 2 ≠ 0 → True))
def wp_X10_turnCancelled (M : jT) (a0 : Int) (a1 : Int) (a2 : Int) (Q : Int → jT → Prop) : Prop :=
(0 ≤ a1 ∧ a1 < 10) ∧
(0 ≤ a2 ∧ a2 < 63) ∧
∀ M4 : jT, M4 = up M (a0 + 2 * a1 + 28) 9 (lxI (M (a0 + 2 * a1 + 28) 9) (2 ^ a2.toNat)) →
(pg_X4_isCancelled M4 (a0 + 2 * a1 + 28) a2) ∧
(((¬ (pb_X4_isCancelled M4 (a0 + 2 * a1 + 28) a2) → True) ∧
(pb_X4_isCancelled M4 (a0 + 2 * a1 + 28) a2 → True))) ∧
Q (b2i (pb_X4_isCancelled M4 (a0 + 2 * a1 + 28) a2)) M4
def wo_X10_cancel (M : jT) (a0 : Int) (a1 : Int) (a2 : Int) (Q : Int → jT → Prop) : Prop :=
wp_X10_occurrenceFault M a0 a1 a2 (fun z1 M2 =>
wo_X10_refuse M2 z1 (wp_X10_remember M2 a0 (fun M6 =>
wp_X10_turnCancelled M6 a0 a1 a2 (fun z7 M8 =>
Q z7 M8))))
def wp_X10_cancel (M : jT) (a0 : Int) (a1 : Int) (a2 : Int) (Q : Int → jT → Prop) (X : Nat → jT → Prop) : Prop :=
wp_X10_occurrenceFault M a0 a1 a2 (fun z1 M2 =>
((wo_X10_refuse M2 z1 (wp_X10_remember M2 a0 (fun M6 =>
wp_X10_turnCancelled M6 a0 a1 a2 (fun z7 M8 =>
Q z7 M8)))) ∨
(wp_X10_refuse M2 z1 (fun _ => False) X)))
def wo_X10_shift (M : jT) (a0 : Int) (a1 : Int) (a2 : Int) (a3 : Int) (Q : Int → jT → Prop) : Prop :=
wp_X10_occurrenceFault M a0 a1 a2 (fun z1 M2 =>
wo_X10_refuse M2 z1 (∃ K13 : Int → Prop, (∀ (x12 : Int), K13 x12 → (wo_X10_needArgument M2 x12 (wp_X10_remember M2 a0 (fun M17 =>
(0 ≤ a1 ∧ a1 < 10) ∧
(0 ≤ a2 ∧ a2 < 40) ∧
∀ x21 : Int, x21 = M17 (a0 + 2 * a1 + 29) a2 →
∀ M23 : jT, M23 = up M17 (a0 + 2 * a1 + 29) a2 a3 →
∀ M25 : jT, M25 = up M23 (a0 + 3 * a1 + 570) 1 0 →
Q x21 M25)))) ∧
∃ K29 : Prop, (K29 → K13 0) ∧
rg a3 ∧
((a3 < (-1440) → K29) ∧
((-1440) ≤ a3 → (((1440 < a3 → K29) ∧
(a3 ≤ 1440 → K13 1)))))))
def wp_X10_shift (M : jT) (a0 : Int) (a1 : Int) (a2 : Int) (a3 : Int) (Q : Int → jT → Prop) (X : Nat → jT → Prop) : Prop :=
wp_X10_occurrenceFault M a0 a1 a2 (fun z1 M2 =>
((wo_X10_refuse M2 z1 (∃ K13 : Int → Prop, (∀ (x12 : Int), K13 x12 → (((wo_X10_needArgument M2 x12 (wp_X10_remember M2 a0 (fun M17 =>
(0 ≤ a1 ∧ a1 < 10) ∧
(0 ≤ a2 ∧ a2 < 40) ∧
∀ x21 : Int, x21 = M17 (a0 + 2 * a1 + 29) a2 →
∀ M23 : jT, M23 = up M17 (a0 + 2 * a1 + 29) a2 a3 →
∀ M25 : jT, M25 = up M23 (a0 + 3 * a1 + 570) 1 0 →
Q x21 M25))) ∨
(wp_X10_needArgument M2 x12 (fun _ => False) X)))) ∧
∃ K29 : Prop, (K29 → K13 0) ∧
rg a3 ∧
((a3 < (-1440) → K29) ∧
((-1440) ≤ a3 → (((1440 < a3 → K29) ∧
(a3 ≤ 1440 → K13 1))))))) ∨
(wp_X10_refuse M2 z1 (fun _ => False) X)))
def pf_X5_localOf (M : jT) (a0 : Int) (a1 : Int) (a2 : Int) : Int :=
((1440 * (M (a0 + 1) a2)) + (M a1 2)) + (M (a1 + 1) a2)
def pg_X5_localOf (M : jT) (a0 : Int) (a1 : Int) (a2 : Int) : Prop :=
(0 ≤ a2 ∧ a2 < 40) ∧
True
def wp_X5_time (M : jT) (a0 : Int) (a1 : Int) (a2 : Int) (Q : jT → Prop) : Prop :=
∃ I3 : Nat → Int → jT → Prop, (∃ n4, I3 n4 0 M) ∧
∀ (n4 : Nat) (x1 : Int) (M2 : jT), I3 n4 x1 M2 →
rg x1 ∧
rg (M2 a0 2) ∧
((M2 a0 2 ≤ x1 → (∀ M8 : jT, M8 = up M2 a0 1 1 →
Q M8)) ∧
(x1 < M2 a0 2 → ((pg_X5_localOf M2 a0 a1 x1) ∧
∀ x12 : Int, x12 = pf_X5_localOf M2 a0 a1 x1 →
(pg_X10_isLocal x12) ∧
∃ K21 : Int → jT → Prop, (∀ (x19 : Int) (M20 : jT), K21 x19 M20 → ((0 ≤ x1 ∧ x1 < 40) ∧
∀ M23 : jT, M23 = up M20 (a0 + 2) x1 x19 →
∀ x24 : Int, x24 = x1 + 1 →
∃ n25, n25 < n4 ∧ I3 n25 x24 M23)) ∧
((¬ (pb_X10_isLocal x12) → K21 ((-1000000000)) M2) ∧
(pb_X10_isLocal x12 → wp_X7_instantOf M2 a2 x12 (M2 a1 4) (fun z27 M28 =>
K21 z27 M28))))))
def wp_X10_timed (M : jT) (a0 : Int) (a1 : Int) (Q : Int → jT → Prop) : Prop :=
wp_X10_laidOut M a0 a1 (fun k1 M2 =>
∃ K13 : jT → Prop, (∀ (M12 : jT), K13 M12 → Q k1 M12) ∧
rg (M2 k1 1) ∧
((M2 k1 1 ≠ 0 → K13 M2) ∧
(M2 k1 1 = 0 → ((0 ≤ a1 ∧ a1 < 10) ∧
wp_X10_compiled M2 a0 (M2 (a0 + 2 * a1 + 28) 0) (fun k19 M20 =>
wp_X5_time M20 k1 (a0 + 2 * a1 + 28) k19 (fun M22 =>
K13 M22))))))
abbrev pb_X5_takesPlace (M : jT) (a0 : Int) (a1 : Int) (a2 : Int) : Prop :=
M (a0 + 2) a2 ≠ (-1000000000) ∧ ¬ (pb_X4_isCancelled M a1 a2)
def pg_X5_takesPlace (M : jT) (a0 : Int) (a1 : Int) (a2 : Int) : Prop :=
(0 ≤ a2 ∧ a2 < 40) ∧
rg (M (a0 + 2) a2) ∧
((M (a0 + 2) a2 = (-1000000000) → True) ∧
(M (a0 + 2) a2 ≠ (-1000000000) → ((pg_X4_isCancelled M a1 a2) ∧
((pb_X4_isCancelled M a1 a2 → True) ∧
(¬ (pb_X4_isCancelled M a1 a2) → True)))))
def wp_X5_countTaking (M : jT) (a0 : Int) (a1 : Int) (Q : Int → Prop) : Prop :=
∃ I3 : Nat → Int → Int → Prop, (∃ n4, I3 n4 0 0) ∧
∀ (n4 : Nat) (x1 : Int) (x2 : Int), I3 n4 x1 x2 →
rg x2 ∧
rg (M a0 2) ∧
((M a0 2 ≤ x2 → Q x1) ∧
(x2 < M a0 2 → ((pg_X5_takesPlace M a0 a1 x2) ∧
(((¬ (pb_X5_takesPlace M a0 a1 x2) → True) ∧
(pb_X5_takesPlace M a0 a1 x2 → True))) ∧
∀ x15 : Int, x15 = x1 + (b2i (pb_X5_takesPlace M a0 a1 x2)) →
∀ x16 : Int, x16 = x2 + 1 →
∃ n17, n17 < n4 ∧ I3 n17 x15 x16)))
def wo_X10_meeting (M : jT) (a0 : Int) (a1 : Int) (a2 : Int) (Q : Int → jT → Prop) : Prop :=
wo_X10_needMeeting M a0 a1 (∃ K11 : Int → Prop, (∀ (x10 : Int), K11 x10 → (wo_X10_needArgument M x10 ((0 ≤ a1 ∧ a1 < 10) ∧
rg a2 ∧
((a2 = 0 → Q (M (a0 + 2 * a1 + 28) 0) M) ∧
(a2 = 1 → Q (M (a0 + 2 * a1 + 28) 1) M) ∧
(a2 = 2 → Q (M (a0 + 2 * a1 + 28) 2) M) ∧
(a2 = 3 → Q (M (a0 + 2 * a1 + 28) 3) M) ∧
(a2 = 4 → Q (M (a0 + 2 * a1 + 28) 4) M) ∧
(a2 = 5 → Q (M (a0 + 2 * a1 + 28) 6) M) ∧
(a2 = 6 → Q (M (a0 + 2 * a1 + 28) 7) M) ∧
(a2 = 7 → Q (M (a0 + 2 * a1 + 28) 8) M) ∧
(a2 = 8 → wp_X10_laidOut M a0 a1 (fun k18 M19 =>
Q (M19 k18 2) M19)) ∧
(a2 ≠ 0 ∧ a2 ≠ 1 ∧ a2 ≠ 2 ∧ a2 ≠ 3 ∧ a2 ≠ 4 ∧ a2 ≠ 5 ∧ a2 ≠ 6 ∧ a2 ≠ 7 ∧ a2 ≠ 8 → wp_X10_timed M a0 a1 (fun k20 M21 =>
wp_X5_countTaking M21 k20 (a0 + 2 * a1 + 28) (fun z22 =>
Q z22 M21))))))) ∧
∃ K27 : Prop, (K27 → K11 0) ∧
rg a2 ∧
((a2 < 0 → K27) ∧
(0 ≤ a2 → (((9 < a2 → K27) ∧
(a2 ≤ 9 → K11 1))))))
def wp_X10_meeting (M : jT) (a0 : Int) (a1 : Int) (a2 : Int) (Q : Int → jT → Prop) (X : Nat → jT → Prop) : Prop :=
((wo_X10_needMeeting M a0 a1 (∃ K11 : Int → Prop, (∀ (x10 : Int), K11 x10 → (((wo_X10_needArgument M x10 ((0 ≤ a1 ∧ a1 < 10) ∧
rg a2 ∧
((a2 = 0 → Q (M (a0 + 2 * a1 + 28) 0) M) ∧
(a2 = 1 → Q (M (a0 + 2 * a1 + 28) 1) M) ∧
(a2 = 2 → Q (M (a0 + 2 * a1 + 28) 2) M) ∧
(a2 = 3 → Q (M (a0 + 2 * a1 + 28) 3) M) ∧
(a2 = 4 → Q (M (a0 + 2 * a1 + 28) 4) M) ∧
(a2 = 5 → Q (M (a0 + 2 * a1 + 28) 6) M) ∧
(a2 = 6 → Q (M (a0 + 2 * a1 + 28) 7) M) ∧
(a2 = 7 → Q (M (a0 + 2 * a1 + 28) 8) M) ∧
(a2 = 8 → wp_X10_laidOut M a0 a1 (fun k18 M19 =>
Q (M19 k18 2) M19)) ∧
(a2 ≠ 0 ∧ a2 ≠ 1 ∧ a2 ≠ 2 ∧ a2 ≠ 3 ∧ a2 ≠ 4 ∧ a2 ≠ 5 ∧ a2 ≠ 6 ∧ a2 ≠ 7 ∧ a2 ≠ 8 → wp_X10_timed M a0 a1 (fun k20 M21 =>
wp_X5_countTaking M21 k20 (a0 + 2 * a1 + 28) (fun z22 =>
Q z22 M21)))))) ∨
(wp_X10_needArgument M x10 (fun _ => False) X)))) ∧
∃ K27 : Prop, (K27 → K11 0) ∧
rg a2 ∧
((a2 < 0 → K27) ∧
(0 ≤ a2 → (((9 < a2 → K27) ∧
(a2 ≤ 9 → K11 1))))))) ∨
(wp_X10_needMeeting M a0 a1 (fun _ => False) X))
def pf_X10_stateOf (M : jT) (a0 : Int) (a1 : Int) (a2 : Int) : Int :=
if ¬ (pb_X4_isCancelled M a0 a2) then (if ¬ (pb_X5_takesPlace M a1 a0 a2) then 2 else 0) else 1
def pg_X10_stateOf (M : jT) (a0 : Int) (a1 : Int) (a2 : Int) : Prop :=
(pg_X4_isCancelled M a0 a2) ∧
((¬ (pb_X4_isCancelled M a0 a2) → ((pg_X5_takesPlace M a1 a0 a2) ∧
((¬ (pb_X5_takesPlace M a1 a0 a2) → True) ∧
(pb_X5_takesPlace M a1 a0 a2 → True)))) ∧
(pb_X4_isCancelled M a0 a2 → True))
def wo_X10_occurrence (M : jT) (a0 : Int) (a1 : Int) (a2 : Int) (a3 : Int) (Q : Int → jT → Prop) : Prop :=
wp_X10_occurrenceFault M a0 a1 a2 (fun z1 M2 =>
wo_X10_refuse M2 z1 (∃ K13 : Int → Prop, (∀ (x12 : Int), K13 x12 → (wo_X10_needArgument M2 x12 ((0 ≤ a1 ∧ a1 < 10) ∧
wp_X10_timed M2 a0 a1 (fun k18 M19 =>
(pg_X5_localOf M19 k18 (a0 + 2 * a1 + 28) a2) ∧
∀ x23 : Int, x23 = pf_X5_localOf M19 k18 (a0 + 2 * a1 + 28) a2 →
rg a3 ∧
((a3 = 0 → ((0 ≤ a2 ∧ a2 < 40) ∧
Q (M19 (k18 + 1) a2) M19)) ∧
(a3 = 1 → Q x23 M19) ∧
(a3 = 2 → ((0 ≤ a2 ∧ a2 < 40) ∧
Q (M19 (a0 + 2 * a1 + 29) a2) M19)) ∧
(a3 = 3 → ((pg_X10_stateOf M19 (a0 + 2 * a1 + 28) k18 a2) ∧
Q (pf_X10_stateOf M19 (a0 + 2 * a1 + 28) k18 a2) M19)) ∧
(a3 = 4 → ((pg_X10_isLocal x23) ∧
∃ K39 : Int → jT → Prop, (∀ (x37 : Int) (M38 : jT), K39 x37 M38 → Q x37 M38) ∧
((¬ (pb_X10_isLocal x23) → K39 ((-1)) M19) ∧
(pb_X10_isLocal x23 → wo_X10_instants M19 a0 (M19 (a0 + 2 * a1 + 28) 0) x23 (fun z41 M42 =>
K39 z41 M42))))) ∧
(a3 ≠ 0 ∧ a3 ≠ 1 ∧ a3 ≠ 2 ∧ a3 ≠ 3 ∧ a3 ≠ 4 → ((pg_X5_takesPlace M19 k18 (a0 + 2 * a1 + 28) a2) ∧
wo_X10_needElement M19 (b2i (pb_X5_takesPlace M19 k18 (a0 + 2 * a1 + 28) a2)) ((0 ≤ a2 ∧ a2 < 40) ∧
Q (M19 (k18 + 2) a2) M19)))))))) ∧
∃ K52 : Prop, (K52 → K13 0) ∧
rg a3 ∧
((a3 < 0 → K52) ∧
(0 ≤ a3 → (((5 < a3 → K52) ∧
(a3 ≤ 5 → K13 1)))))))
def wp_X10_occurrence (M : jT) (a0 : Int) (a1 : Int) (a2 : Int) (a3 : Int) (Q : Int → jT → Prop) (X : Nat → jT → Prop) : Prop :=
wp_X10_occurrenceFault M a0 a1 a2 (fun z1 M2 =>
((wo_X10_refuse M2 z1 (∃ K13 : Int → Prop, (∀ (x12 : Int), K13 x12 → (((wo_X10_needArgument M2 x12 ((0 ≤ a1 ∧ a1 < 10) ∧
wp_X10_timed M2 a0 a1 (fun k18 M19 =>
(pg_X5_localOf M19 k18 (a0 + 2 * a1 + 28) a2) ∧
∀ x23 : Int, x23 = pf_X5_localOf M19 k18 (a0 + 2 * a1 + 28) a2 →
rg a3 ∧
((a3 = 0 → ((0 ≤ a2 ∧ a2 < 40) ∧
Q (M19 (k18 + 1) a2) M19)) ∧
(a3 = 1 → Q x23 M19) ∧
(a3 = 2 → ((0 ≤ a2 ∧ a2 < 40) ∧
Q (M19 (a0 + 2 * a1 + 29) a2) M19)) ∧
(a3 = 3 → ((pg_X10_stateOf M19 (a0 + 2 * a1 + 28) k18 a2) ∧
Q (pf_X10_stateOf M19 (a0 + 2 * a1 + 28) k18 a2) M19)) ∧
(a3 = 4 → ((pg_X10_isLocal x23) ∧
∃ K39 : Int → jT → Prop, (∀ (x37 : Int) (M38 : jT), K39 x37 M38 → Q x37 M38) ∧
((¬ (pb_X10_isLocal x23) → K39 ((-1)) M19) ∧
(pb_X10_isLocal x23 → ((wo_X10_instants M19 a0 (M19 (a0 + 2 * a1 + 28) 0) x23 (fun z41 M42 =>
K39 z41 M42)) ∨
(wp_X10_instants M19 a0 (M19 (a0 + 2 * a1 + 28) 0) x23 (fun _ _ => False) X)))))) ∧
(a3 ≠ 0 ∧ a3 ≠ 1 ∧ a3 ≠ 2 ∧ a3 ≠ 3 ∧ a3 ≠ 4 → ((pg_X5_takesPlace M19 k18 (a0 + 2 * a1 + 28) a2) ∧
((wo_X10_needElement M19 (b2i (pb_X5_takesPlace M19 k18 (a0 + 2 * a1 + 28) a2)) ((0 ≤ a2 ∧ a2 < 40) ∧
Q (M19 (k18 + 2) a2) M19)) ∨
(wp_X10_needElement M19 (b2i (pb_X5_takesPlace M19 k18 (a0 + 2 * a1 + 28) a2)) (fun _ => False) X)))))))) ∨
(wp_X10_needArgument M2 x12 (fun _ => False) X)))) ∧
∃ K52 : Prop, (K52 → K13 0) ∧
rg a3 ∧
((a3 < 0 → K52) ∧
(0 ≤ a3 → (((5 < a3 → K52) ∧
(a3 ≤ 5 → K13 1))))))) ∨
(wp_X10_refuse M2 z1 (fun _ => False) X)))
def wo_X10_next (M : jT) (a0 : Int) (a1 : Int) (a2 : Int) (Q : Int → jT → Prop) : Prop :=
wo_X10_needMeeting M a0 a1 ((pg_X10_isInstant a2) ∧
wo_X10_needArgument M (b2i (pb_X10_isInstant a2)) ((0 ≤ a1 ∧ a1 < 10) ∧
wp_X10_timed M a0 a1 (fun k10 M11 =>
∃ I14 : Nat → Int → Int → Prop, (∃ n15, I14 n15 ((-1)) 0) ∧
∀ (n15 : Nat) (x12 : Int) (x13 : Int), I14 n15 x12 x13 →
rg x13 ∧
rg (M11 k10 2) ∧
((M11 k10 2 ≤ x13 → ((rg x12 ∧
((x12 < 0 → True) ∧
(0 ≤ x12 → True))) ∧
wo_X10_needElement M11 (b2i (0 ≤ x12)) (Q x12 M11))) ∧
(x13 < M11 k10 2 → ((pg_X5_takesPlace M11 k10 (a0 + 2 * a1 + 28) x13) ∧
(((¬ (pb_X5_takesPlace M11 k10 (a0 + 2 * a1 + 28) x13) → True) ∧
(pb_X5_takesPlace M11 k10 (a0 + 2 * a1 + 28) x13 → ((0 ≤ x13 ∧ x13 < 40) ∧
rg (M11 (k10 + 2) x13) ∧
rg a2 ∧
((M11 (k10 + 2) x13 < a2 → True) ∧
(a2 ≤ M11 (k10 + 2) x13 → (rg x12 ∧
((x12 < 0 → True) ∧
(0 ≤ x12 → ((0 ≤ x12 ∧ x12 < 40) ∧
rg (M11 (k10 + 2) x12) ∧
((M11 (k10 + 2) x12 ≤ M11 (k10 + 2) x13 → True) ∧
(M11 (k10 + 2) x13 < M11 (k10 + 2) x12 → True)))))))))))) ∧
(∀ x40 : Int, (¬ (pb_X5_takesPlace M11 k10 (a0 + 2 * a1 + 28) x13) → x40 = x12) → (pb_X5_takesPlace M11 k10 (a0 + 2 * a1 + 28) x13 ∧ M11 (k10 + 2) x13 < a2 → x40 = x12) → (pb_X5_takesPlace M11 k10 (a0 + 2 * a1 + 28) x13 ∧ a2 ≤ M11 (k10 + 2) x13 ∧ x12 < 0 → x40 = x13) → (pb_X5_takesPlace M11 k10 (a0 + 2 * a1 + 28) x13 ∧ a2 ≤ M11 (k10 + 2) x13 ∧ 0 ≤ x12 ∧ M11 (k10 + 2) x12 ≤ M11 (k10 + 2) x13 → x40 = x12) → (pb_X5_takesPlace M11 k10 (a0 + 2 * a1 + 28) x13 ∧ a2 ≤ M11 (k10 + 2) x13 ∧ 0 ≤ x12 ∧ M11 (k10 + 2) x13 < M11 (k10 + 2) x12 → x40 = x13) → 
∀ x52 : Int, x52 = x13 + 1 →
∃ n53, n53 < n15 ∧ I14 n53 x40 x52)))))))
def wp_X10_next (M : jT) (a0 : Int) (a1 : Int) (a2 : Int) (Q : Int → jT → Prop) (X : Nat → jT → Prop) : Prop :=
((wo_X10_needMeeting M a0 a1 ((pg_X10_isInstant a2) ∧
((wo_X10_needArgument M (b2i (pb_X10_isInstant a2)) ((0 ≤ a1 ∧ a1 < 10) ∧
wp_X10_timed M a0 a1 (fun k10 M11 =>
∃ I14 : Nat → Int → Int → Prop, (∃ n15, I14 n15 ((-1)) 0) ∧
∀ (n15 : Nat) (x12 : Int) (x13 : Int), I14 n15 x12 x13 →
rg x13 ∧
rg (M11 k10 2) ∧
((M11 k10 2 ≤ x13 → ((rg x12 ∧
((x12 < 0 → True) ∧
(0 ≤ x12 → True))) ∧
((wo_X10_needElement M11 (b2i (0 ≤ x12)) (Q x12 M11)) ∨
(wp_X10_needElement M11 (b2i (0 ≤ x12)) (fun _ => False) X)))) ∧
(x13 < M11 k10 2 → ((pg_X5_takesPlace M11 k10 (a0 + 2 * a1 + 28) x13) ∧
(((¬ (pb_X5_takesPlace M11 k10 (a0 + 2 * a1 + 28) x13) → True) ∧
(pb_X5_takesPlace M11 k10 (a0 + 2 * a1 + 28) x13 → ((0 ≤ x13 ∧ x13 < 40) ∧
rg (M11 (k10 + 2) x13) ∧
rg a2 ∧
((M11 (k10 + 2) x13 < a2 → True) ∧
(a2 ≤ M11 (k10 + 2) x13 → (rg x12 ∧
((x12 < 0 → True) ∧
(0 ≤ x12 → ((0 ≤ x12 ∧ x12 < 40) ∧
rg (M11 (k10 + 2) x12) ∧
((M11 (k10 + 2) x12 ≤ M11 (k10 + 2) x13 → True) ∧
(M11 (k10 + 2) x13 < M11 (k10 + 2) x12 → True)))))))))))) ∧
(∀ x40 : Int, (¬ (pb_X5_takesPlace M11 k10 (a0 + 2 * a1 + 28) x13) → x40 = x12) → (pb_X5_takesPlace M11 k10 (a0 + 2 * a1 + 28) x13 ∧ M11 (k10 + 2) x13 < a2 → x40 = x12) → (pb_X5_takesPlace M11 k10 (a0 + 2 * a1 + 28) x13 ∧ a2 ≤ M11 (k10 + 2) x13 ∧ x12 < 0 → x40 = x13) → (pb_X5_takesPlace M11 k10 (a0 + 2 * a1 + 28) x13 ∧ a2 ≤ M11 (k10 + 2) x13 ∧ 0 ≤ x12 ∧ M11 (k10 + 2) x12 ≤ M11 (k10 + 2) x13 → x40 = x12) → (pb_X5_takesPlace M11 k10 (a0 + 2 * a1 + 28) x13 ∧ a2 ≤ M11 (k10 + 2) x13 ∧ 0 ≤ x12 ∧ M11 (k10 + 2) x13 < M11 (k10 + 2) x12 → x40 = x13) → 
∀ x52 : Int, x52 = x13 + 1 →
∃ n53, n53 < n15 ∧ I14 n53 x40 x52))))))) ∨
(wp_X10_needArgument M (b2i (pb_X10_isInstant a2)) (fun _ => False) X)))) ∨
(wp_X10_needMeeting M a0 a1 (fun _ => False) X))
def wp_X10_firstClash (M : jT) (a0 : Int) (a1 : Int) (a2 : Int) (a3 : Int) (Q : Int → Prop) : Prop :=
(0 ≤ a3 ∧ a3 < 10) ∧
(0 ≤ a1 ∧ a1 < 10) ∧
(0 ≤ a2 ∧ a2 < 40) ∧
∀ x7 : Int, x7 = M (a0 + 3 * a1 + 572) a2 →
∀ x9 : Int, x9 = x7 + (M (a0 + 2 * a1 + 28) 3) →
(rg a1 ∧
rg a3 ∧
((a1 ≠ a3 → True) ∧
(a1 = a3 → True))) ∧
(∀ x13 : Int, (a1 ≠ a3 → x13 = 0) → (a1 = a3 → x13 = a2 + 1) → 
∃ I19 : Nat → Int → Prop, (∃ n20, I19 n20 x13) ∧
∀ (n20 : Nat) (x18 : Int), I19 n20 x18 →
rg x18 ∧
rg (M (a0 + 3 * a3 + 570) 2) ∧
((M (a0 + 3 * a3 + 570) 2 ≤ x18 → Q ((-1))) ∧
(x18 < M (a0 + 3 * a3 + 570) 2 → ((pg_X5_takesPlace M (a0 + 3 * a3 + 570) (a0 + 2 * a3 + 28) x18) ∧
∃ K35 : Prop, (K35 → (∀ x36 : Int, x36 = x18 + 1 →
∃ n37, n37 < n20 ∧ I19 n37 x36)) ∧
((¬ (pb_X5_takesPlace M (a0 + 3 * a3 + 570) (a0 + 2 * a3 + 28) x18) → K35) ∧
(pb_X5_takesPlace M (a0 + 3 * a3 + 570) (a0 + 2 * a3 + 28) x18 → ((0 ≤ x18 ∧ x18 < 40) ∧
rg (M (a0 + 3 * a3 + 572) x18) ∧
rg x9 ∧
((x9 ≤ M (a0 + 3 * a3 + 572) x18 → K35) ∧
(M (a0 + 3 * a3 + 572) x18 < x9 → (rg x7 ∧
rg ((M (a0 + 3 * a3 + 572) x18) + (M (a0 + 2 * a3 + 28) 3)) ∧
(((M (a0 + 3 * a3 + 572) x18) + (M (a0 + 2 * a3 + 28) 3) ≤ x7 → K35) ∧
(x7 < (M (a0 + 3 * a3 + 572) x18) + (M (a0 + 2 * a3 + 28) 3) → Q x18))))))))))))
def wo_X10_clash (M : jT) (a0 : Int) (a1 : Int) (a2 : Int) (Q : Int → jT → Prop) : Prop :=
wo_X10_needMeeting M a0 a1 (wo_X10_needMeeting M a0 a2 (wp_X10_timed M a0 a1 (fun k5 M6 =>
wp_X10_timed M6 a0 a2 (fun k7 M8 =>
∃ I10 : Nat → Int → Prop, (∃ n11, I10 n11 0) ∧
∀ (n11 : Nat) (x9 : Int), I10 n11 x9 →
rg x9 ∧
rg (M8 k5 2) ∧
((M8 k5 2 ≤ x9 → Q ((-1)) M8) ∧
(x9 < M8 k5 2 → ((0 ≤ a1 ∧ a1 < 10) ∧
(pg_X5_takesPlace M8 k5 (a0 + 2 * a1 + 28) x9) ∧
∃ K24 : Int → Prop, (∀ (x23 : Int), K24 x23 → (rg x23 ∧
((x23 < 0 → (∀ x27 : Int, x27 = x9 + 1 →
∃ n28, n28 < n11 ∧ I10 n28 x27)) ∧
(0 ≤ x23 → Q ((100 * x9) + x23) M8)))) ∧
((¬ (pb_X5_takesPlace M8 k5 (a0 + 2 * a1 + 28) x9) → K24 ((-1))) ∧
(pb_X5_takesPlace M8 k5 (a0 + 2 * a1 + 28) x9 → wp_X10_firstClash M8 a0 a1 x9 a2 (fun z30 =>
K24 z30))))))))))
def wp_X10_clash (M : jT) (a0 : Int) (a1 : Int) (a2 : Int) (Q : Int → jT → Prop) (X : Nat → jT → Prop) : Prop :=
((wo_X10_needMeeting M a0 a1 (((wo_X10_needMeeting M a0 a2 (wp_X10_timed M a0 a1 (fun k5 M6 =>
wp_X10_timed M6 a0 a2 (fun k7 M8 =>
∃ I10 : Nat → Int → Prop, (∃ n11, I10 n11 0) ∧
∀ (n11 : Nat) (x9 : Int), I10 n11 x9 →
rg x9 ∧
rg (M8 k5 2) ∧
((M8 k5 2 ≤ x9 → Q ((-1)) M8) ∧
(x9 < M8 k5 2 → ((0 ≤ a1 ∧ a1 < 10) ∧
(pg_X5_takesPlace M8 k5 (a0 + 2 * a1 + 28) x9) ∧
∃ K24 : Int → Prop, (∀ (x23 : Int), K24 x23 → (rg x23 ∧
((x23 < 0 → (∀ x27 : Int, x27 = x9 + 1 →
∃ n28, n28 < n11 ∧ I10 n28 x27)) ∧
(0 ≤ x23 → Q ((100 * x9) + x23) M8)))) ∧
((¬ (pb_X5_takesPlace M8 k5 (a0 + 2 * a1 + 28) x9) → K24 ((-1))) ∧
(pb_X5_takesPlace M8 k5 (a0 + 2 * a1 + 28) x9 → wp_X10_firstClash M8 a0 a1 x9 a2 (fun z30 =>
K24 z30)))))))))) ∨
(wp_X10_needMeeting M a0 a2 (fun _ => False) X)))) ∨
(wp_X10_needMeeting M a0 a1 (fun _ => False) X))
def wp_X10_listBeginnings (M : jT) (a0 : Int) (a1 : Int) (Q : Int → jT → Prop) : Prop :=
∃ I4 : Nat → Int → Int → jT → Prop, (∃ n5, I4 n5 0 0 M) ∧
∀ (n5 : Nat) (x1 : Int) (x2 : Int) (M3 : jT), I4 n5 x1 x2 M3 →
rg x2 ∧
rg (M3 (a0 + 1) 1) ∧
((M3 (a0 + 1) 1 ≤ x2 → Q x1 M3) ∧
(x2 < M3 (a0 + 1) 1 → ((0 ≤ x2 ∧ x2 < 10) ∧
wp_X10_timed M3 a0 x2 (fun k11 M12 =>
∃ I16 : Nat → Int → Int → jT → Prop, (∃ n17, I16 n17 x1 0 M12) ∧
∀ (n17 : Nat) (x13 : Int) (x14 : Int) (M15 : jT), I16 n17 x13 x14 M15 →
rg x14 ∧
rg (M15 k11 2) ∧
((M15 k11 2 ≤ x14 → (∀ x21 : Int, x21 = x2 + 1 →
∃ n22, n22 < n5 ∧ I4 n22 x13 x21 M15)) ∧
(x14 < M15 k11 2 → ((pg_X5_takesPlace M15 k11 (a0 + 2 * x2 + 28) x14) ∧
∃ K41 : Int → jT → Prop, (∀ (x39 : Int) (M40 : jT), K41 x39 M40 → (∀ x42 : Int, x42 = x14 + 1 →
∃ n43, n43 < n17 ∧ I16 n43 x39 x42 M40)) ∧
((¬ (pb_X5_takesPlace M15 k11 (a0 + 2 * x2 + 28) x14) → K41 x13 M15) ∧
(pb_X5_takesPlace M15 k11 (a0 + 2 * x2 + 28) x14 → ((0 ≤ x14 ∧ x14 < 40) ∧
rg (M15 (k11 + 2) x14) ∧
rg a1 ∧
((M15 (k11 + 2) x14 < a1 → K41 x13 M15) ∧
(a1 ≤ M15 (k11 + 2) x14 → (rg x13 ∧
((400 ≤ x13 → K41 x13 M15) ∧
(x13 < 400 → (rg ((M15 (k11 + 2) x14) - ((-2000))) ∧
∀ x52 : Int, x52 = (M15 (k11 + 2) x14) - ((-2000)) →
rg (x2 * 40) ∧
(0 ≤ x13 ∧ x13 < 400) ∧
∀ M55 : jT, M55 = up M15 (a0 + 607) x13 (((x52 * 400) + (x2 * 40)) + x14) →
∀ x56 : Int, x56 = x13 + 1 →
K41 x56 M55))))))))))))))))
def wo_X10_agenda (M : jT) (a0 : Int) (a1 : Int) (a2 : Int) (Q : Int → jT → Prop) : Prop :=
(pg_X10_isInstant a1) ∧
wo_X10_needArgument M (b2i (pb_X10_isInstant a1)) (wp_X10_listBeginnings M a0 a1 (fun z6 M7 =>
∃ K18 : Int → Prop, (∀ (x17 : Int), K18 x17 → (wo_X10_needElement M7 x17 (wp_X10_sortKeys_b M7 (a0 + 607) z6 (fun M22 =>
(0 ≤ a2 ∧ a2 < 400) ∧
(0 ≤ (M22 (a0 + 607) a2) ∧ (M22 (a0 + 607) a2) < 9223372036854775808) ∧
∀ x25 : Int, x25 = (M22 (a0 + 607) a2) % 400 →
(0 ≤ x25 ∧ x25 < 2147483648) ∧
Q ((100 * (x25 / 40)) + (x25 % 40)) M22)))) ∧
∃ K31 : Prop, (K31 → K18 0) ∧
rg a2 ∧
((a2 < 0 → K31) ∧
(0 ≤ a2 → (rg z6 ∧
((z6 ≤ a2 → K31) ∧
(a2 < z6 → K18 1)))))))
def wp_X10_agenda (M : jT) (a0 : Int) (a1 : Int) (a2 : Int) (Q : Int → jT → Prop) (X : Nat → jT → Prop) : Prop :=
(pg_X10_isInstant a1) ∧
((wo_X10_needArgument M (b2i (pb_X10_isInstant a1)) (wp_X10_listBeginnings M a0 a1 (fun z6 M7 =>
∃ K18 : Int → Prop, (∀ (x17 : Int), K18 x17 → (((wo_X10_needElement M7 x17 (wp_X10_sortKeys_b M7 (a0 + 607) z6 (fun M22 =>
(0 ≤ a2 ∧ a2 < 400) ∧
(0 ≤ (M22 (a0 + 607) a2) ∧ (M22 (a0 + 607) a2) < 9223372036854775808) ∧
∀ x25 : Int, x25 = (M22 (a0 + 607) a2) % 400 →
(0 ≤ x25 ∧ x25 < 2147483648) ∧
Q ((100 * (x25 / 40)) + (x25 % 40)) M22))) ∨
(wp_X10_needElement M7 x17 (fun _ => False) X)))) ∧
∃ K31 : Prop, (K31 → K18 0) ∧
rg a2 ∧
((a2 < 0 → K31) ∧
(0 ≤ a2 → (rg z6 ∧
((z6 ≤ a2 → K31) ∧
(a2 < z6 → K18 1)))))))) ∨
(wp_X10_needArgument M (b2i (pb_X10_isInstant a1)) (fun _ => False) X))
def wo_X10_free (M : jT) (a0 : Int) (a1 : Int) (a2 : Int) (a3 : Int) (Q : Int → jT → Prop) : Prop :=
(pg_X10_isInstant a1) ∧
∃ K22 : Int → Prop, (∀ (x21 : Int), K22 x21 → (wo_X10_needArgument M x21 (wp_X10_listBeginnings M a0 (a1 - 1440) (fun z25 M26 =>
wp_X10_sortKeys_b M26 (a0 + 607) z25 (fun M28 =>
∃ I31 : Nat → Int → Int → Prop, (∃ n32, I31 n32 a1 0) ∧
∀ (n32 : Nat) (x29 : Int) (x30 : Int), I31 n32 x29 x30 →
rg x30 ∧
rg z25 ∧
((z25 ≤ x30 → ((rg (x29 + a3) ∧
rg a2 ∧
((a2 < x29 + a3 → True) ∧
(x29 + a3 ≤ a2 → True))) ∧
wo_X10_needElement M28 (b2i (x29 + a3 ≤ a2)) (Q x29 M28))) ∧
(x30 < z25 → ((0 ≤ x30 ∧ x30 < 400) ∧
(0 ≤ (M28 (a0 + 607) x30) ∧ (M28 (a0 + 607) x30) < 9223372036854775808) ∧
∀ x48 : Int, x48 = ((M28 (a0 + 607) x30) / 400) + ((-2000)) →
(0 ≤ ((M28 (a0 + 607) x30) % 400) ∧ ((M28 (a0 + 607) x30) % 400) < 2147483648) ∧
∀ x50 : Int, x50 = ((M28 (a0 + 607) x30) % 400) / 40 →
∃ K60 : Int → Prop, (∀ (x59 : Int), K60 x59 → (∀ x61 : Int, x61 = x30 + 1 →
∃ n62, n62 < n32 ∧ I31 n62 x59 x61)) ∧
rg x48 ∧
rg (x29 + a3) ∧
((x29 + a3 ≤ x48 → K60 x29) ∧
(x48 < x29 + a3 → ((0 ≤ x50 ∧ x50 < 10) ∧
rg x29 ∧
rg (x48 + (M28 (a0 + 2 * x50 + 28) 3)) ∧
∀ x70 : Int, x70 = max x29 (x48 + (M28 (a0 + 2 * x50 + 28) 3)) →
K60 x70))))))))))) ∧
∃ K79 : Prop, (K79 → K22 0) ∧
((¬ (pb_X10_isInstant a1) → K79) ∧
(pb_X10_isInstant a1 → ((pg_X10_isInstant a2) ∧
((¬ (pb_X10_isInstant a2) → K79) ∧
(pb_X10_isInstant a2 → (rg a3 ∧
((a3 < 1 → K79) ∧
(1 ≤ a3 → (((1440 < a3 → K79) ∧
(a3 ≤ 1440 → K22 1)))))))))))
def wp_X10_free (M : jT) (a0 : Int) (a1 : Int) (a2 : Int) (a3 : Int) (Q : Int → jT → Prop) (X : Nat → jT → Prop) : Prop :=
(pg_X10_isInstant a1) ∧
∃ K22 : Int → Prop, (∀ (x21 : Int), K22 x21 → (((wo_X10_needArgument M x21 (wp_X10_listBeginnings M a0 (a1 - 1440) (fun z25 M26 =>
wp_X10_sortKeys_b M26 (a0 + 607) z25 (fun M28 =>
∃ I31 : Nat → Int → Int → Prop, (∃ n32, I31 n32 a1 0) ∧
∀ (n32 : Nat) (x29 : Int) (x30 : Int), I31 n32 x29 x30 →
rg x30 ∧
rg z25 ∧
((z25 ≤ x30 → ((rg (x29 + a3) ∧
rg a2 ∧
((a2 < x29 + a3 → True) ∧
(x29 + a3 ≤ a2 → True))) ∧
((wo_X10_needElement M28 (b2i (x29 + a3 ≤ a2)) (Q x29 M28)) ∨
(wp_X10_needElement M28 (b2i (x29 + a3 ≤ a2)) (fun _ => False) X)))) ∧
(x30 < z25 → ((0 ≤ x30 ∧ x30 < 400) ∧
(0 ≤ (M28 (a0 + 607) x30) ∧ (M28 (a0 + 607) x30) < 9223372036854775808) ∧
∀ x48 : Int, x48 = ((M28 (a0 + 607) x30) / 400) + ((-2000)) →
(0 ≤ ((M28 (a0 + 607) x30) % 400) ∧ ((M28 (a0 + 607) x30) % 400) < 2147483648) ∧
∀ x50 : Int, x50 = ((M28 (a0 + 607) x30) % 400) / 40 →
∃ K60 : Int → Prop, (∀ (x59 : Int), K60 x59 → (∀ x61 : Int, x61 = x30 + 1 →
∃ n62, n62 < n32 ∧ I31 n62 x59 x61)) ∧
rg x48 ∧
rg (x29 + a3) ∧
((x29 + a3 ≤ x48 → K60 x29) ∧
(x48 < x29 + a3 → ((0 ≤ x50 ∧ x50 < 10) ∧
rg x29 ∧
rg (x48 + (M28 (a0 + 2 * x50 + 28) 3)) ∧
∀ x70 : Int, x70 = max x29 (x48 + (M28 (a0 + 2 * x50 + 28) 3)) →
K60 x70)))))))))) ∨
(wp_X10_needArgument M x21 (fun _ => False) X)))) ∧
∃ K79 : Prop, (K79 → K22 0) ∧
((¬ (pb_X10_isInstant a1) → K79) ∧
(pb_X10_isInstant a1 → ((pg_X10_isInstant a2) ∧
((¬ (pb_X10_isInstant a2) → K79) ∧
(pb_X10_isInstant a2 → (rg a3 ∧
((a3 < 1 → K79) ∧
(1 ≤ a3 → (((1440 < a3 → K79) ∧
(a3 ≤ 1440 → K22 1)))))))))))
def wp_X6_put (M : jT) (a0 : Int) (a1 : Int) (Q : jT → Prop) : Prop :=
∃ K10 : jT → Prop, (∀ (M9 : jT), K10 M9 → Q M9) ∧
rg a1 ∧
((a1 = 0 → K10 M) ∧
(a1 ≠ 0 → (rg (M a0 0) ∧
((60 ≤ M a0 0 → K10 M) ∧
(M a0 0 < 60 → ((0 ≤ M a0 0 ∧ M a0 0 < 60) ∧
(0 ≤ a1 ∧ a1 < 65536) ∧
∀ M17 : jT, M17 = up M (a0 + 1) (M a0 0) a1 →
∀ M18 : jT, M18 = up M17 a0 0 ((M17 a0 0) + 1) →
K10 M18))))))
def wo_X10_append (M : jT) (a0 : Int) (a1 : Int) (Q : Int → jT → Prop) : Prop :=
∃ I3 : Nat → Int → Int → Prop, (∃ n4, I3 n4 0 24) ∧
∀ (n4 : Nat) (x1 : Int) (x2 : Int), I3 n4 x1 x2 →
rg x2 ∧
((x2 < 0 → ((rg ((M (a0 + 601) 0) + x1) ∧
((60 < (M (a0 + 601) 0) + x1 → True) ∧
((M (a0 + 601) 0) + x1 ≤ 60 → True))) ∧
(∀ x9 : Int, (60 < (M (a0 + 601) 0) + x1 → x9 = 3) → ((M (a0 + 601) 0) + x1 ≤ 60 → x9 = 0) → 
wo_X10_refuse M x9 (∃ I17 : Nat → Int → jT → Prop, (∃ n18, I17 n18 24 M) ∧
∀ (n18 : Nat) (x15 : Int) (M16 : jT), I17 n18 x15 M16 →
rg x15 ∧
((x15 < 0 → Q (M16 (a0 + 601) 0) M16) ∧
(0 ≤ x15 → ((0 ≤ x15 ∧ x15 < 32) ∧
rg a1 ∧
(0 ≤ ((a1 / 2 ^ x15.toNat) % 256) ∧ ((a1 / 2 ^ x15.toNat) % 256) < 65536) ∧
wp_X6_put M16 (a0 + 601) ((a1 / 2 ^ x15.toNat) % 256) (fun M25 =>
∀ x26 : Int, x26 = x15 + (-8) →
∃ n27, n27 < n18 ∧ I17 n27 x26 M25)))))))) ∧
(0 ≤ x2 → ((0 ≤ x2 ∧ x2 < 32) ∧
rg a1 ∧
∀ x30 : Int, x30 = (a1 / 2 ^ x2.toNat) % 256 →
∃ K47 : Int → Prop, (∀ (x46 : Int), K47 x46 → (wo_X10_needArgument M x46 ((rg x30 ∧
((x30 ≠ 0 → True) ∧
(x30 = 0 → True))) ∧
∀ x56 : Int, x56 = x1 + (b2i (x30 ≠ 0)) →
∀ x57 : Int, x57 = x2 + (-8) →
∃ n58, n58 < n4 ∧ I3 n58 x56 x57))) ∧
∃ K66 : Prop, (K66 → K47 1) ∧
rg x30 ∧
((x30 = 0 → K66) ∧
(x30 ≠ 0 → (∃ K71 : Prop, (K71 → K47 0) ∧
((x30 < 33 → K71) ∧
(33 ≤ x30 → (((126 < x30 → K71) ∧
(x30 ≤ 126 → K66)))))))))))
def wp_X10_append (M : jT) (a0 : Int) (a1 : Int) (Q : Int → jT → Prop) (X : Nat → jT → Prop) : Prop :=
∃ I3 : Nat → Int → Int → Prop, (∃ n4, I3 n4 0 24) ∧
∀ (n4 : Nat) (x1 : Int) (x2 : Int), I3 n4 x1 x2 →
rg x2 ∧
((x2 < 0 → ((rg ((M (a0 + 601) 0) + x1) ∧
((60 < (M (a0 + 601) 0) + x1 → True) ∧
((M (a0 + 601) 0) + x1 ≤ 60 → True))) ∧
(∀ x9 : Int, (60 < (M (a0 + 601) 0) + x1 → x9 = 3) → ((M (a0 + 601) 0) + x1 ≤ 60 → x9 = 0) → 
((wo_X10_refuse M x9 (∃ I17 : Nat → Int → jT → Prop, (∃ n18, I17 n18 24 M) ∧
∀ (n18 : Nat) (x15 : Int) (M16 : jT), I17 n18 x15 M16 →
rg x15 ∧
((x15 < 0 → Q (M16 (a0 + 601) 0) M16) ∧
(0 ≤ x15 → ((0 ≤ x15 ∧ x15 < 32) ∧
rg a1 ∧
(0 ≤ ((a1 / 2 ^ x15.toNat) % 256) ∧ ((a1 / 2 ^ x15.toNat) % 256) < 65536) ∧
wp_X6_put M16 (a0 + 601) ((a1 / 2 ^ x15.toNat) % 256) (fun M25 =>
∀ x26 : Int, x26 = x15 + (-8) →
∃ n27, n27 < n18 ∧ I17 n27 x26 M25)))))) ∨
(wp_X10_refuse M x9 (fun _ => False) X))))) ∧
(0 ≤ x2 → ((0 ≤ x2 ∧ x2 < 32) ∧
rg a1 ∧
∀ x30 : Int, x30 = (a1 / 2 ^ x2.toNat) % 256 →
∃ K47 : Int → Prop, (∀ (x46 : Int), K47 x46 → (((wo_X10_needArgument M x46 ((rg x30 ∧
((x30 ≠ 0 → True) ∧
(x30 = 0 → True))) ∧
∀ x56 : Int, x56 = x1 + (b2i (x30 ≠ 0)) →
∀ x57 : Int, x57 = x2 + (-8) →
∃ n58, n58 < n4 ∧ I3 n58 x56 x57)) ∨
(wp_X10_needArgument M x46 (fun _ => False) X)))) ∧
∃ K66 : Prop, (K66 → K47 1) ∧
rg x30 ∧
((x30 = 0 → K66) ∧
(x30 ≠ 0 → (∃ K71 : Prop, (K71 → K47 0) ∧
((x30 < 33 → K71) ∧
(33 ≤ x30 → (((126 < x30 → K71) ∧
(x30 ≤ 126 → K66)))))))))))
def pf_X6_letterAt (M : jT) (a0 : Int) (a1 : Int) : Int :=
if a1 < 0 then 0 else if M a0 0 ≤ a1 then 0 else if 60 ≤ a1 then 0 else M (a0 + 1) a1
def pg_X6_letterAt (M : jT) (a0 : Int) (a1 : Int) : Prop :=
rg a1 ∧
((a1 < 0 → True) ∧
(0 ≤ a1 → (rg (M a0 0) ∧
((M a0 0 ≤ a1 → True) ∧
(a1 < M a0 0 → (((60 ≤ a1 → True) ∧
(a1 < 60 → ((0 ≤ a1 ∧ a1 < 60) ∧
(0 ≤ (M (a0 + 1) a1) ∧ (M (a0 + 1) a1) < 65536) ∧
True)))))))))
def wp_X6_readSign (M : jT) (a0 : Int) (a1 : Int) (Q : jT → Prop) : Prop :=
rg (M a0 2) ∧
((M a0 2 < 0 → ((pg_X6_letterAt M a0 (M a0 3)) ∧
∃ K12 : jT → Prop, (∀ (M11 : jT), K12 M11 → Q M11) ∧
rg (pf_X6_letterAt M a0 (M a0 3)) ∧
rg a1 ∧
((pf_X6_letterAt M a0 (M a0 3) ≠ a1 → (∀ M16 : jT, M16 = up M a0 2 (M a0 3) →
K12 M16)) ∧
(pf_X6_letterAt M a0 (M a0 3) = a1 → (∀ M17 : jT, M17 = up M a0 3 ((M a0 3) + 1) →
K12 M17))))) ∧
(0 ≤ M a0 2 → Q M))
def wp_X6_readNumber (M : jT) (a0 : Int) (a1 : Int) (Q : Int → jT → Prop) : Prop :=
∃ I4 : Nat → Int → Int → jT → Prop, (∃ n5, I4 n5 0 0 M) ∧
∀ (n5 : Nat) (x1 : Int) (x2 : Int) (M3 : jT), I4 n5 x1 x2 M3 →
∃ K30 : Prop, (K30 → (∃ K35 : jT → Prop, (∀ (M34 : jT), K35 M34 → Q x1 M34) ∧
rg x2 ∧
((x2 ≠ 0 → K35 M3) ∧
(x2 = 0 → (∀ M38 : jT, M38 = up M3 a0 2 (M3 a0 3) →
K35 M38))))) ∧
rg x2 ∧
rg a1 ∧
((a1 ≤ x2 → K30) ∧
(x2 < a1 → ((pg_X6_letterAt M3 a0 (M3 a0 3)) ∧
rg (pf_X6_letterAt M3 a0 (M3 a0 3)) ∧
((pf_X6_letterAt M3 a0 (M3 a0 3) < 48 → K30) ∧
(48 ≤ pf_X6_letterAt M3 a0 (M3 a0 3) → (((57 < pf_X6_letterAt M3 a0 (M3 a0 3) → K30) ∧
(pf_X6_letterAt M3 a0 (M3 a0 3) ≤ 57 → (∃ K53 : Prop, (K53 → (∀ x56 : Int, x56 = ((10 * x1) + (pf_X6_letterAt M3 a0 (M3 a0 3))) - 48 →
∀ x57 : Int, x57 = x2 + 1 →
∀ M58 : jT, M58 = up M3 a0 3 ((M3 a0 3) + 1) →
∃ n59, n59 < n5 ∧ I4 n59 x56 x57 M58)) ∧
((x2 = 0 → K53) ∧
(x2 ≠ 0 → (rg x1 ∧
((x1 ≤ 0 → K30) ∧
(0 < x1 → K53))))))))))))))
def wp_X6_readBase (M : jT) (a0 : Int) (Q : Int → jT → Prop) : Prop :=
(pg_X6_letterAt M a0 (M a0 3)) ∧
rg (pf_X6_letterAt M a0 (M a0 3)) ∧
((pf_X6_letterAt M a0 (M a0 3) = 45 → (∀ M6 : jT, M6 = up M a0 3 ((M a0 3) + 1) →
wp_X6_readNumber M6 a0 5 (fun z7 M8 =>
Q (-z7) M8))) ∧
(pf_X6_letterAt M a0 (M a0 3) ≠ 45 → wp_X6_readNumber M a0 5 (fun z9 M10 =>
Q z9 M10)))
def wp_X6_readWeekday (M : jT) (a0 : Int) (Q : Int → jT → Prop) : Prop :=
(pg_X6_letterAt M a0 (M a0 3)) ∧
∀ x4 : Int, x4 = (pf_X6_letterAt M a0 (M a0 3)) - 48 →
∃ K9 : Prop, (K9 → (∀ M10 : jT, M10 = up M a0 2 (M a0 3) →
Q 0 M10)) ∧
rg x4 ∧
((x4 < 0 → K9) ∧
(0 ≤ x4 → (((x4 ≤ 6 → (∀ M14 : jT, M14 = up M a0 3 ((M a0 3) + 1) →
Q x4 M14)) ∧
(6 < x4 → K9)))))
def wp_X6_readDate (M : jT) (a0 : Int) (Q : Int → jT → Prop) : Prop :=
(pg_X6_letterAt M a0 (M a0 3)) ∧
∀ x4 : Int, x4 = (pf_X6_letterAt M a0 (M a0 3)) - 48 →
(pg_X6_letterAt M a0 ((M a0 3) + 1)) ∧
∀ x8 : Int, x8 = pf_X6_letterAt M a0 ((M a0 3) + 1) →
rg (pf_X6_letterAt M a0 (M a0 3)) ∧
((pf_X6_letterAt M a0 (M a0 3) ≠ 108 → (∃ K21 : Prop, (K21 → (∃ K30 : Prop, (K30 → (wp_X6_readNumber M a0 5 (fun z31 M32 =>
(rg z31 ∧
((31 < z31 → True) ∧
(z31 ≤ 31 → True))) ∧
(∀ x35 : Int, (31 < z31 → x35 = 0) → (z31 ≤ 31 → x35 = z31) → 
Q x35 M32)))) ∧
rg x8 ∧
((x8 ≠ 62 → K30) ∧
(x8 = 62 → (rg x4 ∧
((x4 < 0 → K30) ∧
(0 ≤ x4 → (((6 < x4 → K30) ∧
(x4 ≤ 6 → (∀ M44 : jT, M44 = up M a0 3 ((M a0 3) + 2) →
wp_X6_readNumber M44 a0 2 (fun z45 M46 =>
Q ((1000 + (10 * z45)) + x4) M46)))))))))))) ∧
rg x8 ∧
((x8 ≠ 120 → K21) ∧
(x8 = 120 → (rg x4 ∧
((x4 < 1 → K21) ∧
(1 ≤ x4 → (((4 < x4 → K21) ∧
(x4 ≤ 4 → (∀ M52 : jT, M52 = up M a0 3 ((M a0 3) + 2) →
wp_X6_readWeekday M52 a0 (fun z53 M54 =>
Q ((100 * x4) + z53) M54)))))))))))) ∧
(pf_X6_letterAt M a0 (M a0 3) = 108 → (∀ M55 : jT, M55 = up M a0 3 ((M a0 3) + 1) →
wp_X6_readWeekday M55 a0 (fun z56 M57 =>
Q (500 + z56) M57))))
def wp_X6_readClock (M : jT) (a0 : Int) (Q : Int → jT → Prop) : Prop :=
(pg_X6_letterAt M a0 (M a0 3)) ∧
∃ K8 : Int → Prop, (∀ (x7 : Int), K8 x7 → (∀ M9 : jT, M9 = up M a0 3 ((M a0 3) + 1) →
Q x7 M9)) ∧
rg (pf_X6_letterAt M a0 (M a0 3)) ∧
((pf_X6_letterAt M a0 (M a0 3) = 98 → K8 1) ∧
(pf_X6_letterAt M a0 (M a0 3) = 105 → K8 2) ∧
(pf_X6_letterAt M a0 (M a0 3) = 119 → K8 0) ∧
(pf_X6_letterAt M a0 (M a0 3) ≠ 98 ∧ pf_X6_letterAt M a0 (M a0 3) ≠ 105 ∧ pf_X6_letterAt M a0 (M a0 3) ≠ 119 → (∀ M12 : jT, M12 = up M a0 2 (M a0 3) →
Q 0 M12)))
def wp_X6_readItem (M : jT) (a0 : Int) (a1 : Int) (Q : Int → jT → Prop) : Prop :=
rg (M a0 2) ∧
((M a0 2 < 0 → (rg a1 ∧
((a1 = 98 → wp_X6_readBase M a0 (fun z5 M6 =>
Q z5 M6)) ∧
(a1 = 99 → wp_X6_readClock M a0 (fun z7 M8 =>
Q z7 M8)) ∧
(a1 = 100 → wp_X6_readDate M a0 (fun z9 M10 =>
Q z9 M10)) ∧
(a1 ≠ 98 ∧ a1 ≠ 99 ∧ a1 ≠ 100 → wp_X6_readNumber M a0 5 (fun z11 M12 =>
Q z11 M12))))) ∧
(0 ≤ M a0 2 → Q 0 M))
def pf_X6_item (M : jT) (a0 : Int) (a1 : Int) (a2 : Int) : Int :=
M (a0 + 2) (((a1 * 10) + 2) + a2)
def pg_X6_item (M : jT) (a0 : Int) (a1 : Int) (a2 : Int) : Prop :=
(0 ≤ ((a1 * 10) + 2) + a2 ∧ ((a1 * 10) + 2) + a2 < 90) ∧
True
def pf_X6_wordOf (M : jT) (a0 : Int) (a1 : Int) : Int :=
M (a0 + 2) (a1 * 10)
def pg_X6_wordOf (M : jT) (a0 : Int) (a1 : Int) : Prop :=
(0 ≤ a1 * 10 ∧ a1 * 10 < 90) ∧
True
def wp_X10_carryOutBase (M : jT) (a0 : Int) (a1 : Int) (a2 : Int) (a3 : Int) (Q : Int → jT → Prop) : Prop :=
(pg_X10_changeFault M a0 a1 a2 a3) ∧
∃ K20 : Int → jT → Prop, (∀ (x18 : Int) (M19 : jT), K20 x18 M19 → ((0 ≤ x18 ∧ x18 ≤ 1) ∧
Q x18 M19)) ∧
∃ K29 : jT → Prop, (∀ (M28 : jT), K29 M28 → K20 0 M28) ∧
rg (pf_X10_changeFault M a0 a1 a2 a3) ∧
((pf_X10_changeFault M a0 a1 a2 a3 ≠ 0 → K29 M) ∧
(pf_X10_changeFault M a0 a1 a2 a3 = 0 → (wp_X10_putChange M a0 a1 a2 a3 (fun z32 M33 =>
rg z32 ∧
((z32 < 0 → K29 M33) ∧
(0 ≤ z32 → K20 1 M33))))))
def wp_X10_carryOutRule (M : jT) (a0 : Int) (a1 : Int) (Q : Int → jT → Prop) : Prop :=
(pg_X6_item M (a0 + 601) a1 0) ∧
∀ x4 : Int, x4 = pf_X6_item M (a0 + 601) a1 0 →
(pg_X6_item M (a0 + 601) a1 1) ∧
∀ x8 : Int, x8 = (pf_X6_item M (a0 + 601) a1 1) - 2000 →
(pg_X6_item M (a0 + 601) a1 2) ∧
∀ x12 : Int, x12 = (pf_X6_item M (a0 + 601) a1 2) - 2000 →
(pg_X10_isYear x8) ∧
∃ K75 : Prop, (K75 → Q 0 M) ∧
((¬ (pb_X10_isYear x8) → K75) ∧
(pb_X10_isYear x8 → ((pg_X10_isYear x12) ∧
((pb_X10_isYear x12 → (∀ x81 : Int, x81 = (100 * x8) + x12 →
(pg_X6_item M (a0 + 601) a1 3) ∧
∀ x85 : Int, x85 = pf_X6_item M (a0 + 601) a1 3 →
(pg_X6_item M (a0 + 601) a1 4) ∧
∀ x89 : Int, x89 = pf_X6_item M (a0 + 601) a1 4 →
(pg_X6_item M (a0 + 601) a1 5) ∧
(pg_X6_item M (a0 + 601) a1 6) ∧
∀ x96 : Int, x96 = (10 * (pf_X6_item M (a0 + 601) a1 5)) + (pf_X6_item M (a0 + 601) a1 6) →
(pg_X6_item M (a0 + 601) a1 7) ∧
∀ x100 : Int, x100 = pf_X6_item M (a0 + 601) a1 7 →
wp_X10_ruleFault M a0 x4 x81 x85 x89 x96 x100 (fun z101 =>
∃ K119 : Int → jT → Prop, (∀ (x117 : Int) (M118 : jT), K119 x117 M118 → ((0 ≤ x117 ∧ x117 ≤ 1) ∧
Q x117 M118)) ∧
∃ K128 : jT → Prop, (∀ (M127 : jT), K128 M127 → K119 0 M127) ∧
rg z101 ∧
((z101 ≠ 0 → K128 M) ∧
(z101 = 0 → (wp_X10_putRule M a0 x4 x81 x85 x89 x96 x100 (fun z131 M132 =>
rg z131 ∧
((z131 < 0 → K128 M132) ∧
(0 ≤ z131 → K119 1 M132))))))))) ∧
(¬ (pb_X10_isYear x12) → K75)))))
def wp_X10_carryOut (M : jT) (a0 : Int) (a1 : Int) (Q : Int → jT → Prop) : Prop :=
(pg_X6_item M (a0 + 601) a1 0) ∧
∀ x4 : Int, x4 = pf_X6_item M (a0 + 601) a1 0 →
(pg_X6_item M (a0 + 601) a1 1) ∧
∀ x8 : Int, x8 = pf_X6_item M (a0 + 601) a1 1 →
(pg_X6_wordOf M (a0 + 601) a1) ∧
rg (pf_X6_wordOf M (a0 + 601) a1) ∧
((pf_X6_wordOf M (a0 + 601) a1 = 0 → ((pg_X10_zoneFault M a0 x4) ∧
∃ K33 : Int → jT → Prop, (∀ (x31 : Int) (M32 : jT), K33 x31 M32 → ((0 ≤ x31 ∧ x31 ≤ 1) ∧
Q x31 M32)) ∧
∃ K42 : jT → Prop, (∀ (M41 : jT), K42 M41 → K33 0 M41) ∧
rg (pf_X10_zoneFault M a0 x4) ∧
((pf_X10_zoneFault M a0 x4 ≠ 0 → K42 M) ∧
(pf_X10_zoneFault M a0 x4 = 0 → (wp_X10_putZone M a0 x4 (fun z45 M46 =>
rg z45 ∧
((z45 < 0 → K42 M46) ∧
(0 ≤ z45 → K33 1 M46)))))))) ∧
(pf_X6_wordOf M (a0 + 601) a1 = 1 → ((pg_X6_item M (a0 + 601) a1 2) ∧
wp_X10_carryOutBase M a0 x4 x8 (pf_X6_item M (a0 + 601) a1 2) (fun z52 M53 =>
(0 ≤ z52 ∧ z52 ≤ 1) ∧
Q z52 M53))) ∧
(pf_X6_wordOf M (a0 + 601) a1 = 2 → (wp_X10_carryOutRule M a0 a1 (fun z55 M56 =>
(0 ≤ z55 ∧ z55 ≤ 1) ∧
Q z55 M56))) ∧
(pf_X6_wordOf M (a0 + 601) a1 = 3 → ((pg_X10_ruleIndexFault M a0 x4 x8) ∧
∃ K77 : Int → jT → Prop, (∀ (x75 : Int) (M76 : jT), K77 x75 M76 → ((0 ≤ x75 ∧ x75 ≤ 1) ∧
Q x75 M76)) ∧
∃ K86 : jT → Prop, (∀ (M85 : jT), K86 M85 → K77 0 M85) ∧
rg (pf_X10_ruleIndexFault M a0 x4 x8) ∧
((pf_X10_ruleIndexFault M a0 x4 x8 ≠ 0 → K86 M) ∧
(pf_X10_ruleIndexFault M a0 x4 x8 = 0 → (wp_X10_takeRule M a0 x4 x8 (fun z89 M90 =>
rg z89 ∧
((z89 < 0 → K86 M90) ∧
(0 ≤ z89 → K77 1 M90)))))))) ∧
(pf_X6_wordOf M (a0 + 601) a1 ≠ 0 ∧ pf_X6_wordOf M (a0 + 601) a1 ≠ 1 ∧ pf_X6_wordOf M (a0 + 601) a1 ≠ 2 ∧ pf_X6_wordOf M (a0 + 601) a1 ≠ 3 → (wp_X10_occurrenceFault M a0 x4 x8 (fun z93 M94 =>
∃ K111 : Int → jT → Prop, (∀ (x109 : Int) (M110 : jT), K111 x109 M110 → ((0 ≤ x109 ∧ x109 ≤ 1) ∧
Q x109 M110)) ∧
∃ K120 : jT → Prop, (∀ (M119 : jT), K120 M119 → K111 0 M119) ∧
rg z93 ∧
((z93 ≠ 0 → K120 M94) ∧
(z93 = 0 → (wp_X10_turnCancelled M94 a0 x4 x8 (fun z123 M124 =>
rg z123 ∧
((z123 < 0 → K120 M124) ∧
(0 ≤ z123 → K111 1 M124))))))))))
def pf_X6_startOf (M : jT) (a0 : Int) (a1 : Int) : Int :=
M (a0 + 2) ((a1 * 10) + 1)
def pg_X6_startOf (M : jT) (a0 : Int) (a1 : Int) : Prop :=
(0 ≤ (a1 * 10) + 1 ∧ (a1 * 10) + 1 < 90) ∧
True
def wp_X3_giveUp (M : jT) (a0 : Int) (a1 : Int) (Q : jT → Prop) : Prop :=
(0 ≤ M a0 3 ∧ M a0 3 < 9) ∧
wp_X0_copyFrom M a1 (a0 + 47 * (M a0 3) + 49) (fun M4 =>
Q M4)
def wp_X10_spoilAll (M : jT) (a0 : Int) (Q : jT → Prop) : Prop :=
∃ I3 : Nat → Int → jT → Prop, (∃ n4, I3 n4 0 M) ∧
∀ (n4 : Nat) (x1 : Int) (M2 : jT), I3 n4 x1 M2 →
rg x1 ∧
((6 ≤ x1 → (∃ I9 : Nat → Int → jT → Prop, (∃ n10, I9 n10 0 M2) ∧
∀ (n10 : Nat) (x7 : Int) (M8 : jT), I9 n10 x7 M8 →
rg x7 ∧
((10 ≤ x7 → Q M8) ∧
(x7 < 10 → ((0 ≤ x7 ∧ x7 < 10) ∧
wp_X5_spoil M8 (a0 + 3 * x7 + 570) (fun M16 =>
∀ x17 : Int, x17 = x7 + 1 →
∃ n18, n18 < n10 ∧ I9 n18 x17 M16)))))) ∧
(x1 < 6 → ((0 ≤ x1 ∧ x1 < 6) ∧
∀ M21 : jT, M21 = up M2 (a0 + 8 * x1 + 521) 0 0 →
∀ x22 : Int, x22 = x1 + 1 →
∃ n23, n23 < n4 ∧ I3 n23 x22 M21)))
def pf_X10_errorPosition (M : jT) (a0 : Int) : Int :=
M (a0 + 601) 2
def wp_X8_put (M : jT) (a0 : Int) (a1 : Int) (Q : jT → Prop) : Prop :=
∃ K8 : jT → Prop, (∀ (M7 : jT), K8 M7 → Q M7) ∧
rg (M a0 0) ∧
((60 ≤ M a0 0 → K8 M) ∧
(M a0 0 < 60 → ((0 ≤ M a0 0 ∧ M a0 0 < 60) ∧
(0 ≤ a1 ∧ a1 < 65536) ∧
∀ M13 : jT, M13 = up M (a0 + 1) (M a0 0) a1 →
∀ M14 : jT, M14 = up M13 a0 0 ((M13 a0 0) + 1) →
K8 M14)))
def wp_X8_putNumber (M : jT) (a0 : Int) (a1 : Int) (Q : jT → Prop) : Prop :=
∃ I3 : Nat → Int → jT → Prop, (∃ n4, I3 n4 1000 M) ∧
∀ (n4 : Nat) (x1 : Int) (M2 : jT), I3 n4 x1 M2 →
rg x1 ∧
((x1 ≤ 1 → ((0 ≤ a1 ∧ a1 < 2147483648) ∧
(0 ≤ (48 + (a1 % 10)) ∧ (48 + (a1 % 10)) < 65536) ∧
wp_X8_put M2 a0 (48 + (a1 % 10)) (fun M10 =>
Q M10))) ∧
(1 < x1 → (∃ K20 : jT → Prop, (∀ (M19 : jT), K20 M19 → ((0 ≤ x1 ∧ x1 < 2147483648) ∧
∀ x22 : Int, x22 = x1 / 10 →
∃ n23, n23 < n4 ∧ I3 n23 x22 M19)) ∧
rg a1 ∧
((a1 < x1 → K20 M2) ∧
(x1 ≤ a1 → ((0 < x1 ∧ x1 < 2147483648) ∧
(0 ≤ a1 ∧ a1 < 2147483648) ∧
(0 ≤ (a1 / x1) ∧ (a1 / x1) < 2147483648) ∧
(0 ≤ (48 + ((a1 / x1) % 10)) ∧ (48 + ((a1 / x1) % 10)) < 65536) ∧
wp_X8_put M2 a0 (48 + ((a1 / x1) % 10)) (fun M31 =>
K20 M31)))))))
def wp_X8_putDate (M : jT) (a0 : Int) (a1 : Int) (Q : jT → Prop) : Prop :=
∃ K28 : jT → Prop, (∀ (M27 : jT), K28 M27 → Q M27) ∧
rg a1 ∧
((31 < a1 → (((500 ≤ a1 → (((1000 ≤ a1 → ((0 ≤ a1 ∧ a1 < 2147483648) ∧
wp_X8_putNumber M a0 (a1 % 10) (fun M35 =>
wp_X8_put M35 a0 62 (fun M37 =>
(0 ≤ (a1 - 1000) ∧ (a1 - 1000) < 2147483648) ∧
wp_X8_putNumber M37 a0 ((a1 - 1000) / 10) (fun M40 =>
K28 M40))))) ∧
(a1 < 1000 → (wp_X8_put M a0 108 (fun M42 =>
(0 ≤ a1 ∧ a1 < 2147483648) ∧
wp_X8_putNumber M42 a0 (a1 % 100) (fun M45 =>
K28 M45))))))) ∧
(a1 < 500 → ((0 ≤ a1 ∧ a1 < 2147483648) ∧
wp_X8_putNumber M a0 (a1 / 100) (fun M48 =>
wp_X8_put M48 a0 120 (fun M50 =>
wp_X8_putNumber M50 a0 (a1 % 100) (fun M52 =>
K28 M52)))))))) ∧
(a1 ≤ 31 → wp_X8_putNumber M a0 a1 (fun M54 =>
K28 M54)))
def wp_X8_putClock (M : jT) (a0 : Int) (a1 : Int) (Q : jT → Prop) : Prop :=
∃ K10 : jT → Prop, (∀ (M9 : jT), K10 M9 → Q M9) ∧
rg a1 ∧
((a1 = 0 → wp_X8_put M a0 119 (fun M14 =>
K10 M14)) ∧
(a1 = 1 → wp_X8_put M a0 98 (fun M16 =>
K10 M16)) ∧
(a1 ≠ 0 ∧ a1 ≠ 1 → wp_X8_put M a0 105 (fun M18 =>
K10 M18)))
def wp_X8_writeRule (M : jT) (a0 : Int) (a1 : Int) (a2 : Int) (Q : jT → Prop) : Prop :=
∀ M1 : jT, M1 = up M a0 0 0 →
(pg_X9_ruleNumber M1 a1 a2 0) ∧
wp_X8_putNumber M1 a0 (2000 + (pf_X9_ruleNumber M1 a1 a2 0)) (fun M6 =>
wp_X8_put M6 a0 44 (fun M8 =>
(pg_X9_ruleNumber M8 a1 a2 1) ∧
wp_X8_putNumber M8 a0 (2000 + (pf_X9_ruleNumber M8 a1 a2 1)) (fun M13 =>
wp_X8_put M13 a0 44 (fun M15 =>
(pg_X9_ruleNumber M15 a1 a2 2) ∧
wp_X8_putNumber M15 a0 (pf_X9_ruleNumber M15 a1 a2 2) (fun M20 =>
wp_X8_put M20 a0 44 (fun M22 =>
(pg_X9_ruleNumber M22 a1 a2 3) ∧
wp_X8_putDate M22 a0 (pf_X9_ruleNumber M22 a1 a2 3) (fun M27 =>
wp_X8_put M27 a0 44 (fun M29 =>
(pg_X9_ruleNumber M29 a1 a2 4) ∧
wp_X8_putNumber M29 a0 (pf_X9_ruleNumber M29 a1 a2 4) (fun M34 =>
wp_X8_put M34 a0 44 (fun M36 =>
(pg_X9_ruleNumber M36 a1 a2 5) ∧
wp_X8_putClock M36 a0 (pf_X9_ruleNumber M36 a1 a2 5) (fun M41 =>
wp_X8_put M41 a0 44 (fun M43 =>
(pg_X9_ruleNumber M43 a1 a2 6) ∧
wp_X8_putNumber M43 a0 (pf_X9_ruleNumber M43 a1 a2 6) (fun M48 =>
Q M48)))))))))))))
def wo_X10_write (M : jT) (a0 : Int) (a1 : Int) (a2 : Int) (Q : Int → jT → Prop) : Prop :=
(pg_X10_ruleIndexFault M a0 a1 a2) ∧
wo_X10_refuse M (pf_X10_ruleIndexFault M a0 a1 a2) ((0 ≤ a1 ∧ a1 < 6) ∧
wp_X8_writeRule M (a0 + 604) (a0 + 4 * a1 + 4) a2 (fun M9 =>
Q (M9 (a0 + 604) 0) M9))
def wp_X10_write (M : jT) (a0 : Int) (a1 : Int) (a2 : Int) (Q : Int → jT → Prop) (X : Nat → jT → Prop) : Prop :=
(pg_X10_ruleIndexFault M a0 a1 a2) ∧
((wo_X10_refuse M (pf_X10_ruleIndexFault M a0 a1 a2) ((0 ≤ a1 ∧ a1 < 6) ∧
wp_X8_writeRule M (a0 + 604) (a0 + 4 * a1 + 4) a2 (fun M9 =>
Q (M9 (a0 + 604) 0) M9))) ∨
(wp_X10_refuse M (pf_X10_ruleIndexFault M a0 a1 a2) (fun _ => False) X))
def wo_X10_character (M : jT) (a0 : Int) (a1 : Int) (Q : Int → Prop) : Prop :=
∃ K11 : Int → Prop, (∀ (x10 : Int), K11 x10 → (wo_X10_needIndex M x10 ((0 ≤ a1 ∧ a1 < 60) ∧
(0 ≤ (M (a0 + 605) a1) ∧ (M (a0 + 605) a1) < 65536) ∧
Q (M (a0 + 605) a1)))) ∧
∃ K20 : Prop, (K20 → K11 0) ∧
rg a1 ∧
((a1 < 0 → K20) ∧
(0 ≤ a1 → (rg (M (a0 + 604) 0) ∧
((M (a0 + 604) 0 ≤ a1 → K20) ∧
(a1 < M (a0 + 604) 0 → K11 1)))))
def wp_X10_character (M : jT) (a0 : Int) (a1 : Int) (Q : Int → jT → Prop) (X : Nat → jT → Prop) : Prop :=
∃ K11 : Int → Prop, (∀ (x10 : Int), K11 x10 → (((wo_X10_needIndex M x10 ((0 ≤ a1 ∧ a1 < 60) ∧
(0 ≤ (M (a0 + 605) a1) ∧ (M (a0 + 605) a1) < 65536) ∧
Q (M (a0 + 605) a1) M)) ∨
(wp_X10_needIndex M x10 (fun _ => False) X)))) ∧
∃ K20 : Prop, (K20 → K11 0) ∧
rg a1 ∧
((a1 < 0 → K20) ∧
(0 ≤ a1 → (rg (M (a0 + 604) 0) ∧
((M (a0 + 604) 0 ≤ a1 → K20) ∧
(a1 < M (a0 + 604) 0 → K11 1)))))
def wp_X3_pop (M : jT) (a0 : Int) (a1 : Int) (Q : jT → Prop) : Prop :=
(0 ≤ ((M a0 3) + 8) ∧ ((M a0 3) + 8) < 2147483648) ∧
∀ M2 : jT, M2 = up M a0 3 (((M a0 3) + 8) % 9) →
(0 ≤ M2 a0 3 ∧ M2 a0 3 < 9) ∧
wp_X0_copyFrom M2 a1 (a0 + 47 * (M2 a0 3) + 49) (fun M6 =>
∀ M7 : jT, M7 = up M6 a0 0 ((M6 a0 0) - 1) →
Q M7)
def wo_X10_undo (M : jT) (a0 : Int) (Q : Int → jT → Prop) : Prop :=
(rg (M (a0 + 48) 0) ∧
((M (a0 + 48) 0 ≤ 0 → True) ∧
(0 < M (a0 + 48) 0 → True))) ∧
(∀ x3 : Int, (M (a0 + 48) 0 ≤ 0 → x3 = 3) → (0 < M (a0 + 48) 0 → x3 = 0) → 
wo_X10_refuse M x3 (wp_X3_pop M (a0 + 48) (a0 + 1) (fun M10 =>
wp_X10_spoilAll M10 a0 (fun M12 =>
Q (M12 (a0 + 48) 0) M12))))
def wp_X10_undo (M : jT) (a0 : Int) (Q : Int → jT → Prop) (X : Nat → jT → Prop) : Prop :=
(rg (M (a0 + 48) 0) ∧
((M (a0 + 48) 0 ≤ 0 → True) ∧
(0 < M (a0 + 48) 0 → True))) ∧
(∀ x3 : Int, (M (a0 + 48) 0 ≤ 0 → x3 = 3) → (0 < M (a0 + 48) 0 → x3 = 0) → 
((wo_X10_refuse M x3 (wp_X3_pop M (a0 + 48) (a0 + 1) (fun M10 =>
wp_X10_spoilAll M10 a0 (fun M12 =>
Q (M12 (a0 + 48) 0) M12)))) ∨
(wp_X10_refuse M x3 (fun _ => False) X)))
def wp_X10_save (M : jT) (a0 : Int) (Q : Int → jT → Prop) : Prop :=
wp_X0_copyFrom M (a0 + 49) (a0 + 1) (fun M2 =>
∀ M3 : jT, M3 = up M2 (a0 + 48) 1 1 →
Q (M3 (a0 + 1) 0) M3)
def wo_X10_restore (M : jT) (a0 : Int) (Q : Int → jT → Prop) : Prop :=
(rg (M (a0 + 48) 1) ∧
((M (a0 + 48) 1 = 0 → True) ∧
(M (a0 + 48) 1 ≠ 0 → True))) ∧
(∀ x3 : Int, (M (a0 + 48) 1 = 0 → x3 = 3) → (M (a0 + 48) 1 ≠ 0 → x3 = 0) → 
wo_X10_refuse M x3 (wp_X0_copyFrom M (a0 + 1) (a0 + 49) (fun M10 =>
∀ M11 : jT, M11 = up M10 (a0 + 48) 0 0 →
wp_X10_spoilAll M11 a0 (fun M13 =>
Q (M13 (a0 + 1) 0) M13))))
def wp_X10_restore (M : jT) (a0 : Int) (Q : Int → jT → Prop) (X : Nat → jT → Prop) : Prop :=
(rg (M (a0 + 48) 1) ∧
((M (a0 + 48) 1 = 0 → True) ∧
(M (a0 + 48) 1 ≠ 0 → True))) ∧
(∀ x3 : Int, (M (a0 + 48) 1 = 0 → x3 = 3) → (M (a0 + 48) 1 ≠ 0 → x3 = 0) → 
((wo_X10_refuse M x3 (wp_X0_copyFrom M (a0 + 1) (a0 + 49) (fun M10 =>
∀ M11 : jT, M11 = up M10 (a0 + 48) 0 0 →
wp_X10_spoilAll M11 a0 (fun M13 =>
Q (M13 (a0 + 1) 0) M13)))) ∨
(wp_X10_refuse M x3 (fun _ => False) X)))
def wp_X10_countOccurrences (M : jT) (a0 : Int) (Q : Int → jT → Prop) : Prop :=
∃ I4 : Nat → Int → Int → jT → Prop, (∃ n5, I4 n5 0 0 M) ∧
∀ (n5 : Nat) (x1 : Int) (x2 : Int) (M3 : jT), I4 n5 x1 x2 M3 →
rg x2 ∧
rg (M3 (a0 + 1) 1) ∧
((M3 (a0 + 1) 1 ≤ x2 → Q x1 M3) ∧
(x2 < M3 (a0 + 1) 1 → (wp_X10_laidOut M3 a0 x2 (fun k9 M10 =>
∀ x11 : Int, x11 = x1 + (M10 k9 2) →
∀ x12 : Int, x12 = x2 + 1 →
∃ n13, n13 < n5 ∧ I4 n13 x11 x12 M10))))
def wp_X10_countTaking (M : jT) (a0 : Int) (Q : Int → jT → Prop) : Prop :=
∃ I4 : Nat → Int → Int → jT → Prop, (∃ n5, I4 n5 0 0 M) ∧
∀ (n5 : Nat) (x1 : Int) (x2 : Int) (M3 : jT), I4 n5 x1 x2 M3 →
rg x2 ∧
rg (M3 (a0 + 1) 1) ∧
((M3 (a0 + 1) 1 ≤ x2 → Q x1 M3) ∧
(x2 < M3 (a0 + 1) 1 → (wp_X10_timed M3 a0 x2 (fun k9 M10 =>
(0 ≤ x2 ∧ x2 < 10) ∧
wp_X5_countTaking M10 k9 (a0 + 2 * x2 + 28) (fun z13 =>
∀ x15 : Int, x15 = x1 + z13 →
∀ x16 : Int, x16 = x2 + 1 →
∃ n17, n17 < n5 ∧ I4 n17 x15 x16 M10)))))
def wo_X10_count (M : jT) (a0 : Int) (a1 : Int) (Q : Int → jT → Prop) : Prop :=
∃ K9 : Int → Prop, (∀ (x8 : Int), K9 x8 → (wo_X10_needArgument M x8 (rg a1 ∧
((a1 = 0 → Q (M (a0 + 1) 0) M) ∧
(a1 = 1 → Q (M (a0 + 1) 1) M) ∧
(a1 = 2 → wp_X10_countOccurrences M a0 (fun z14 M15 =>
Q z14 M15)) ∧
(a1 = 3 → wp_X10_countTaking M a0 (fun z16 M17 =>
Q z16 M17)) ∧
(a1 = 4 → Q (M (a0 + 48) 0) M) ∧
(a1 ≠ 0 ∧ a1 ≠ 1 ∧ a1 ≠ 2 ∧ a1 ≠ 3 ∧ a1 ≠ 4 → Q (M (a0 + 601) 0) M))))) ∧
∃ K21 : Prop, (K21 → K9 0) ∧
rg a1 ∧
((a1 < 0 → K21) ∧
(0 ≤ a1 → (((5 < a1 → K21) ∧
(a1 ≤ 5 → K9 1)))))
def wp_X10_count (M : jT) (a0 : Int) (a1 : Int) (Q : Int → jT → Prop) (X : Nat → jT → Prop) : Prop :=
∃ K9 : Int → Prop, (∀ (x8 : Int), K9 x8 → (((wo_X10_needArgument M x8 (rg a1 ∧
((a1 = 0 → Q (M (a0 + 1) 0) M) ∧
(a1 = 1 → Q (M (a0 + 1) 1) M) ∧
(a1 = 2 → wp_X10_countOccurrences M a0 (fun z14 M15 =>
Q z14 M15)) ∧
(a1 = 3 → wp_X10_countTaking M a0 (fun z16 M17 =>
Q z16 M17)) ∧
(a1 = 4 → Q (M (a0 + 48) 0) M) ∧
(a1 ≠ 0 ∧ a1 ≠ 1 ∧ a1 ≠ 2 ∧ a1 ≠ 3 ∧ a1 ≠ 4 → Q (M (a0 + 601) 0) M)))) ∨
(wp_X10_needArgument M x8 (fun _ => False) X)))) ∧
∃ K21 : Prop, (K21 → K9 0) ∧
rg a1 ∧
((a1 < 0 → K21) ∧
(0 ≤ a1 → (((5 < a1 → K21) ∧
(a1 ≤ 5 → K9 1)))))
