/-! whole numbers, memory, truth values, tables: plain definitions -/
noncomputable section
def J (z : Int) : Int32 := Int32.ofInt z
def JL (z : Int) : Int64 := Int64.ofInt z
abbrev rg (z : Int) : Prop := -2147483648 ≤ z ∧ z < 2147483648
abbrev rl (z : Int) : Prop := -9223372036854775808 ≤ z ∧ z < 9223372036854775808
abbrev jT : Type := Int → Int → Int
def upr (r : Int → Int) (j v : Int) : Int → Int := fun b => if b = j then v else r b
def up (M : jT) (k j v : Int) : jT := fun a => if a = k then upr (M k) j v else M a
def b2i (P : Prop) : Int := @ite Int P (Classical.propDecidable P) 1 0
theorem b2i_t {P : Prop} (h : P) : b2i P = 1 := by unfold b2i; rw [if_pos h]
theorem b2i_f {P : Prop} (h : ¬ P) : b2i P = 0 := by unfold b2i; rw [if_neg h]
theorem b2i_rng (P : Prop) : 0 ≤ b2i P ∧ b2i P ≤ 1 := by
  by_cases h : P
  · rw [b2i_t h]; omega
  · rw [b2i_f h]; omega
theorem b2i_0 {P : Prop} : b2i P = 0 ↔ ¬ P := by
  by_cases h : P
  · rw [b2i_t h]; simp [h]
  · rw [b2i_f h]; simp [h]
theorem b2i_1 {P : Prop} : b2i P ≠ 0 ↔ P := by
  by_cases h : P
  · rw [b2i_t h]; simp [h]
  · rw [b2i_f h]; simp [h]
def lxI (x y : Int) : Int := (JL x ^^^ JL y).toInt
def msV : List Int := [0, 31, 59, 90, 120, 151, 181, 212, 243, 273, 304, 334, 365]
def msF (i : Int) : Int := msV.getD i.toNat 0
def upw (M : jT) (k : Int) (r : Int → Int) : jT := fun a => if a = k then r else M a
def cpy (f g : Int → Int) (sp dp n : Int) : Int → Int := fun j => if dp ≤ j ∧ j < dp + n then f (sp + (j - dp)) else g j
end
