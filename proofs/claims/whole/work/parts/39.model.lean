/-! the model: read -/
def zeroB : Nat → Nat := fun _ => 0
def tlT (I X : Nat → Nat) : Nat → (Nat → Nat)
  | 0 => X
  | n + 1 => tlB (tlT I X n) (I (5 * n)) (I (5 * n + 1)) (I (5 * n + 2)) (I (5 * n + 3)) (I (5 * n + 4))
def tlO (I X : Nat → Nat) (n : Nat) : Prop := 0 ≤ (tlR (tlT I X n) (I (5 * n)) (I (5 * n + 1)) (I (5 * n + 2)) (I (5 * n + 3)) (I (5 * n + 4))).toInt
theorem tlT_s (I X : Nat → Nat) (n : Nat) : tlT I X (n + 1) = tlB (tlT I X n) (I (5 * n)) (I (5 * n + 1)) (I (5 * n + 2)) (I (5 * n + 3)) (I (5 * n + 4)) := rfl
theorem bump_1 (rf : Nat → Int32) (k : Nat) : bump 1 rf k = rf := by
  funext j
  unfold bump
  rw [if_neg (show ¬ (1 : Nat) = 0 by decide)]
  unfold upd
  split
  · rename_i h; subst h; exact Int32.add_zero _
  · rfl
theorem rfS_1 (ok : Bool) (n lim : Nat) (rf : Nat → Int32) : rfS ok n lim 1 rf = rf := by
  unfold rfS; rw [bump_1, bump_1]; (repeat' split) <;> rfl
theorem tlF_1 (B : Nat → Nat) (rf : Nat → Int32) (vb a b c d : Nat) : tlF B 1 rf vb a b c d = rf := by
  unfold tlF; simp only [rfS_1]; (repeat' split) <;> rfl
theorem WB_zero {B : Nat → Nat} (h : ∀ j, B j < 1048576) : WB (cpTo B 0 zeroB 212) := by
  refine WB_same WB_0 (fun j => ?_) (fun j hj => ?_)
  · unfold cpTo; split; exact Nat.lt_of_le_of_lt (Nat.le_refl 0) (by omega); exact h j
  · unfold cpTo; rw [if_pos (by omega)]; rfl
