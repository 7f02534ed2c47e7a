/-! NO ENTRY FILLS AN EMPTY ADDRESS BELOW THE HEAP'S SIZE (written by wip/gen99a.py) -/
def dm_F (f : mx_F) : Prop := ∀ lv st h q, f lv st h = some q → ∀ a, a < h.1 → mx_get h a = none → mx_get q.2.2.2 a = none
def dm_E : mx_E → Prop
  | .inl f => dm_F f
  | _ => True
theorem dm_set {h : mx_H} {a b : Nat} {x c : mx_C} (h1 : mx_get h b = some x) (h2 : mx_get h a = none) : mx_get (mx_set h b c) a = none := by
  rw [mx_get_set, if_neg (fun w => by rw [w, h1] at h2; cases h2)]
  exact h2
theorem dm_push {h : mx_H} {a n : Nat} {c : mx_C} (h1 : a < h.1) (h2 : mx_get h a = none) : mx_get (mx_push h n c) a = none := by
  rw [mx_get_push, if_neg (by omega)]
  exact h2
theorem dm_const (v : Value) (n : Nat) : dm_F (sx_const v n) := fun lv st h q e a h1 h2 => by
  unfold sx_const at e
  (repeat' split at e) <;> first | (cases e; done) | (cases e; exact h2) | (cases e; exact dm_set (by assumption) h2) | (cases e; exact dm_push h1 h2)
theorem dm_iload (i n : Nat) : dm_F (sx_iload i n) := fun lv st h q e a h1 h2 => by
  unfold sx_iload at e
  (repeat' split at e) <;> first | (cases e; done) | (cases e; exact h2) | (cases e; exact dm_set (by assumption) h2) | (cases e; exact dm_push h1 h2)
theorem dm_aload (i n : Nat) : dm_F (sx_aload i n) := fun lv st h q e a h1 h2 => by
  unfold sx_aload at e
  (repeat' split at e) <;> first | (cases e; done) | (cases e; exact h2) | (cases e; exact dm_set (by assumption) h2) | (cases e; exact dm_push h1 h2)
theorem dm_lload (i n : Nat) : dm_F (sx_lload i n) := fun lv st h q e a h1 h2 => by
  unfold sx_lload at e
  (repeat' split at e) <;> first | (cases e; done) | (cases e; exact h2) | (cases e; exact dm_set (by assumption) h2) | (cases e; exact dm_push h1 h2)
theorem dm_istore (i n : Nat) : dm_F (sx_istore i n) := fun lv st h q e a h1 h2 => by
  unfold sx_istore at e
  (repeat' split at e) <;> first | (cases e; done) | (cases e; exact h2) | (cases e; exact dm_set (by assumption) h2) | (cases e; exact dm_push h1 h2)
theorem dm_astore (i n : Nat) : dm_F (sx_astore i n) := fun lv st h q e a h1 h2 => by
  unfold sx_astore at e
  (repeat' split at e) <;> first | (cases e; done) | (cases e; exact h2) | (cases e; exact dm_set (by assumption) h2) | (cases e; exact dm_push h1 h2)
theorem dm_lstore (i n : Nat) : dm_F (sx_lstore i n) := fun lv st h q e a h1 h2 => by
  unfold sx_lstore at e
  (repeat' split at e) <;> first | (cases e; done) | (cases e; exact h2) | (cases e; exact dm_set (by assumption) h2) | (cases e; exact dm_push h1 h2)
theorem dm_iinc (i : Nat) (d : Int32) (n : Nat) : dm_F (sx_iinc i d n) := fun lv st h q e a h1 h2 => by
  unfold sx_iinc at e
  (repeat' split at e) <;> first | (cases e; done) | (cases e; exact h2) | (cases e; exact dm_set (by assumption) h2) | (cases e; exact dm_push h1 h2)
theorem dm_bin (f : Int32 → Int32 → Int32) (n : Nat) : dm_F (sx_bin f n) := fun lv st h q e a h1 h2 => by
  unfold sx_bin at e
  (repeat' split at e) <;> first | (cases e; done) | (cases e; exact h2) | (cases e; exact dm_set (by assumption) h2) | (cases e; exact dm_push h1 h2)
theorem dm_div (f : Int32 → Int32 → Int32) (n : Nat) : dm_F (sx_div f n) := fun lv st h q e a h1 h2 => by
  unfold sx_div at e
  (repeat' split at e) <;> first | (cases e; done) | (cases e; exact h2) | (cases e; exact dm_set (by assumption) h2) | (cases e; exact dm_push h1 h2)
theorem dm_ineg (n : Nat) : dm_F (sx_ineg n) := fun lv st h q e a h1 h2 => by
  unfold sx_ineg at e
  (repeat' split at e) <;> first | (cases e; done) | (cases e; exact h2) | (cases e; exact dm_set (by assumption) h2) | (cases e; exact dm_push h1 h2)
theorem dm_i2l (n : Nat) : dm_F (sx_i2l n) := fun lv st h q e a h1 h2 => by
  unfold sx_i2l at e
  (repeat' split at e) <;> first | (cases e; done) | (cases e; exact h2) | (cases e; exact dm_set (by assumption) h2) | (cases e; exact dm_push h1 h2)
theorem dm_l2i (n : Nat) : dm_F (sx_l2i n) := fun lv st h q e a h1 h2 => by
  unfold sx_l2i at e
  (repeat' split at e) <;> first | (cases e; done) | (cases e; exact h2) | (cases e; exact dm_set (by assumption) h2) | (cases e; exact dm_push h1 h2)
theorem dm_ladd (n : Nat) : dm_F (sx_ladd n) := fun lv st h q e a h1 h2 => by
  unfold sx_ladd at e
  (repeat' split at e) <;> first | (cases e; done) | (cases e; exact h2) | (cases e; exact dm_set (by assumption) h2) | (cases e; exact dm_push h1 h2)
theorem dm_lcmp (n : Nat) : dm_F (sx_lcmp n) := fun lv st h q e a h1 h2 => by
  unfold sx_lcmp at e
  (repeat' split at e) <;> first | (cases e; done) | (cases e; exact h2) | (cases e; exact dm_set (by assumption) h2) | (cases e; exact dm_push h1 h2)
theorem dm_if (f : Int32 → Bool) (t n : Nat) : dm_F (sx_if f t n) := fun lv st h q e a h1 h2 => by
  unfold sx_if at e
  (repeat' split at e) <;> first | (cases e; done) | (cases e; exact h2) | (cases e; exact dm_set (by assumption) h2) | (cases e; exact dm_push h1 h2)
theorem dm_icmp (f : Int32 → Int32 → Bool) (t n : Nat) : dm_F (sx_icmp f t n) := fun lv st h q e a h1 h2 => by
  unfold sx_icmp at e
  (repeat' split at e) <;> first | (cases e; done) | (cases e; exact h2) | (cases e; exact dm_set (by assumption) h2) | (cases e; exact dm_push h1 h2)
theorem dm_goto (t : Nat) : dm_F (sx_goto t) := fun lv st h q e a h1 h2 => by
  unfold sx_goto at e
  (repeat' split at e) <;> first | (cases e; done) | (cases e; exact h2) | (cases e; exact dm_set (by assumption) h2) | (cases e; exact dm_push h1 h2)
theorem dm_table (dt : Nat) (lo hi : Int) (ts : List Nat) : dm_F (sx_table dt lo hi ts) := fun lv st h q e a h1 h2 => by
  unfold sx_table at e
  (repeat' split at e) <;> first | (cases e; done) | (cases e; exact h2) | (cases e; exact dm_set (by assumption) h2) | (cases e; exact dm_push h1 h2)
theorem dm_dup (n : Nat) : dm_F (sx_dup n) := fun lv st h q e a h1 h2 => by
  unfold sx_dup at e
  (repeat' split at e) <;> first | (cases e; done) | (cases e; exact h2) | (cases e; exact dm_set (by assumption) h2) | (cases e; exact dm_push h1 h2)
theorem dm_pop (n : Nat) : dm_F (sx_pop n) := fun lv st h q e a h1 h2 => by
  unfold sx_pop at e
  (repeat' split at e) <;> first | (cases e; done) | (cases e; exact h2) | (cases e; exact dm_set (by assumption) h2) | (cases e; exact dm_push h1 h2)
theorem dm_getf (ci k n : Nat) : dm_F (sx_getf ci k n) := fun lv st h q e a h1 h2 => by
  unfold sx_getf at e
  (repeat' split at e) <;> first | (cases e; done) | (cases e; exact h2) | (cases e; exact dm_set (by assumption) h2) | (cases e; exact dm_push h1 h2)
theorem dm_putf (ci k : Nat) (ty : FieldType) (n : Nat) : dm_F (sx_putf ci k ty n) := fun lv st h q e a h1 h2 => by
  unfold sx_putf at e
  (repeat' split at e) <;> first | (cases e; done) | (cases e; exact h2) | (cases e; exact dm_set (by assumption) h2) | (cases e; exact dm_push h1 h2)
theorem dm_gets (k n : Nat) : dm_F (sx_gets k n) := fun lv st h q e a h1 h2 => by
  unfold sx_gets at e
  (repeat' split at e) <;> first | (cases e; done) | (cases e; exact h2) | (cases e; exact dm_set (by assumption) h2) | (cases e; exact dm_push h1 h2)
theorem dm_ald (t : Bool) (n : Nat) : dm_F (sx_ald t n) := fun lv st h q e a h1 h2 => by
  unfold sx_ald at e
  (repeat' split at e) <;> first | (cases e; done) | (cases e; exact h2) | (cases e; exact dm_set (by assumption) h2) | (cases e; exact dm_push h1 h2)
theorem dm_alen (n : Nat) : dm_F (sx_alen n) := fun lv st h q e a h1 h2 => by
  unfold sx_alen at e
  (repeat' split at e) <;> first | (cases e; done) | (cases e; exact h2) | (cases e; exact dm_set (by assumption) h2) | (cases e; exact dm_push h1 h2)
theorem dm_ast (t : Bool) (n : Nat) : dm_F (sx_ast t n) := fun lv st h q e a h1 h2 => by
  unfold sx_ast at e
  (repeat' split at e) <;> first | (cases e; done) | (cases e; exact h2) | (cases e; exact dm_set (by assumption) h2) | (cases e; exact dm_push h1 h2)
theorem dm_new (ci : Nat) (fs : List Value) (n : Nat) : dm_F (sx_new ci fs n) := fun lv st h q e a h1 h2 => by
  unfold sx_new at e
  (repeat' split at e) <;> first | (cases e; done) | (cases e; exact h2) | (cases e; exact dm_set (by assumption) h2) | (cases e; exact dm_push h1 h2)
theorem dm_newa (t : Bool) (n : Nat) : dm_F (sx_newa t n) := fun lv st h q e a h1 h2 => by
  unfold sx_newa at e
  (repeat' split at e) <;> first | (cases e; done) | (cases e; exact h2) | (cases e; exact dm_set (by assumption) h2) | (cases e; exact dm_push h1 h2)
theorem dm_obj (n : Nat) : dm_F (sx_obj n) := fun lv st h q e a h1 h2 => by
  unfold sx_obj at e
  (repeat' split at e) <;> first | (cases e; done) | (cases e; exact h2) | (cases e; exact dm_set (by assumption) h2) | (cases e; exact dm_push h1 h2)
theorem dm_copy (n : Nat) : dm_F (sx_copy n) := fun lv st h q e a h1 h2 => by
  unfold sx_copy at e
  (repeat' split at e) <;> first | (cases e; done) | (cases e; exact h2) | (cases e; exact dm_set (by assumption) h2) | (cases e; exact dm_push h1 h2)
theorem dm_min (n : Nat) : dm_F (sx_min n) := fun lv st h q e a h1 h2 => by
  unfold sx_min at e
  (repeat' split at e) <;> first | (cases e; done) | (cases e; exact h2) | (cases e; exact dm_set (by assumption) h2) | (cases e; exact dm_push h1 h2)
