/-! THE CONSTRUCTORS, over heaps that are lists (walks by wip/gen99b.py) -/
def hL (h0 : mx_H) (L : List mx_C) (s : Nat) : mx_H := (h0.1 + L.length, h0.2.1 + s, fun q => if q < h0.1 then h0.2.2.1 q else L[q - h0.1]?, h0.2.2.2)
theorem hL_at (h0 : mx_H) (L : List mx_C) (s k : Nat) : mx_get (hL h0 L s) (h0.1 + k) = L[k]? := by
  show (if h0.1 + k < h0.1 then h0.2.2.1 (h0.1 + k) else L[h0.1 + k - h0.1]?) = _
  rw [if_neg (by omega), Nat.add_sub_cancel_left]
theorem hL_low (h0 : mx_H) (L : List mx_C) (s : Nat) {q : Nat} (h : q < h0.1) : mx_get (hL h0 L s) q = mx_get h0 q := by
  show (if q < h0.1 then h0.2.2.1 q else L[q - h0.1]?) = _
  rw [if_pos h]; rfl
theorem hL_push (h0 : mx_H) (L : List mx_C) (s n : Nat) (c : mx_C) : mx_push (hL h0 L s) n c = hL h0 (L ++ [c]) (s + n) := by
  show ((h0.1 + L.length + 1, h0.2.1 + s + n, (fun q => if q = h0.1 + L.length then some c else if q < h0.1 then h0.2.2.1 q else L[q - h0.1]?), h0.2.2.2) : mx_H) = (h0.1 + (L ++ [c]).length, h0.2.1 + (s + n), (fun q => if q < h0.1 then h0.2.2.1 q else (L ++ [c])[q - h0.1]?), h0.2.2.2)
  have e1 : h0.1 + L.length + 1 = h0.1 + (L ++ [c]).length := by rw [List.length_append, List.length_singleton]; omega
  have e2 : h0.2.1 + s + n = h0.2.1 + (s + n) := Nat.add_assoc ..
  have e3 : (fun q => if q = h0.1 + L.length then some c else if q < h0.1 then h0.2.2.1 q else L[q - h0.1]?) = (fun q => if q < h0.1 then h0.2.2.1 q else (L ++ [c])[q - h0.1]?) := by
    funext q
    by_cases h1 : q = h0.1 + L.length
    · subst h1
      rw [if_pos rfl, if_neg (by omega), Nat.add_sub_cancel_left, List.getElem?_append_right (Nat.le_refl _), Nat.sub_self]; rfl
    · rw [if_neg h1]
      by_cases h2 : q < h0.1
      · rw [if_pos h2, if_pos h2]
      · rw [if_neg h2, if_neg h2]
        by_cases h3 : q - h0.1 < L.length
        · rw [List.getElem?_append_left h3]
        · rw [List.getElem?_eq_none (by omega), List.getElem?_eq_none (by rw [List.length_append, List.length_singleton]; omega)]
  rw [e1, e2, e3]
theorem hL_getX {h0 : mx_H} {L R : List mx_C} {X : mx_C} {s w : Nat} (hw : h0.1 + L.length = w) : mx_get (hL h0 (L ++ X :: R) s) w = some X := by
  rw [← hw, hL_at, List.getElem?_append_right (Nat.le_refl _), Nat.sub_self]; rfl
theorem hL_setX {h0 : mx_H} {L R : List mx_C} {X Y : mx_C} {s w : Nat} (hw : h0.1 + L.length = w) : mx_set (hL h0 (L ++ X :: R) s) w Y = hL h0 (L ++ Y :: R) s := by
  subst hw
  show ((h0.1 + (L ++ X :: R).length, h0.2.1 + s, (fun q => if q = h0.1 + L.length then some Y else if q < h0.1 then h0.2.2.1 q else (L ++ X :: R)[q - h0.1]?), h0.2.2.2) : mx_H) = (h0.1 + (L ++ Y :: R).length, h0.2.1 + s, (fun q => if q < h0.1 then h0.2.2.1 q else (L ++ Y :: R)[q - h0.1]?), h0.2.2.2)
  have e1 : (L ++ X :: R).length = (L ++ Y :: R).length := by rw [List.length_append, List.length_append]; rfl
  have e3 : (fun q => if q = h0.1 + L.length then some Y else if q < h0.1 then h0.2.2.1 q else (L ++ X :: R)[q - h0.1]?) = (fun q => if q < h0.1 then h0.2.2.1 q else (L ++ Y :: R)[q - h0.1]?) := by
    funext q
    by_cases h1 : q = h0.1 + L.length
    · subst h1
      rw [if_pos rfl, if_neg (by omega), Nat.add_sub_cancel_left, List.getElem?_append_right (Nat.le_refl _), Nat.sub_self]; rfl
    · rw [if_neg h1]
      by_cases h2 : q < h0.1
      · rw [if_pos h2, if_pos h2]
      · rw [if_neg h2, if_neg h2]
        by_cases h3 : q - h0.1 < L.length
        · rw [List.getElem?_append_left h3, List.getElem?_append_left h3]
        · obtain ⟨j, hj⟩ : ∃ j, q - h0.1 = L.length + (j + 1) := ⟨q - h0.1 - L.length - 1, by omega⟩
          rw [hj, List.getElem?_append_right (by omega), List.getElem?_append_right (by omega), Nat.add_sub_cancel_left]; rfl
  rw [e1, e3]
theorem hL_mid (L R T : List mx_C) (X : mx_C) : (L ++ X :: R) ++ T = L ++ X :: (R ++ T) := by rw [List.append_assoc, List.cons_append]
theorem hL_len {h0 : mx_H} {L R : List mx_C} {X : mx_C} {w n : Nat} (hw : h0.1 + L.length = w) (hn : R.length + 1 = n) : h0.1 + (L ++ X :: R).length = w + n := by
  rw [List.length_append, List.length_cons, ← hw]; omega
abbrev aZ (t : Bool) (n : Nat) : mx_C := .inl (t, n, fun _ => 0)
section KON
variable {h0 : mx_H} {L : List mx_C} {s w : Nat}
abbrev zNL (w : Nat) : List mx_C := (.inr (6, [.ref (w + 1), .int 0])) :: ([] ++ [aZ false 16])
theorem k_1 (hw : h0.1 + L.length = w) : Go 1 0 [(0, .ref w)] [] (hL h0 (L ++ [.inr (6, [.null, .int 0])]) s) (none, hL h0 (L ++ zNL w) (s + 16)) := by
  refine mx_to.steps 4 rfl ?_
  refine go_newa rfl (by decide) (by decide) ?_
  show Go 1 9 [(0, .ref w)] [.ref (h0.1 + (L ++ (.inr (6, [.null, .int 0]) : mx_C) :: []).length), .ref w] (mx_push (hL h0 (L ++ (.inr (6, [.null, .int 0]) : mx_C) :: []) (s)) 16 (aZ false 16)) _
  rw [hL_push, hL_len (n := 1) hw rfl, hL_mid]
  show Go 1 9 [(0, .ref w)] [.ref (w + 1), .ref w] (hL h0 (L ++ (.inr (6, [.null, .int 0]) : mx_C) :: ([] ++ [aZ false 16])) (s + 16)) _
  refine go_putf rfl (hL_getX hw) (Nat.le_of_ble_eq_true rfl) rfl rfl ?_
  rw [hL_setX hw]
  show Go 1 12 [(0, .ref w)] [] (hL h0 (L ++ (.inr (6, [.ref (w + 1), .int 0]) : mx_C) :: ([] ++ [aZ false 16])) (s + 16)) _
  show Go 1 12 [(0, .ref w)] [] (hL h0 (L ++ (.inr (6, [.ref (w + 1), .int 0]) : mx_C) :: ([] ++ [aZ false 16])) (s + 16)) _
  exact go_ret rfl rfl
abbrev zCL (w : Nat) : List mx_C := (.inr (1, [.ref (w + 1), .ref (w + 3)])) :: (([] ++ (zNL (w + 1))) ++ (zNL (w + 3)))
theorem k_24 (hw : h0.1 + L.length = w) : Go 24 0 [(0, .ref w)] [] (hL h0 (L ++ [.inr (1, [.null, .null])]) s) (none, hL h0 (L ++ zCL w) (s + 36)) := by
  refine mx_to.steps 3 rfl ?_
  refine go_new rfl ?_
  show Go 24 8 [(0, .ref w)] [.ref (h0.1 + (L ++ (.inr (1, [.null, .null]) : mx_C) :: []).length), .ref w] (mx_push (hL h0 (L ++ (.inr (1, [.null, .null]) : mx_C) :: []) (s)) 2 (.inr (6, [.null, .int 0]))) _
  rw [hL_push, hL_len (n := 1) hw rfl]
  refine mx_to.steps 1 rfl ?_
  refine go_call (q := (none, hL h0 ((L ++ (.inr (1, [.null, .null]) : mx_C) :: []) ++ (zNL (w + 1))) (s + 2 + 16))) rfl rfl rfl (k_1 (hL_len hw rfl)) ?_
  rw [hL_mid]
  show Go 24 12 [(0, .ref w)] [.ref (w + 1), .ref w] (hL h0 (L ++ (.inr (1, [.null, .null]) : mx_C) :: ([] ++ (zNL (w + 1)))) (s + 2 + 16)) _
  refine go_putf rfl (hL_getX hw) (Nat.le_of_ble_eq_true rfl) rfl rfl ?_
  rw [hL_setX hw]
  show Go 24 15 [(0, .ref w)] [] (hL h0 (L ++ (.inr (1, [.ref (w + 1), .null]) : mx_C) :: ([] ++ (zNL (w + 1)))) (s + 2 + 16)) _
  refine mx_to.steps 1 rfl ?_
  refine go_new rfl ?_
  show Go 24 19 [(0, .ref w)] [.ref (h0.1 + (L ++ (.inr (1, [.ref (w + 1), .null]) : mx_C) :: ([] ++ (zNL (w + 1)))).length), .ref w] (mx_push (hL h0 (L ++ (.inr (1, [.ref (w + 1), .null]) : mx_C) :: ([] ++ (zNL (w + 1)))) (s + 2 + 16)) 2 (.inr (6, [.null, .int 0]))) _
  rw [hL_push, hL_len (n := 3) hw rfl]
  refine mx_to.steps 1 rfl ?_
  refine go_call (q := (none, hL h0 ((L ++ (.inr (1, [.ref (w + 1), .null]) : mx_C) :: ([] ++ (zNL (w + 1)))) ++ (zNL (w + 3))) (s + 2 + 16 + 2 + 16))) rfl rfl rfl (k_1 (hL_len hw rfl)) ?_
  rw [hL_mid]
  show Go 24 23 [(0, .ref w)] [.ref (w + 3), .ref w] (hL h0 (L ++ (.inr (1, [.ref (w + 1), .null]) : mx_C) :: (([] ++ (zNL (w + 1))) ++ (zNL (w + 3)))) (s + 2 + 16 + 2 + 16)) _
  refine go_putf rfl (hL_getX hw) (Nat.le_of_ble_eq_true rfl) rfl rfl ?_
  rw [hL_setX hw]
  show Go 24 26 [(0, .ref w)] [] (hL h0 (L ++ (.inr (1, [.ref (w + 1), .ref (w + 3)]) : mx_C) :: (([] ++ (zNL (w + 1))) ++ (zNL (w + 3)))) (s + 2 + 16 + 2 + 16)) _
  show Go 24 26 [(0, .ref w)] [] (hL h0 (L ++ (.inr (1, [.ref (w + 1), .ref (w + 3)]) : mx_C) :: (([] ++ (zNL (w + 1))) ++ (zNL (w + 3)))) (s + 2 + 16 + 2 + 16)) _
  exact go_ret rfl rfl
abbrev zJL (w : Nat) (cd : Nat) : List mx_C := (.inr (3, [.ref cd, .ref (w + 1), .ref (w + 3), .ref (w + 5), .ref (w + 7), .int 0, .int 0])) :: (((([] ++ (zNL (w + 1))) ++ (zNL (w + 3))) ++ (zNL (w + 5))) ++ (zNL (w + 7)))
theorem k_54 {cd : Nat} (hw : h0.1 + L.length = w) : Go 54 0 [(0, .ref w), (1, .ref cd)] [] (hL h0 (L ++ [.inr (3, [.null, .null, .null, .null, .null, .int 0, .int 0])]) s) (none, hL h0 (L ++ zJL w cd) (s + 72)) := by
  refine mx_to.steps 3 rfl ?_
  refine go_new rfl ?_
  show Go 54 8 [(0, .ref w), (1, .ref cd)] [.ref (h0.1 + (L ++ (.inr (3, [.null, .null, .null, .null, .null, .int 0, .int 0]) : mx_C) :: []).length), .ref w] (mx_push (hL h0 (L ++ (.inr (3, [.null, .null, .null, .null, .null, .int 0, .int 0]) : mx_C) :: []) (s)) 2 (.inr (6, [.null, .int 0]))) _
  rw [hL_push, hL_len (n := 1) hw rfl]
  refine mx_to.steps 1 rfl ?_
  refine go_call (q := (none, hL h0 ((L ++ (.inr (3, [.null, .null, .null, .null, .null, .int 0, .int 0]) : mx_C) :: []) ++ (zNL (w + 1))) (s + 2 + 16))) rfl rfl rfl (k_1 (hL_len hw rfl)) ?_
  rw [hL_mid]
  show Go 54 12 [(0, .ref w), (1, .ref cd)] [.ref (w + 1), .ref w] (hL h0 (L ++ (.inr (3, [.null, .null, .null, .null, .null, .int 0, .int 0]) : mx_C) :: ([] ++ (zNL (w + 1)))) (s + 2 + 16)) _
  refine go_putf rfl (hL_getX hw) (Nat.le_of_ble_eq_true rfl) rfl rfl ?_
  rw [hL_setX hw]
  show Go 54 15 [(0, .ref w), (1, .ref cd)] [] (hL h0 (L ++ (.inr (3, [.null, .ref (w + 1), .null, .null, .null, .int 0, .int 0]) : mx_C) :: ([] ++ (zNL (w + 1)))) (s + 2 + 16)) _
  refine mx_to.steps 1 rfl ?_
  refine go_new rfl ?_
  show Go 54 19 [(0, .ref w), (1, .ref cd)] [.ref (h0.1 + (L ++ (.inr (3, [.null, .ref (w + 1), .null, .null, .null, .int 0, .int 0]) : mx_C) :: ([] ++ (zNL (w + 1)))).length), .ref w] (mx_push (hL h0 (L ++ (.inr (3, [.null, .ref (w + 1), .null, .null, .null, .int 0, .int 0]) : mx_C) :: ([] ++ (zNL (w + 1)))) (s + 2 + 16)) 2 (.inr (6, [.null, .int 0]))) _
  rw [hL_push, hL_len (n := 3) hw rfl]
  refine mx_to.steps 1 rfl ?_
  refine go_call (q := (none, hL h0 ((L ++ (.inr (3, [.null, .ref (w + 1), .null, .null, .null, .int 0, .int 0]) : mx_C) :: ([] ++ (zNL (w + 1)))) ++ (zNL (w + 3))) (s + 2 + 16 + 2 + 16))) rfl rfl rfl (k_1 (hL_len hw rfl)) ?_
  rw [hL_mid]
  show Go 54 23 [(0, .ref w), (1, .ref cd)] [.ref (w + 3), .ref w] (hL h0 (L ++ (.inr (3, [.null, .ref (w + 1), .null, .null, .null, .int 0, .int 0]) : mx_C) :: (([] ++ (zNL (w + 1))) ++ (zNL (w + 3)))) (s + 2 + 16 + 2 + 16)) _
  refine go_putf rfl (hL_getX hw) (Nat.le_of_ble_eq_true rfl) rfl rfl ?_
  rw [hL_setX hw]
  show Go 54 26 [(0, .ref w), (1, .ref cd)] [] (hL h0 (L ++ (.inr (3, [.null, .ref (w + 1), .ref (w + 3), .null, .null, .int 0, .int 0]) : mx_C) :: (([] ++ (zNL (w + 1))) ++ (zNL (w + 3)))) (s + 2 + 16 + 2 + 16)) _
  refine mx_to.steps 1 rfl ?_
  refine go_new rfl ?_
  show Go 54 30 [(0, .ref w), (1, .ref cd)] [.ref (h0.1 + (L ++ (.inr (3, [.null, .ref (w + 1), .ref (w + 3), .null, .null, .int 0, .int 0]) : mx_C) :: (([] ++ (zNL (w + 1))) ++ (zNL (w + 3)))).length), .ref w] (mx_push (hL h0 (L ++ (.inr (3, [.null, .ref (w + 1), .ref (w + 3), .null, .null, .int 0, .int 0]) : mx_C) :: (([] ++ (zNL (w + 1))) ++ (zNL (w + 3)))) (s + 2 + 16 + 2 + 16)) 2 (.inr (6, [.null, .int 0]))) _
  rw [hL_push, hL_len (n := 5) hw rfl]
  refine mx_to.steps 1 rfl ?_
  refine go_call (q := (none, hL h0 ((L ++ (.inr (3, [.null, .ref (w + 1), .ref (w + 3), .null, .null, .int 0, .int 0]) : mx_C) :: (([] ++ (zNL (w + 1))) ++ (zNL (w + 3)))) ++ (zNL (w + 5))) (s + 2 + 16 + 2 + 16 + 2 + 16))) rfl rfl rfl (k_1 (hL_len hw rfl)) ?_
  rw [hL_mid]
  show Go 54 34 [(0, .ref w), (1, .ref cd)] [.ref (w + 5), .ref w] (hL h0 (L ++ (.inr (3, [.null, .ref (w + 1), .ref (w + 3), .null, .null, .int 0, .int 0]) : mx_C) :: ((([] ++ (zNL (w + 1))) ++ (zNL (w + 3))) ++ (zNL (w + 5)))) (s + 2 + 16 + 2 + 16 + 2 + 16)) _
  refine go_putf rfl (hL_getX hw) (Nat.le_of_ble_eq_true rfl) rfl rfl ?_
  rw [hL_setX hw]
  show Go 54 37 [(0, .ref w), (1, .ref cd)] [] (hL h0 (L ++ (.inr (3, [.null, .ref (w + 1), .ref (w + 3), .ref (w + 5), .null, .int 0, .int 0]) : mx_C) :: ((([] ++ (zNL (w + 1))) ++ (zNL (w + 3))) ++ (zNL (w + 5)))) (s + 2 + 16 + 2 + 16 + 2 + 16)) _
  refine mx_to.steps 1 rfl ?_
  refine go_new rfl ?_
  show Go 54 41 [(0, .ref w), (1, .ref cd)] [.ref (h0.1 + (L ++ (.inr (3, [.null, .ref (w + 1), .ref (w + 3), .ref (w + 5), .null, .int 0, .int 0]) : mx_C) :: ((([] ++ (zNL (w + 1))) ++ (zNL (w + 3))) ++ (zNL (w + 5)))).length), .ref w] (mx_push (hL h0 (L ++ (.inr (3, [.null, .ref (w + 1), .ref (w + 3), .ref (w + 5), .null, .int 0, .int 0]) : mx_C) :: ((([] ++ (zNL (w + 1))) ++ (zNL (w + 3))) ++ (zNL (w + 5)))) (s + 2 + 16 + 2 + 16 + 2 + 16)) 2 (.inr (6, [.null, .int 0]))) _
  rw [hL_push, hL_len (n := 7) hw rfl]
  refine mx_to.steps 1 rfl ?_
  refine go_call (q := (none, hL h0 ((L ++ (.inr (3, [.null, .ref (w + 1), .ref (w + 3), .ref (w + 5), .null, .int 0, .int 0]) : mx_C) :: ((([] ++ (zNL (w + 1))) ++ (zNL (w + 3))) ++ (zNL (w + 5)))) ++ (zNL (w + 7))) (s + 2 + 16 + 2 + 16 + 2 + 16 + 2 + 16))) rfl rfl rfl (k_1 (hL_len hw rfl)) ?_
  rw [hL_mid]
  show Go 54 45 [(0, .ref w), (1, .ref cd)] [.ref (w + 7), .ref w] (hL h0 (L ++ (.inr (3, [.null, .ref (w + 1), .ref (w + 3), .ref (w + 5), .null, .int 0, .int 0]) : mx_C) :: (((([] ++ (zNL (w + 1))) ++ (zNL (w + 3))) ++ (zNL (w + 5))) ++ (zNL (w + 7)))) (s + 2 + 16 + 2 + 16 + 2 + 16 + 2 + 16)) _
  refine go_putf rfl (hL_getX hw) (Nat.le_of_ble_eq_true rfl) rfl rfl ?_
  rw [hL_setX hw]
  show Go 54 48 [(0, .ref w), (1, .ref cd)] [] (hL h0 (L ++ (.inr (3, [.null, .ref (w + 1), .ref (w + 3), .ref (w + 5), .ref (w + 7), .int 0, .int 0]) : mx_C) :: (((([] ++ (zNL (w + 1))) ++ (zNL (w + 3))) ++ (zNL (w + 5))) ++ (zNL (w + 7)))) (s + 2 + 16 + 2 + 16 + 2 + 16 + 2 + 16)) _
  refine mx_to.steps 2 rfl ?_
  refine go_putf rfl (hL_getX hw) (Nat.le_of_ble_eq_true rfl) rfl rfl ?_
  rw [hL_setX hw]
  show Go 54 53 [(0, .ref w), (1, .ref cd)] [] (hL h0 (L ++ (.inr (3, [.ref cd, .ref (w + 1), .ref (w + 3), .ref (w + 5), .ref (w + 7), .int 0, .int 0]) : mx_C) :: (((([] ++ (zNL (w + 1))) ++ (zNL (w + 3))) ++ (zNL (w + 5))) ++ (zNL (w + 7)))) (s + 2 + 16 + 2 + 16 + 2 + 16 + 2 + 16)) _
  show Go 54 53 [(0, .ref w), (1, .ref cd)] [] (hL h0 (L ++ (.inr (3, [.ref cd, .ref (w + 1), .ref (w + 3), .ref (w + 5), .ref (w + 7), .int 0, .int 0]) : mx_C) :: (((([] ++ (zNL (w + 1))) ++ (zNL (w + 3))) ++ (zNL (w + 5))) ++ (zNL (w + 7)))) (s + 2 + 16 + 2 + 16 + 2 + 16 + 2 + 16)) _
  exact go_ret rfl rfl
abbrev zIL (w : Nat) : List mx_C := (.inr (2, [.ref (w + 1), .ref (w + 3), .ref (w + 5), .ref (w + 10)])) :: (((([] ++ (zNL (w + 1))) ++ (zNL (w + 3))) ++ (zCL (w + 5))) ++ (zCL (w + 10)))
theorem k_71 (hw : h0.1 + L.length = w) : Go 71 0 [(0, .ref w)] [] (hL h0 (L ++ [.inr (2, [.null, .null, .null, .null])]) s) (none, hL h0 (L ++ zIL w) (s + 112)) := by
  refine mx_to.steps 3 rfl ?_
  refine go_new rfl ?_
  show Go 71 8 [(0, .ref w)] [.ref (h0.1 + (L ++ (.inr (2, [.null, .null, .null, .null]) : mx_C) :: []).length), .ref w] (mx_push (hL h0 (L ++ (.inr (2, [.null, .null, .null, .null]) : mx_C) :: []) (s)) 2 (.inr (6, [.null, .int 0]))) _
  rw [hL_push, hL_len (n := 1) hw rfl]
  refine mx_to.steps 1 rfl ?_
  refine go_call (q := (none, hL h0 ((L ++ (.inr (2, [.null, .null, .null, .null]) : mx_C) :: []) ++ (zNL (w + 1))) (s + 2 + 16))) rfl rfl rfl (k_1 (hL_len hw rfl)) ?_
  rw [hL_mid]
  show Go 71 12 [(0, .ref w)] [.ref (w + 1), .ref w] (hL h0 (L ++ (.inr (2, [.null, .null, .null, .null]) : mx_C) :: ([] ++ (zNL (w + 1)))) (s + 2 + 16)) _
  refine go_putf rfl (hL_getX hw) (Nat.le_of_ble_eq_true rfl) rfl rfl ?_
  rw [hL_setX hw]
  show Go 71 15 [(0, .ref w)] [] (hL h0 (L ++ (.inr (2, [.ref (w + 1), .null, .null, .null]) : mx_C) :: ([] ++ (zNL (w + 1)))) (s + 2 + 16)) _
  refine mx_to.steps 1 rfl ?_
  refine go_new rfl ?_
  show Go 71 19 [(0, .ref w)] [.ref (h0.1 + (L ++ (.inr (2, [.ref (w + 1), .null, .null, .null]) : mx_C) :: ([] ++ (zNL (w + 1)))).length), .ref w] (mx_push (hL h0 (L ++ (.inr (2, [.ref (w + 1), .null, .null, .null]) : mx_C) :: ([] ++ (zNL (w + 1)))) (s + 2 + 16)) 2 (.inr (6, [.null, .int 0]))) _
  rw [hL_push, hL_len (n := 3) hw rfl]
  refine mx_to.steps 1 rfl ?_
  refine go_call (q := (none, hL h0 ((L ++ (.inr (2, [.ref (w + 1), .null, .null, .null]) : mx_C) :: ([] ++ (zNL (w + 1)))) ++ (zNL (w + 3))) (s + 2 + 16 + 2 + 16))) rfl rfl rfl (k_1 (hL_len hw rfl)) ?_
  rw [hL_mid]
  show Go 71 23 [(0, .ref w)] [.ref (w + 3), .ref w] (hL h0 (L ++ (.inr (2, [.ref (w + 1), .null, .null, .null]) : mx_C) :: (([] ++ (zNL (w + 1))) ++ (zNL (w + 3)))) (s + 2 + 16 + 2 + 16)) _
  refine go_putf rfl (hL_getX hw) (Nat.le_of_ble_eq_true rfl) rfl rfl ?_
  rw [hL_setX hw]
  show Go 71 26 [(0, .ref w)] [] (hL h0 (L ++ (.inr (2, [.ref (w + 1), .ref (w + 3), .null, .null]) : mx_C) :: (([] ++ (zNL (w + 1))) ++ (zNL (w + 3)))) (s + 2 + 16 + 2 + 16)) _
  refine mx_to.steps 1 rfl ?_
  refine go_new rfl ?_
  show Go 71 30 [(0, .ref w)] [.ref (h0.1 + (L ++ (.inr (2, [.ref (w + 1), .ref (w + 3), .null, .null]) : mx_C) :: (([] ++ (zNL (w + 1))) ++ (zNL (w + 3)))).length), .ref w] (mx_push (hL h0 (L ++ (.inr (2, [.ref (w + 1), .ref (w + 3), .null, .null]) : mx_C) :: (([] ++ (zNL (w + 1))) ++ (zNL (w + 3)))) (s + 2 + 16 + 2 + 16)) 2 (.inr (1, [.null, .null]))) _
  rw [hL_push, hL_len (n := 5) hw rfl]
  refine mx_to.steps 1 rfl ?_
  refine go_call (q := (none, hL h0 ((L ++ (.inr (2, [.ref (w + 1), .ref (w + 3), .null, .null]) : mx_C) :: (([] ++ (zNL (w + 1))) ++ (zNL (w + 3)))) ++ (zCL (w + 5))) (s + 2 + 16 + 2 + 16 + 2 + 36))) rfl rfl rfl (k_24 (hL_len hw rfl)) ?_
  rw [hL_mid]
  show Go 71 34 [(0, .ref w)] [.ref (w + 5), .ref w] (hL h0 (L ++ (.inr (2, [.ref (w + 1), .ref (w + 3), .null, .null]) : mx_C) :: ((([] ++ (zNL (w + 1))) ++ (zNL (w + 3))) ++ (zCL (w + 5)))) (s + 2 + 16 + 2 + 16 + 2 + 36)) _
  refine go_putf rfl (hL_getX hw) (Nat.le_of_ble_eq_true rfl) rfl rfl ?_
  rw [hL_setX hw]
  show Go 71 37 [(0, .ref w)] [] (hL h0 (L ++ (.inr (2, [.ref (w + 1), .ref (w + 3), .ref (w + 5), .null]) : mx_C) :: ((([] ++ (zNL (w + 1))) ++ (zNL (w + 3))) ++ (zCL (w + 5)))) (s + 2 + 16 + 2 + 16 + 2 + 36)) _
  refine mx_to.steps 1 rfl ?_
  refine go_new rfl ?_
  show Go 71 41 [(0, .ref w)] [.ref (h0.1 + (L ++ (.inr (2, [.ref (w + 1), .ref (w + 3), .ref (w + 5), .null]) : mx_C) :: ((([] ++ (zNL (w + 1))) ++ (zNL (w + 3))) ++ (zCL (w + 5)))).length), .ref w] (mx_push (hL h0 (L ++ (.inr (2, [.ref (w + 1), .ref (w + 3), .ref (w + 5), .null]) : mx_C) :: ((([] ++ (zNL (w + 1))) ++ (zNL (w + 3))) ++ (zCL (w + 5)))) (s + 2 + 16 + 2 + 16 + 2 + 36)) 2 (.inr (1, [.null, .null]))) _
  rw [hL_push, hL_len (n := 10) hw rfl]
  refine mx_to.steps 1 rfl ?_
  refine go_call (q := (none, hL h0 ((L ++ (.inr (2, [.ref (w + 1), .ref (w + 3), .ref (w + 5), .null]) : mx_C) :: ((([] ++ (zNL (w + 1))) ++ (zNL (w + 3))) ++ (zCL (w + 5)))) ++ (zCL (w + 10))) (s + 2 + 16 + 2 + 16 + 2 + 36 + 2 + 36))) rfl rfl rfl (k_24 (hL_len hw rfl)) ?_
  rw [hL_mid]
  show Go 71 45 [(0, .ref w)] [.ref (w + 10), .ref w] (hL h0 (L ++ (.inr (2, [.ref (w + 1), .ref (w + 3), .ref (w + 5), .null]) : mx_C) :: (((([] ++ (zNL (w + 1))) ++ (zNL (w + 3))) ++ (zCL (w + 5))) ++ (zCL (w + 10)))) (s + 2 + 16 + 2 + 16 + 2 + 36 + 2 + 36)) _
  refine go_putf rfl (hL_getX hw) (Nat.le_of_ble_eq_true rfl) rfl rfl ?_
  rw [hL_setX hw]
  show Go 71 48 [(0, .ref w)] [] (hL h0 (L ++ (.inr (2, [.ref (w + 1), .ref (w + 3), .ref (w + 5), .ref (w + 10)]) : mx_C) :: (((([] ++ (zNL (w + 1))) ++ (zNL (w + 3))) ++ (zCL (w + 5))) ++ (zCL (w + 10)))) (s + 2 + 16 + 2 + 16 + 2 + 36 + 2 + 36)) _
  show Go 71 48 [(0, .ref w)] [] (hL h0 (L ++ (.inr (2, [.ref (w + 1), .ref (w + 3), .ref (w + 5), .ref (w + 10)]) : mx_C) :: (((([] ++ (zNL (w + 1))) ++ (zNL (w + 3))) ++ (zCL (w + 5))) ++ (zCL (w + 10)))) (s + 2 + 16 + 2 + 16 + 2 + 36 + 2 + 36)) _
  exact go_ret rfl rfl
abbrev zTL (w : Nat) : List mx_C := (.inr (8, [.ref (w + 1), .ref (w + 3), .ref (w + 5), .int 0, .int 0])) :: ((([] ++ (zNL (w + 1))) ++ (zNL (w + 3))) ++ (zNL (w + 5)))
theorem k_86 (hw : h0.1 + L.length = w) : Go 86 0 [(0, .ref w)] [] (hL h0 (L ++ [.inr (8, [.null, .null, .null, .int 0, .int 0])]) s) (none, hL h0 (L ++ zTL w) (s + 54)) := by
  refine mx_to.steps 3 rfl ?_
  refine go_new rfl ?_
  show Go 86 8 [(0, .ref w)] [.ref (h0.1 + (L ++ (.inr (8, [.null, .null, .null, .int 0, .int 0]) : mx_C) :: []).length), .ref w] (mx_push (hL h0 (L ++ (.inr (8, [.null, .null, .null, .int 0, .int 0]) : mx_C) :: []) (s)) 2 (.inr (6, [.null, .int 0]))) _
  rw [hL_push, hL_len (n := 1) hw rfl]
  refine mx_to.steps 1 rfl ?_
  refine go_call (q := (none, hL h0 ((L ++ (.inr (8, [.null, .null, .null, .int 0, .int 0]) : mx_C) :: []) ++ (zNL (w + 1))) (s + 2 + 16))) rfl rfl rfl (k_1 (hL_len hw rfl)) ?_
  rw [hL_mid]
  show Go 86 12 [(0, .ref w)] [.ref (w + 1), .ref w] (hL h0 (L ++ (.inr (8, [.null, .null, .null, .int 0, .int 0]) : mx_C) :: ([] ++ (zNL (w + 1)))) (s + 2 + 16)) _
  refine go_putf rfl (hL_getX hw) (Nat.le_of_ble_eq_true rfl) rfl rfl ?_
  rw [hL_setX hw]
  show Go 86 15 [(0, .ref w)] [] (hL h0 (L ++ (.inr (8, [.ref (w + 1), .null, .null, .int 0, .int 0]) : mx_C) :: ([] ++ (zNL (w + 1)))) (s + 2 + 16)) _
  refine mx_to.steps 1 rfl ?_
  refine go_new rfl ?_
  show Go 86 19 [(0, .ref w)] [.ref (h0.1 + (L ++ (.inr (8, [.ref (w + 1), .null, .null, .int 0, .int 0]) : mx_C) :: ([] ++ (zNL (w + 1)))).length), .ref w] (mx_push (hL h0 (L ++ (.inr (8, [.ref (w + 1), .null, .null, .int 0, .int 0]) : mx_C) :: ([] ++ (zNL (w + 1)))) (s + 2 + 16)) 2 (.inr (6, [.null, .int 0]))) _
  rw [hL_push, hL_len (n := 3) hw rfl]
  refine mx_to.steps 1 rfl ?_
  refine go_call (q := (none, hL h0 ((L ++ (.inr (8, [.ref (w + 1), .null, .null, .int 0, .int 0]) : mx_C) :: ([] ++ (zNL (w + 1)))) ++ (zNL (w + 3))) (s + 2 + 16 + 2 + 16))) rfl rfl rfl (k_1 (hL_len hw rfl)) ?_
  rw [hL_mid]
  show Go 86 23 [(0, .ref w)] [.ref (w + 3), .ref w] (hL h0 (L ++ (.inr (8, [.ref (w + 1), .null, .null, .int 0, .int 0]) : mx_C) :: (([] ++ (zNL (w + 1))) ++ (zNL (w + 3)))) (s + 2 + 16 + 2 + 16)) _
  refine go_putf rfl (hL_getX hw) (Nat.le_of_ble_eq_true rfl) rfl rfl ?_
  rw [hL_setX hw]
  show Go 86 26 [(0, .ref w)] [] (hL h0 (L ++ (.inr (8, [.ref (w + 1), .ref (w + 3), .null, .int 0, .int 0]) : mx_C) :: (([] ++ (zNL (w + 1))) ++ (zNL (w + 3)))) (s + 2 + 16 + 2 + 16)) _
  refine mx_to.steps 1 rfl ?_
  refine go_new rfl ?_
  show Go 86 30 [(0, .ref w)] [.ref (h0.1 + (L ++ (.inr (8, [.ref (w + 1), .ref (w + 3), .null, .int 0, .int 0]) : mx_C) :: (([] ++ (zNL (w + 1))) ++ (zNL (w + 3)))).length), .ref w] (mx_push (hL h0 (L ++ (.inr (8, [.ref (w + 1), .ref (w + 3), .null, .int 0, .int 0]) : mx_C) :: (([] ++ (zNL (w + 1))) ++ (zNL (w + 3)))) (s + 2 + 16 + 2 + 16)) 2 (.inr (6, [.null, .int 0]))) _
  rw [hL_push, hL_len (n := 5) hw rfl]
  refine mx_to.steps 1 rfl ?_
  refine go_call (q := (none, hL h0 ((L ++ (.inr (8, [.ref (w + 1), .ref (w + 3), .null, .int 0, .int 0]) : mx_C) :: (([] ++ (zNL (w + 1))) ++ (zNL (w + 3)))) ++ (zNL (w + 5))) (s + 2 + 16 + 2 + 16 + 2 + 16))) rfl rfl rfl (k_1 (hL_len hw rfl)) ?_
  rw [hL_mid]
  show Go 86 34 [(0, .ref w)] [.ref (w + 5), .ref w] (hL h0 (L ++ (.inr (8, [.ref (w + 1), .ref (w + 3), .null, .int 0, .int 0]) : mx_C) :: ((([] ++ (zNL (w + 1))) ++ (zNL (w + 3))) ++ (zNL (w + 5)))) (s + 2 + 16 + 2 + 16 + 2 + 16)) _
  refine go_putf rfl (hL_getX hw) (Nat.le_of_ble_eq_true rfl) rfl rfl ?_
  rw [hL_setX hw]
  show Go 86 37 [(0, .ref w)] [] (hL h0 (L ++ (.inr (8, [.ref (w + 1), .ref (w + 3), .ref (w + 5), .int 0, .int 0]) : mx_C) :: ((([] ++ (zNL (w + 1))) ++ (zNL (w + 3))) ++ (zNL (w + 5)))) (s + 2 + 16 + 2 + 16 + 2 + 16)) _
  show Go 86 37 [(0, .ref w)] [] (hL h0 (L ++ (.inr (8, [.ref (w + 1), .ref (w + 3), .ref (w + 5), .int 0, .int 0]) : mx_C) :: ((([] ++ (zNL (w + 1))) ++ (zNL (w + 3))) ++ (zNL (w + 5)))) (s + 2 + 16 + 2 + 16 + 2 + 16)) _
  exact go_ret rfl rfl
abbrev zGL (w : Nat) : List mx_C := (.inr (7, [.ref (w + 1), .ref (w + 3), .ref (w + 5)])) :: ((([] ++ (zNL (w + 1))) ++ (zNL (w + 3))) ++ (zNL (w + 5)))
theorem k_34 (hw : h0.1 + L.length = w) : Go 34 0 [(0, .ref w)] [] (hL h0 (L ++ [.inr (7, [.null, .null, .null])]) s) (none, hL h0 (L ++ zGL w) (s + 54)) := by
  refine mx_to.steps 3 rfl ?_
  refine go_new rfl ?_
  show Go 34 8 [(0, .ref w)] [.ref (h0.1 + (L ++ (.inr (7, [.null, .null, .null]) : mx_C) :: []).length), .ref w] (mx_push (hL h0 (L ++ (.inr (7, [.null, .null, .null]) : mx_C) :: []) (s)) 2 (.inr (6, [.null, .int 0]))) _
  rw [hL_push, hL_len (n := 1) hw rfl]
  refine mx_to.steps 1 rfl ?_
  refine go_call (q := (none, hL h0 ((L ++ (.inr (7, [.null, .null, .null]) : mx_C) :: []) ++ (zNL (w + 1))) (s + 2 + 16))) rfl rfl rfl (k_1 (hL_len hw rfl)) ?_
  rw [hL_mid]
  show Go 34 12 [(0, .ref w)] [.ref (w + 1), .ref w] (hL h0 (L ++ (.inr (7, [.null, .null, .null]) : mx_C) :: ([] ++ (zNL (w + 1)))) (s + 2 + 16)) _
  refine go_putf rfl (hL_getX hw) (Nat.le_of_ble_eq_true rfl) rfl rfl ?_
  rw [hL_setX hw]
  show Go 34 15 [(0, .ref w)] [] (hL h0 (L ++ (.inr (7, [.ref (w + 1), .null, .null]) : mx_C) :: ([] ++ (zNL (w + 1)))) (s + 2 + 16)) _
  refine mx_to.steps 1 rfl ?_
  refine go_new rfl ?_
  show Go 34 19 [(0, .ref w)] [.ref (h0.1 + (L ++ (.inr (7, [.ref (w + 1), .null, .null]) : mx_C) :: ([] ++ (zNL (w + 1)))).length), .ref w] (mx_push (hL h0 (L ++ (.inr (7, [.ref (w + 1), .null, .null]) : mx_C) :: ([] ++ (zNL (w + 1)))) (s + 2 + 16)) 2 (.inr (6, [.null, .int 0]))) _
  rw [hL_push, hL_len (n := 3) hw rfl]
  refine mx_to.steps 1 rfl ?_
  refine go_call (q := (none, hL h0 ((L ++ (.inr (7, [.ref (w + 1), .null, .null]) : mx_C) :: ([] ++ (zNL (w + 1)))) ++ (zNL (w + 3))) (s + 2 + 16 + 2 + 16))) rfl rfl rfl (k_1 (hL_len hw rfl)) ?_
  rw [hL_mid]
  show Go 34 23 [(0, .ref w)] [.ref (w + 3), .ref w] (hL h0 (L ++ (.inr (7, [.ref (w + 1), .null, .null]) : mx_C) :: (([] ++ (zNL (w + 1))) ++ (zNL (w + 3)))) (s + 2 + 16 + 2 + 16)) _
  refine go_putf rfl (hL_getX hw) (Nat.le_of_ble_eq_true rfl) rfl rfl ?_
  rw [hL_setX hw]
  show Go 34 26 [(0, .ref w)] [] (hL h0 (L ++ (.inr (7, [.ref (w + 1), .ref (w + 3), .null]) : mx_C) :: (([] ++ (zNL (w + 1))) ++ (zNL (w + 3)))) (s + 2 + 16 + 2 + 16)) _
  refine mx_to.steps 1 rfl ?_
  refine go_new rfl ?_
  show Go 34 30 [(0, .ref w)] [.ref (h0.1 + (L ++ (.inr (7, [.ref (w + 1), .ref (w + 3), .null]) : mx_C) :: (([] ++ (zNL (w + 1))) ++ (zNL (w + 3)))).length), .ref w] (mx_push (hL h0 (L ++ (.inr (7, [.ref (w + 1), .ref (w + 3), .null]) : mx_C) :: (([] ++ (zNL (w + 1))) ++ (zNL (w + 3)))) (s + 2 + 16 + 2 + 16)) 2 (.inr (6, [.null, .int 0]))) _
  rw [hL_push, hL_len (n := 5) hw rfl]
  refine mx_to.steps 1 rfl ?_
  refine go_call (q := (none, hL h0 ((L ++ (.inr (7, [.ref (w + 1), .ref (w + 3), .null]) : mx_C) :: (([] ++ (zNL (w + 1))) ++ (zNL (w + 3)))) ++ (zNL (w + 5))) (s + 2 + 16 + 2 + 16 + 2 + 16))) rfl rfl rfl (k_1 (hL_len hw rfl)) ?_
  rw [hL_mid]
  show Go 34 34 [(0, .ref w)] [.ref (w + 5), .ref w] (hL h0 (L ++ (.inr (7, [.ref (w + 1), .ref (w + 3), .null]) : mx_C) :: ((([] ++ (zNL (w + 1))) ++ (zNL (w + 3))) ++ (zNL (w + 5)))) (s + 2 + 16 + 2 + 16 + 2 + 16)) _
  refine go_putf rfl (hL_getX hw) (Nat.le_of_ble_eq_true rfl) rfl rfl ?_
  rw [hL_setX hw]
  show Go 34 37 [(0, .ref w)] [] (hL h0 (L ++ (.inr (7, [.ref (w + 1), .ref (w + 3), .ref (w + 5)]) : mx_C) :: ((([] ++ (zNL (w + 1))) ++ (zNL (w + 3))) ++ (zNL (w + 5)))) (s + 2 + 16 + 2 + 16 + 2 + 16)) _
  show Go 34 37 [(0, .ref w)] [] (hL h0 (L ++ (.inr (7, [.ref (w + 1), .ref (w + 3), .ref (w + 5)]) : mx_C) :: ((([] ++ (zNL (w + 1))) ++ (zNL (w + 3))) ++ (zNL (w + 5)))) (s + 2 + 16 + 2 + 16 + 2 + 16)) _
  exact go_ret rfl rfl
abbrev zYL (w : Nat) : List mx_C := (.inr (5, [.ref (w + 1), .ref (w + 2)])) :: (([] ++ [aZ false 16]) ++ [aZ false 64])
theorem k_17 (hw : h0.1 + L.length = w) : Go 17 0 [(0, .ref w)] [] (hL h0 (L ++ [.inr (5, [.null, .null])]) s) (none, hL h0 (L ++ zYL w) (s + 80)) := by
  refine mx_to.steps 4 rfl ?_
  refine go_newa rfl (by decide) (by decide) ?_
  show Go 17 9 [(0, .ref w)] [.ref (h0.1 + (L ++ (.inr (5, [.null, .null]) : mx_C) :: []).length), .ref w] (mx_push (hL h0 (L ++ (.inr (5, [.null, .null]) : mx_C) :: []) (s)) 16 (aZ false 16)) _
  rw [hL_push, hL_len (n := 1) hw rfl, hL_mid]
  show Go 17 9 [(0, .ref w)] [.ref (w + 1), .ref w] (hL h0 (L ++ (.inr (5, [.null, .null]) : mx_C) :: ([] ++ [aZ false 16])) (s + 16)) _
  refine go_putf rfl (hL_getX hw) (Nat.le_of_ble_eq_true rfl) rfl rfl ?_
  rw [hL_setX hw]
  show Go 17 12 [(0, .ref w)] [] (hL h0 (L ++ (.inr (5, [.ref (w + 1), .null]) : mx_C) :: ([] ++ [aZ false 16])) (s + 16)) _
  refine mx_to.steps 2 rfl ?_
  refine go_newa rfl (by decide) (by decide) ?_
  show Go 17 17 [(0, .ref w)] [.ref (h0.1 + (L ++ (.inr (5, [.ref (w + 1), .null]) : mx_C) :: ([] ++ [aZ false 16])).length), .ref w] (mx_push (hL h0 (L ++ (.inr (5, [.ref (w + 1), .null]) : mx_C) :: ([] ++ [aZ false 16])) (s + 16)) 64 (aZ false 64)) _
  rw [hL_push, hL_len (n := 2) hw rfl, hL_mid]
  show Go 17 17 [(0, .ref w)] [.ref (w + 2), .ref w] (hL h0 (L ++ (.inr (5, [.ref (w + 1), .null]) : mx_C) :: (([] ++ [aZ false 16]) ++ [aZ false 64])) (s + 16 + 64)) _
  refine go_putf rfl (hL_getX hw) (Nat.le_of_ble_eq_true rfl) rfl rfl ?_
  rw [hL_setX hw]
  show Go 17 20 [(0, .ref w)] [] (hL h0 (L ++ (.inr (5, [.ref (w + 1), .ref (w + 2)]) : mx_C) :: (([] ++ [aZ false 16]) ++ [aZ false 64])) (s + 16 + 64)) _
  show Go 17 20 [(0, .ref w)] [] (hL h0 (L ++ (.inr (5, [.ref (w + 1), .ref (w + 2)]) : mx_C) :: (([] ++ [aZ false 16]) ++ [aZ false 64])) (s + 16 + 64)) _
  exact go_ret rfl rfl
abbrev zAL (w me : Nat) : List mx_C := (.inr (4, [.ref me, .ref (w + 1), .int 0, .int 0, .int 0, .int 0, .int 0, .int 0])) :: ([] ++ (zNL (w + 1)))
theorem k_40 {me : Nat} {r : Option Value × mx_H} (hw : h0.1 + L.length = w) (go : Go 40 27 [(0, .ref w), (1, .ref me)] [.int 0, .int 60, .ref (w + 1)] (hL h0 (L ++ zAL w me) (s + 18)) r) : Go 40 0 [(0, .ref w), (1, .ref me)] [] (hL h0 (L ++ [.inr (4, [.null, .null, .int 0, .int 0, .int 0, .int 0, .int 0, .int 0])]) s) r := by
  refine mx_to.steps 3 rfl ?_
  refine go_new rfl ?_
  show Go 40 8 [(0, .ref w), (1, .ref me)] [.ref (h0.1 + (L ++ (.inr (4, [.null, .null, .int 0, .int 0, .int 0, .int 0, .int 0, .int 0]) : mx_C) :: []).length), .ref w] (mx_push (hL h0 (L ++ (.inr (4, [.null, .null, .int 0, .int 0, .int 0, .int 0, .int 0, .int 0]) : mx_C) :: []) (s)) 2 (.inr (6, [.null, .int 0]))) _
  rw [hL_push, hL_len (n := 1) hw rfl]
  refine mx_to.steps 1 rfl ?_
  refine go_call (q := (none, hL h0 ((L ++ (.inr (4, [.null, .null, .int 0, .int 0, .int 0, .int 0, .int 0, .int 0]) : mx_C) :: []) ++ (zNL (w + 1))) (s + 2 + 16))) rfl rfl rfl (k_1 (hL_len hw rfl)) ?_
  rw [hL_mid]
  show Go 40 12 [(0, .ref w), (1, .ref me)] [.ref (w + 1), .ref w] (hL h0 (L ++ (.inr (4, [.null, .null, .int 0, .int 0, .int 0, .int 0, .int 0, .int 0]) : mx_C) :: ([] ++ (zNL (w + 1)))) (s + 2 + 16)) _
  refine go_putf rfl (hL_getX hw) (Nat.le_of_ble_eq_true rfl) rfl rfl ?_
  rw [hL_setX hw]
  show Go 40 15 [(0, .ref w), (1, .ref me)] [] (hL h0 (L ++ (.inr (4, [.null, .ref (w + 1), .int 0, .int 0, .int 0, .int 0, .int 0, .int 0]) : mx_C) :: ([] ++ (zNL (w + 1)))) (s + 2 + 16)) _
  refine mx_to.steps 2 rfl ?_
  refine go_putf rfl (hL_getX hw) (Nat.le_of_ble_eq_true rfl) rfl rfl ?_
  rw [hL_setX hw]
  show Go 40 20 [(0, .ref w), (1, .ref me)] [] (hL h0 (L ++ (.inr (4, [.ref me, .ref (w + 1), .int 0, .int 0, .int 0, .int 0, .int 0, .int 0]) : mx_C) :: ([] ++ (zNL (w + 1)))) (s + 2 + 16)) _
  refine mx_to.steps 1 rfl ?_
  refine go_getf (fs := [.ref me, .ref (w + 1), .int 0, .int 0, .int 0, .int 0, .int 0, .int 0]) rfl (by first | exact hL_getX hw | (rw [hL_mid]; exact hL_getX hw)) rfl ?_
  refine mx_to.steps 2 rfl ?_
  show Go 40 27 [(0, .ref w), (1, .ref me)] [.int 0, .int 60, .ref (w + 1)] (hL h0 (L ++ (.inr (4, [.ref me, .ref (w + 1), .int 0, .int 0, .int 0, .int 0, .int 0, .int 0]) : mx_C) :: ([] ++ (zNL (w + 1)))) (s + 2 + 16)) _
  exact go
abbrev zRL (w : Nat) : List mx_C := (.inr (9, [.ref (w + 1), .ref (w + 6), .ref (w + 15), .ref (w + 30), .ref (w + 37), .ref (w + 44), .null, .int 0])) :: (((((([] ++ (zCL (w + 1))) ++ (zJL (w + 6) (w + 1))) ++ (zIL (w + 15))) ++ (zTL (w + 30))) ++ (zGL (w + 37))) ++ (zYL (w + 44)))
theorem k_103 {r : Option Value × mx_H} (hw : h0.1 + L.length = w) (go : Go 103 83 [(0, .ref w)] [.ref (w + 44), .ref (w + 47), .ref (w + 47), .ref w] (hL h0 ((L ++ zRL w) ++ [.inr (4, [.null, .null, .int 0, .int 0, .int 0, .int 0, .int 0, .int 0])]) (s + 439)) r) : Go 103 0 [(0, .ref w)] [] (hL h0 (L ++ [.inr (9, [.null, .null, .null, .null, .null, .null, .null, .int 0])]) s) r := by
  refine mx_to.steps 3 rfl ?_
  refine go_new rfl ?_
  show Go 103 8 [(0, .ref w)] [.ref (h0.1 + (L ++ (.inr (9, [.null, .null, .null, .null, .null, .null, .null, .int 0]) : mx_C) :: []).length), .ref w] (mx_push (hL h0 (L ++ (.inr (9, [.null, .null, .null, .null, .null, .null, .null, .int 0]) : mx_C) :: []) (s)) 2 (.inr (1, [.null, .null]))) _
  rw [hL_push, hL_len (n := 1) hw rfl]
  refine mx_to.steps 1 rfl ?_
  refine go_call (q := (none, hL h0 ((L ++ (.inr (9, [.null, .null, .null, .null, .null, .null, .null, .int 0]) : mx_C) :: []) ++ (zCL (w + 1))) (s + 2 + 36))) rfl rfl rfl (k_24 (hL_len hw rfl)) ?_
  rw [hL_mid]
  show Go 103 12 [(0, .ref w)] [.ref (w + 1), .ref w] (hL h0 (L ++ (.inr (9, [.null, .null, .null, .null, .null, .null, .null, .int 0]) : mx_C) :: ([] ++ (zCL (w + 1)))) (s + 2 + 36)) _
  refine go_putf rfl (hL_getX hw) (Nat.le_of_ble_eq_true rfl) rfl rfl ?_
  rw [hL_setX hw]
  show Go 103 15 [(0, .ref w)] [] (hL h0 (L ++ (.inr (9, [.ref (w + 1), .null, .null, .null, .null, .null, .null, .int 0]) : mx_C) :: ([] ++ (zCL (w + 1)))) (s + 2 + 36)) _
  refine mx_to.steps 1 rfl ?_
  refine go_new rfl ?_
  show Go 103 19 [(0, .ref w)] [.ref (h0.1 + (L ++ (.inr (9, [.ref (w + 1), .null, .null, .null, .null, .null, .null, .int 0]) : mx_C) :: ([] ++ (zCL (w + 1)))).length), .ref w] (mx_push (hL h0 (L ++ (.inr (9, [.ref (w + 1), .null, .null, .null, .null, .null, .null, .int 0]) : mx_C) :: ([] ++ (zCL (w + 1)))) (s + 2 + 36)) 7 (.inr (3, [.null, .null, .null, .null, .null, .int 0, .int 0]))) _
  rw [hL_push, hL_len (n := 6) hw rfl]
  refine mx_to.steps 2 rfl ?_
  refine go_getf (fs := [.ref (w + 1), .null, .null, .null, .null, .null, .null, .int 0]) rfl (by first | exact hL_getX hw | (rw [hL_mid]; exact hL_getX hw)) rfl ?_
  refine go_call (q := (none, hL h0 ((L ++ (.inr (9, [.ref (w + 1), .null, .null, .null, .null, .null, .null, .int 0]) : mx_C) :: ([] ++ (zCL (w + 1)))) ++ (zJL (w + 6) (w + 1))) (s + 2 + 36 + 7 + 72))) rfl rfl rfl (k_54 (hL_len hw rfl)) ?_
  rw [hL_mid]
  show Go 103 27 [(0, .ref w)] [.ref (w + 6), .ref w] (hL h0 (L ++ (.inr (9, [.ref (w + 1), .null, .null, .null, .null, .null, .null, .int 0]) : mx_C) :: (([] ++ (zCL (w + 1))) ++ (zJL (w + 6) (w + 1)))) (s + 2 + 36 + 7 + 72)) _
  refine go_putf rfl (hL_getX hw) (Nat.le_of_ble_eq_true rfl) rfl rfl ?_
  rw [hL_setX hw]
  show Go 103 30 [(0, .ref w)] [] (hL h0 (L ++ (.inr (9, [.ref (w + 1), .ref (w + 6), .null, .null, .null, .null, .null, .int 0]) : mx_C) :: (([] ++ (zCL (w + 1))) ++ (zJL (w + 6) (w + 1)))) (s + 2 + 36 + 7 + 72)) _
  refine mx_to.steps 1 rfl ?_
  refine go_new rfl ?_
  show Go 103 34 [(0, .ref w)] [.ref (h0.1 + (L ++ (.inr (9, [.ref (w + 1), .ref (w + 6), .null, .null, .null, .null, .null, .int 0]) : mx_C) :: (([] ++ (zCL (w + 1))) ++ (zJL (w + 6) (w + 1)))).length), .ref w] (mx_push (hL h0 (L ++ (.inr (9, [.ref (w + 1), .ref (w + 6), .null, .null, .null, .null, .null, .int 0]) : mx_C) :: (([] ++ (zCL (w + 1))) ++ (zJL (w + 6) (w + 1)))) (s + 2 + 36 + 7 + 72)) 4 (.inr (2, [.null, .null, .null, .null]))) _
  rw [hL_push, hL_len (n := 15) hw rfl]
  refine mx_to.steps 1 rfl ?_
  refine go_call (q := (none, hL h0 ((L ++ (.inr (9, [.ref (w + 1), .ref (w + 6), .null, .null, .null, .null, .null, .int 0]) : mx_C) :: (([] ++ (zCL (w + 1))) ++ (zJL (w + 6) (w + 1)))) ++ (zIL (w + 15))) (s + 2 + 36 + 7 + 72 + 4 + 112))) rfl rfl rfl (k_71 (hL_len hw rfl)) ?_
  rw [hL_mid]
  show Go 103 38 [(0, .ref w)] [.ref (w + 15), .ref w] (hL h0 (L ++ (.inr (9, [.ref (w + 1), .ref (w + 6), .null, .null, .null, .null, .null, .int 0]) : mx_C) :: ((([] ++ (zCL (w + 1))) ++ (zJL (w + 6) (w + 1))) ++ (zIL (w + 15)))) (s + 2 + 36 + 7 + 72 + 4 + 112)) _
  refine go_putf rfl (hL_getX hw) (Nat.le_of_ble_eq_true rfl) rfl rfl ?_
  rw [hL_setX hw]
  show Go 103 41 [(0, .ref w)] [] (hL h0 (L ++ (.inr (9, [.ref (w + 1), .ref (w + 6), .ref (w + 15), .null, .null, .null, .null, .int 0]) : mx_C) :: ((([] ++ (zCL (w + 1))) ++ (zJL (w + 6) (w + 1))) ++ (zIL (w + 15)))) (s + 2 + 36 + 7 + 72 + 4 + 112)) _
  refine mx_to.steps 1 rfl ?_
  refine go_new rfl ?_
  show Go 103 45 [(0, .ref w)] [.ref (h0.1 + (L ++ (.inr (9, [.ref (w + 1), .ref (w + 6), .ref (w + 15), .null, .null, .null, .null, .int 0]) : mx_C) :: ((([] ++ (zCL (w + 1))) ++ (zJL (w + 6) (w + 1))) ++ (zIL (w + 15)))).length), .ref w] (mx_push (hL h0 (L ++ (.inr (9, [.ref (w + 1), .ref (w + 6), .ref (w + 15), .null, .null, .null, .null, .int 0]) : mx_C) :: ((([] ++ (zCL (w + 1))) ++ (zJL (w + 6) (w + 1))) ++ (zIL (w + 15)))) (s + 2 + 36 + 7 + 72 + 4 + 112)) 5 (.inr (8, [.null, .null, .null, .int 0, .int 0]))) _
  rw [hL_push, hL_len (n := 30) hw rfl]
  refine mx_to.steps 1 rfl ?_
  refine go_call (q := (none, hL h0 ((L ++ (.inr (9, [.ref (w + 1), .ref (w + 6), .ref (w + 15), .null, .null, .null, .null, .int 0]) : mx_C) :: ((([] ++ (zCL (w + 1))) ++ (zJL (w + 6) (w + 1))) ++ (zIL (w + 15)))) ++ (zTL (w + 30))) (s + 2 + 36 + 7 + 72 + 4 + 112 + 5 + 54))) rfl rfl rfl (k_86 (hL_len hw rfl)) ?_
  rw [hL_mid]
  show Go 103 49 [(0, .ref w)] [.ref (w + 30), .ref w] (hL h0 (L ++ (.inr (9, [.ref (w + 1), .ref (w + 6), .ref (w + 15), .null, .null, .null, .null, .int 0]) : mx_C) :: (((([] ++ (zCL (w + 1))) ++ (zJL (w + 6) (w + 1))) ++ (zIL (w + 15))) ++ (zTL (w + 30)))) (s + 2 + 36 + 7 + 72 + 4 + 112 + 5 + 54)) _
  refine go_putf rfl (hL_getX hw) (Nat.le_of_ble_eq_true rfl) rfl rfl ?_
  rw [hL_setX hw]
  show Go 103 52 [(0, .ref w)] [] (hL h0 (L ++ (.inr (9, [.ref (w + 1), .ref (w + 6), .ref (w + 15), .ref (w + 30), .null, .null, .null, .int 0]) : mx_C) :: (((([] ++ (zCL (w + 1))) ++ (zJL (w + 6) (w + 1))) ++ (zIL (w + 15))) ++ (zTL (w + 30)))) (s + 2 + 36 + 7 + 72 + 4 + 112 + 5 + 54)) _
  refine mx_to.steps 1 rfl ?_
  refine go_new rfl ?_
  show Go 103 56 [(0, .ref w)] [.ref (h0.1 + (L ++ (.inr (9, [.ref (w + 1), .ref (w + 6), .ref (w + 15), .ref (w + 30), .null, .null, .null, .int 0]) : mx_C) :: (((([] ++ (zCL (w + 1))) ++ (zJL (w + 6) (w + 1))) ++ (zIL (w + 15))) ++ (zTL (w + 30)))).length), .ref w] (mx_push (hL h0 (L ++ (.inr (9, [.ref (w + 1), .ref (w + 6), .ref (w + 15), .ref (w + 30), .null, .null, .null, .int 0]) : mx_C) :: (((([] ++ (zCL (w + 1))) ++ (zJL (w + 6) (w + 1))) ++ (zIL (w + 15))) ++ (zTL (w + 30)))) (s + 2 + 36 + 7 + 72 + 4 + 112 + 5 + 54)) 3 (.inr (7, [.null, .null, .null]))) _
  rw [hL_push, hL_len (n := 37) hw rfl]
  refine mx_to.steps 1 rfl ?_
  refine go_call (q := (none, hL h0 ((L ++ (.inr (9, [.ref (w + 1), .ref (w + 6), .ref (w + 15), .ref (w + 30), .null, .null, .null, .int 0]) : mx_C) :: (((([] ++ (zCL (w + 1))) ++ (zJL (w + 6) (w + 1))) ++ (zIL (w + 15))) ++ (zTL (w + 30)))) ++ (zGL (w + 37))) (s + 2 + 36 + 7 + 72 + 4 + 112 + 5 + 54 + 3 + 54))) rfl rfl rfl (k_34 (hL_len hw rfl)) ?_
  rw [hL_mid]
  show Go 103 60 [(0, .ref w)] [.ref (w + 37), .ref w] (hL h0 (L ++ (.inr (9, [.ref (w + 1), .ref (w + 6), .ref (w + 15), .ref (w + 30), .null, .null, .null, .int 0]) : mx_C) :: ((((([] ++ (zCL (w + 1))) ++ (zJL (w + 6) (w + 1))) ++ (zIL (w + 15))) ++ (zTL (w + 30))) ++ (zGL (w + 37)))) (s + 2 + 36 + 7 + 72 + 4 + 112 + 5 + 54 + 3 + 54)) _
  refine go_putf rfl (hL_getX hw) (Nat.le_of_ble_eq_true rfl) rfl rfl ?_
  rw [hL_setX hw]
  show Go 103 63 [(0, .ref w)] [] (hL h0 (L ++ (.inr (9, [.ref (w + 1), .ref (w + 6), .ref (w + 15), .ref (w + 30), .ref (w + 37), .null, .null, .int 0]) : mx_C) :: ((((([] ++ (zCL (w + 1))) ++ (zJL (w + 6) (w + 1))) ++ (zIL (w + 15))) ++ (zTL (w + 30))) ++ (zGL (w + 37)))) (s + 2 + 36 + 7 + 72 + 4 + 112 + 5 + 54 + 3 + 54)) _
  refine mx_to.steps 1 rfl ?_
  refine go_new rfl ?_
  show Go 103 67 [(0, .ref w)] [.ref (h0.1 + (L ++ (.inr (9, [.ref (w + 1), .ref (w + 6), .ref (w + 15), .ref (w + 30), .ref (w + 37), .null, .null, .int 0]) : mx_C) :: ((((([] ++ (zCL (w + 1))) ++ (zJL (w + 6) (w + 1))) ++ (zIL (w + 15))) ++ (zTL (w + 30))) ++ (zGL (w + 37)))).length), .ref w] (mx_push (hL h0 (L ++ (.inr (9, [.ref (w + 1), .ref (w + 6), .ref (w + 15), .ref (w + 30), .ref (w + 37), .null, .null, .int 0]) : mx_C) :: ((((([] ++ (zCL (w + 1))) ++ (zJL (w + 6) (w + 1))) ++ (zIL (w + 15))) ++ (zTL (w + 30))) ++ (zGL (w + 37)))) (s + 2 + 36 + 7 + 72 + 4 + 112 + 5 + 54 + 3 + 54)) 2 (.inr (5, [.null, .null]))) _
  rw [hL_push, hL_len (n := 44) hw rfl]
  refine mx_to.steps 1 rfl ?_
  refine go_call (q := (none, hL h0 ((L ++ (.inr (9, [.ref (w + 1), .ref (w + 6), .ref (w + 15), .ref (w + 30), .ref (w + 37), .null, .null, .int 0]) : mx_C) :: ((((([] ++ (zCL (w + 1))) ++ (zJL (w + 6) (w + 1))) ++ (zIL (w + 15))) ++ (zTL (w + 30))) ++ (zGL (w + 37)))) ++ (zYL (w + 44))) (s + 2 + 36 + 7 + 72 + 4 + 112 + 5 + 54 + 3 + 54 + 2 + 80))) rfl rfl rfl (k_17 (hL_len hw rfl)) ?_
  rw [hL_mid]
  show Go 103 71 [(0, .ref w)] [.ref (w + 44), .ref w] (hL h0 (L ++ (.inr (9, [.ref (w + 1), .ref (w + 6), .ref (w + 15), .ref (w + 30), .ref (w + 37), .null, .null, .int 0]) : mx_C) :: (((((([] ++ (zCL (w + 1))) ++ (zJL (w + 6) (w + 1))) ++ (zIL (w + 15))) ++ (zTL (w + 30))) ++ (zGL (w + 37))) ++ (zYL (w + 44)))) (s + 2 + 36 + 7 + 72 + 4 + 112 + 5 + 54 + 3 + 54 + 2 + 80)) _
  refine go_putf rfl (hL_getX hw) (Nat.le_of_ble_eq_true rfl) rfl rfl ?_
  rw [hL_setX hw]
  show Go 103 74 [(0, .ref w)] [] (hL h0 (L ++ (.inr (9, [.ref (w + 1), .ref (w + 6), .ref (w + 15), .ref (w + 30), .ref (w + 37), .ref (w + 44), .null, .int 0]) : mx_C) :: (((((([] ++ (zCL (w + 1))) ++ (zJL (w + 6) (w + 1))) ++ (zIL (w + 15))) ++ (zTL (w + 30))) ++ (zGL (w + 37))) ++ (zYL (w + 44)))) (s + 2 + 36 + 7 + 72 + 4 + 112 + 5 + 54 + 3 + 54 + 2 + 80)) _
  refine mx_to.steps 1 rfl ?_
  refine go_new rfl ?_
  show Go 103 78 [(0, .ref w)] [.ref (h0.1 + (L ++ (.inr (9, [.ref (w + 1), .ref (w + 6), .ref (w + 15), .ref (w + 30), .ref (w + 37), .ref (w + 44), .null, .int 0]) : mx_C) :: (((((([] ++ (zCL (w + 1))) ++ (zJL (w + 6) (w + 1))) ++ (zIL (w + 15))) ++ (zTL (w + 30))) ++ (zGL (w + 37))) ++ (zYL (w + 44)))).length), .ref w] (mx_push (hL h0 (L ++ (.inr (9, [.ref (w + 1), .ref (w + 6), .ref (w + 15), .ref (w + 30), .ref (w + 37), .ref (w + 44), .null, .int 0]) : mx_C) :: (((((([] ++ (zCL (w + 1))) ++ (zJL (w + 6) (w + 1))) ++ (zIL (w + 15))) ++ (zTL (w + 30))) ++ (zGL (w + 37))) ++ (zYL (w + 44)))) (s + 2 + 36 + 7 + 72 + 4 + 112 + 5 + 54 + 3 + 54 + 2 + 80)) 8 (.inr (4, [.null, .null, .int 0, .int 0, .int 0, .int 0, .int 0, .int 0]))) _
  rw [hL_push, hL_len (n := 47) hw rfl]
  refine mx_to.steps 2 rfl ?_
  refine go_getf (fs := [.ref (w + 1), .ref (w + 6), .ref (w + 15), .ref (w + 30), .ref (w + 37), .ref (w + 44), .null, .int 0]) rfl (by first | exact hL_getX hw | (rw [hL_mid]; exact hL_getX hw)) rfl ?_
  exact go
abbrev zVL (w : Nat) : List mx_C := (.inr (10, [.int 0, .int 0, .ref (w + 1), .ref (w + 2), .ref (w + 3), .ref (w + 4), .int 0, .int 0, .ref (w + 5), .ref (w + 6), .ref (w + 7), .int 0])) :: ((((((([] ++ [aZ false 400]) ++ [aZ false 400]) ++ [aZ false 16]) ++ [aZ false 64]) ++ [aZ false 400]) ++ [aZ true 400]) ++ [aZ false 61])
theorem k_116 (hw : h0.1 + L.length = w) : Go 116 0 [(0, .ref w)] [] (hL h0 (L ++ [.inr (10, [.int 0, .int 0, .null, .null, .null, .null, .int 0, .int 0, .null, .null, .null, .int 0])]) s) (none, hL h0 (L ++ zVL w) (s + 1741)) := by
  refine mx_to.steps 4 rfl ?_
  refine go_newa rfl (by decide) (by decide) ?_
  show Go 116 10 [(0, .ref w)] [.ref (h0.1 + (L ++ (.inr (10, [.int 0, .int 0, .null, .null, .null, .null, .int 0, .int 0, .null, .null, .null, .int 0]) : mx_C) :: []).length), .ref w] (mx_push (hL h0 (L ++ (.inr (10, [.int 0, .int 0, .null, .null, .null, .null, .int 0, .int 0, .null, .null, .null, .int 0]) : mx_C) :: []) (s)) 400 (aZ false 400)) _
  rw [hL_push, hL_len (n := 1) hw rfl, hL_mid]
  show Go 116 10 [(0, .ref w)] [.ref (w + 1), .ref w] (hL h0 (L ++ (.inr (10, [.int 0, .int 0, .null, .null, .null, .null, .int 0, .int 0, .null, .null, .null, .int 0]) : mx_C) :: ([] ++ [aZ false 400])) (s + 400)) _
  refine go_putf rfl (hL_getX hw) (Nat.le_of_ble_eq_true rfl) rfl rfl ?_
  rw [hL_setX hw]
  show Go 116 13 [(0, .ref w)] [] (hL h0 (L ++ (.inr (10, [.int 0, .int 0, .ref (w + 1), .null, .null, .null, .int 0, .int 0, .null, .null, .null, .int 0]) : mx_C) :: ([] ++ [aZ false 400])) (s + 400)) _
  refine mx_to.steps 2 rfl ?_
  refine go_newa rfl (by decide) (by decide) ?_
  show Go 116 19 [(0, .ref w)] [.ref (h0.1 + (L ++ (.inr (10, [.int 0, .int 0, .ref (w + 1), .null, .null, .null, .int 0, .int 0, .null, .null, .null, .int 0]) : mx_C) :: ([] ++ [aZ false 400])).length), .ref w] (mx_push (hL h0 (L ++ (.inr (10, [.int 0, .int 0, .ref (w + 1), .null, .null, .null, .int 0, .int 0, .null, .null, .null, .int 0]) : mx_C) :: ([] ++ [aZ false 400])) (s + 400)) 400 (aZ false 400)) _
  rw [hL_push, hL_len (n := 2) hw rfl, hL_mid]
  show Go 116 19 [(0, .ref w)] [.ref (w + 2), .ref w] (hL h0 (L ++ (.inr (10, [.int 0, .int 0, .ref (w + 1), .null, .null, .null, .int 0, .int 0, .null, .null, .null, .int 0]) : mx_C) :: (([] ++ [aZ false 400]) ++ [aZ false 400])) (s + 400 + 400)) _
  refine go_putf rfl (hL_getX hw) (Nat.le_of_ble_eq_true rfl) rfl rfl ?_
  rw [hL_setX hw]
  show Go 116 22 [(0, .ref w)] [] (hL h0 (L ++ (.inr (10, [.int 0, .int 0, .ref (w + 1), .ref (w + 2), .null, .null, .int 0, .int 0, .null, .null, .null, .int 0]) : mx_C) :: (([] ++ [aZ false 400]) ++ [aZ false 400])) (s + 400 + 400)) _
  refine mx_to.steps 2 rfl ?_
  refine go_newa rfl (by decide) (by decide) ?_
  show Go 116 27 [(0, .ref w)] [.ref (h0.1 + (L ++ (.inr (10, [.int 0, .int 0, .ref (w + 1), .ref (w + 2), .null, .null, .int 0, .int 0, .null, .null, .null, .int 0]) : mx_C) :: (([] ++ [aZ false 400]) ++ [aZ false 400])).length), .ref w] (mx_push (hL h0 (L ++ (.inr (10, [.int 0, .int 0, .ref (w + 1), .ref (w + 2), .null, .null, .int 0, .int 0, .null, .null, .null, .int 0]) : mx_C) :: (([] ++ [aZ false 400]) ++ [aZ false 400])) (s + 400 + 400)) 16 (aZ false 16)) _
  rw [hL_push, hL_len (n := 3) hw rfl, hL_mid]
  show Go 116 27 [(0, .ref w)] [.ref (w + 3), .ref w] (hL h0 (L ++ (.inr (10, [.int 0, .int 0, .ref (w + 1), .ref (w + 2), .null, .null, .int 0, .int 0, .null, .null, .null, .int 0]) : mx_C) :: ((([] ++ [aZ false 400]) ++ [aZ false 400]) ++ [aZ false 16])) (s + 400 + 400 + 16)) _
  refine go_putf rfl (hL_getX hw) (Nat.le_of_ble_eq_true rfl) rfl rfl ?_
  rw [hL_setX hw]
  show Go 116 30 [(0, .ref w)] [] (hL h0 (L ++ (.inr (10, [.int 0, .int 0, .ref (w + 1), .ref (w + 2), .ref (w + 3), .null, .int 0, .int 0, .null, .null, .null, .int 0]) : mx_C) :: ((([] ++ [aZ false 400]) ++ [aZ false 400]) ++ [aZ false 16])) (s + 400 + 400 + 16)) _
  refine mx_to.steps 2 rfl ?_
  refine go_newa rfl (by decide) (by decide) ?_
  show Go 116 35 [(0, .ref w)] [.ref (h0.1 + (L ++ (.inr (10, [.int 0, .int 0, .ref (w + 1), .ref (w + 2), .ref (w + 3), .null, .int 0, .int 0, .null, .null, .null, .int 0]) : mx_C) :: ((([] ++ [aZ false 400]) ++ [aZ false 400]) ++ [aZ false 16])).length), .ref w] (mx_push (hL h0 (L ++ (.inr (10, [.int 0, .int 0, .ref (w + 1), .ref (w + 2), .ref (w + 3), .null, .int 0, .int 0, .null, .null, .null, .int 0]) : mx_C) :: ((([] ++ [aZ false 400]) ++ [aZ false 400]) ++ [aZ false 16])) (s + 400 + 400 + 16)) 64 (aZ false 64)) _
  rw [hL_push, hL_len (n := 4) hw rfl, hL_mid]
  show Go 116 35 [(0, .ref w)] [.ref (w + 4), .ref w] (hL h0 (L ++ (.inr (10, [.int 0, .int 0, .ref (w + 1), .ref (w + 2), .ref (w + 3), .null, .int 0, .int 0, .null, .null, .null, .int 0]) : mx_C) :: (((([] ++ [aZ false 400]) ++ [aZ false 400]) ++ [aZ false 16]) ++ [aZ false 64])) (s + 400 + 400 + 16 + 64)) _
  refine go_putf rfl (hL_getX hw) (Nat.le_of_ble_eq_true rfl) rfl rfl ?_
  rw [hL_setX hw]
  show Go 116 38 [(0, .ref w)] [] (hL h0 (L ++ (.inr (10, [.int 0, .int 0, .ref (w + 1), .ref (w + 2), .ref (w + 3), .ref (w + 4), .int 0, .int 0, .null, .null, .null, .int 0]) : mx_C) :: (((([] ++ [aZ false 400]) ++ [aZ false 400]) ++ [aZ false 16]) ++ [aZ false 64])) (s + 400 + 400 + 16 + 64)) _
  refine mx_to.steps 2 rfl ?_
  refine go_newa rfl (by decide) (by decide) ?_
  show Go 116 44 [(0, .ref w)] [.ref (h0.1 + (L ++ (.inr (10, [.int 0, .int 0, .ref (w + 1), .ref (w + 2), .ref (w + 3), .ref (w + 4), .int 0, .int 0, .null, .null, .null, .int 0]) : mx_C) :: (((([] ++ [aZ false 400]) ++ [aZ false 400]) ++ [aZ false 16]) ++ [aZ false 64])).length), .ref w] (mx_push (hL h0 (L ++ (.inr (10, [.int 0, .int 0, .ref (w + 1), .ref (w + 2), .ref (w + 3), .ref (w + 4), .int 0, .int 0, .null, .null, .null, .int 0]) : mx_C) :: (((([] ++ [aZ false 400]) ++ [aZ false 400]) ++ [aZ false 16]) ++ [aZ false 64])) (s + 400 + 400 + 16 + 64)) 400 (aZ false 400)) _
  rw [hL_push, hL_len (n := 5) hw rfl, hL_mid]
  show Go 116 44 [(0, .ref w)] [.ref (w + 5), .ref w] (hL h0 (L ++ (.inr (10, [.int 0, .int 0, .ref (w + 1), .ref (w + 2), .ref (w + 3), .ref (w + 4), .int 0, .int 0, .null, .null, .null, .int 0]) : mx_C) :: ((((([] ++ [aZ false 400]) ++ [aZ false 400]) ++ [aZ false 16]) ++ [aZ false 64]) ++ [aZ false 400])) (s + 400 + 400 + 16 + 64 + 400)) _
  refine go_putf rfl (hL_getX hw) (Nat.le_of_ble_eq_true rfl) rfl rfl ?_
  rw [hL_setX hw]
  show Go 116 47 [(0, .ref w)] [] (hL h0 (L ++ (.inr (10, [.int 0, .int 0, .ref (w + 1), .ref (w + 2), .ref (w + 3), .ref (w + 4), .int 0, .int 0, .ref (w + 5), .null, .null, .int 0]) : mx_C) :: ((((([] ++ [aZ false 400]) ++ [aZ false 400]) ++ [aZ false 16]) ++ [aZ false 64]) ++ [aZ false 400])) (s + 400 + 400 + 16 + 64 + 400)) _
  refine mx_to.steps 2 rfl ?_
  refine go_newa rfl (by decide) (by decide) ?_
  show Go 116 53 [(0, .ref w)] [.ref (h0.1 + (L ++ (.inr (10, [.int 0, .int 0, .ref (w + 1), .ref (w + 2), .ref (w + 3), .ref (w + 4), .int 0, .int 0, .ref (w + 5), .null, .null, .int 0]) : mx_C) :: ((((([] ++ [aZ false 400]) ++ [aZ false 400]) ++ [aZ false 16]) ++ [aZ false 64]) ++ [aZ false 400])).length), .ref w] (mx_push (hL h0 (L ++ (.inr (10, [.int 0, .int 0, .ref (w + 1), .ref (w + 2), .ref (w + 3), .ref (w + 4), .int 0, .int 0, .ref (w + 5), .null, .null, .int 0]) : mx_C) :: ((((([] ++ [aZ false 400]) ++ [aZ false 400]) ++ [aZ false 16]) ++ [aZ false 64]) ++ [aZ false 400])) (s + 400 + 400 + 16 + 64 + 400)) 400 (aZ true 400)) _
  rw [hL_push, hL_len (n := 6) hw rfl, hL_mid]
  show Go 116 53 [(0, .ref w)] [.ref (w + 6), .ref w] (hL h0 (L ++ (.inr (10, [.int 0, .int 0, .ref (w + 1), .ref (w + 2), .ref (w + 3), .ref (w + 4), .int 0, .int 0, .ref (w + 5), .null, .null, .int 0]) : mx_C) :: (((((([] ++ [aZ false 400]) ++ [aZ false 400]) ++ [aZ false 16]) ++ [aZ false 64]) ++ [aZ false 400]) ++ [aZ true 400])) (s + 400 + 400 + 16 + 64 + 400 + 400)) _
  refine go_putf rfl (hL_getX hw) (Nat.le_of_ble_eq_true rfl) rfl rfl ?_
  rw [hL_setX hw]
  show Go 116 56 [(0, .ref w)] [] (hL h0 (L ++ (.inr (10, [.int 0, .int 0, .ref (w + 1), .ref (w + 2), .ref (w + 3), .ref (w + 4), .int 0, .int 0, .ref (w + 5), .ref (w + 6), .null, .int 0]) : mx_C) :: (((((([] ++ [aZ false 400]) ++ [aZ false 400]) ++ [aZ false 16]) ++ [aZ false 64]) ++ [aZ false 400]) ++ [aZ true 400])) (s + 400 + 400 + 16 + 64 + 400 + 400)) _
  refine mx_to.steps 2 rfl ?_
  refine go_newa rfl (by decide) (by decide) ?_
  show Go 116 61 [(0, .ref w)] [.ref (h0.1 + (L ++ (.inr (10, [.int 0, .int 0, .ref (w + 1), .ref (w + 2), .ref (w + 3), .ref (w + 4), .int 0, .int 0, .ref (w + 5), .ref (w + 6), .null, .int 0]) : mx_C) :: (((((([] ++ [aZ false 400]) ++ [aZ false 400]) ++ [aZ false 16]) ++ [aZ false 64]) ++ [aZ false 400]) ++ [aZ true 400])).length), .ref w] (mx_push (hL h0 (L ++ (.inr (10, [.int 0, .int 0, .ref (w + 1), .ref (w + 2), .ref (w + 3), .ref (w + 4), .int 0, .int 0, .ref (w + 5), .ref (w + 6), .null, .int 0]) : mx_C) :: (((((([] ++ [aZ false 400]) ++ [aZ false 400]) ++ [aZ false 16]) ++ [aZ false 64]) ++ [aZ false 400]) ++ [aZ true 400])) (s + 400 + 400 + 16 + 64 + 400 + 400)) 61 (aZ false 61)) _
  rw [hL_push, hL_len (n := 7) hw rfl, hL_mid]
  show Go 116 61 [(0, .ref w)] [.ref (w + 7), .ref w] (hL h0 (L ++ (.inr (10, [.int 0, .int 0, .ref (w + 1), .ref (w + 2), .ref (w + 3), .ref (w + 4), .int 0, .int 0, .ref (w + 5), .ref (w + 6), .null, .int 0]) : mx_C) :: ((((((([] ++ [aZ false 400]) ++ [aZ false 400]) ++ [aZ false 16]) ++ [aZ false 64]) ++ [aZ false 400]) ++ [aZ true 400]) ++ [aZ false 61])) (s + 400 + 400 + 16 + 64 + 400 + 400 + 61)) _
  refine go_putf rfl (hL_getX hw) (Nat.le_of_ble_eq_true rfl) rfl rfl ?_
  rw [hL_setX hw]
  show Go 116 64 [(0, .ref w)] [] (hL h0 (L ++ (.inr (10, [.int 0, .int 0, .ref (w + 1), .ref (w + 2), .ref (w + 3), .ref (w + 4), .int 0, .int 0, .ref (w + 5), .ref (w + 6), .ref (w + 7), .int 0]) : mx_C) :: ((((((([] ++ [aZ false 400]) ++ [aZ false 400]) ++ [aZ false 16]) ++ [aZ false 64]) ++ [aZ false 400]) ++ [aZ true 400]) ++ [aZ false 61])) (s + 400 + 400 + 16 + 64 + 400 + 400 + 61)) _
  show Go 116 64 [(0, .ref w)] [] (hL h0 (L ++ (.inr (10, [.int 0, .int 0, .ref (w + 1), .ref (w + 2), .ref (w + 3), .ref (w + 4), .int 0, .int 0, .ref (w + 5), .ref (w + 6), .ref (w + 7), .int 0]) : mx_C) :: ((((((([] ++ [aZ false 400]) ++ [aZ false 400]) ++ [aZ false 16]) ++ [aZ false 64]) ++ [aZ false 400]) ++ [aZ true 400]) ++ [aZ false 61])) (s + 400 + 400 + 16 + 64 + 400 + 400 + 61)) _
  exact go_ret rfl rfl
end KON
