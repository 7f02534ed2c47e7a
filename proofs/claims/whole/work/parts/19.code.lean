/-! CODE, MEMORY, and small tests (walks by wip/gen19.py) -/
theorem bI_eq0 {b : Bool} (h : bI b = 0) : b = false := by cases b <;> simp [bI] at h ⊢
theorem bI_ne0 {b : Bool} (h : ¬ bI b = 0) : b = true := by cases b <;> simp [bI] at h ⊢
def t_cond (n : Int32) : Bool := decide (n = 11 ∨ n = 12)
def t_goes (n : Int32) : Bool := decide (n = 10 ∨ n = 11 ∨ n = 12)
def t_ends (n : Int32) : Bool := decide (n = 10 ∨ n = 16 ∨ n = 17)
def m_hasL (i : Int32) : Bool := decide (¬ i < 0 ∧ i < 16)
def m_hasW (a : Int64) : Bool := decide (¬ lg_cmp a 0 < 0 ∧ lg_cmp a 64 < 0)
theorem m_hasL_in {i : Int32} (h : m_hasL i = true) : ¬ (i < 0 ∨ 16 ≤ i.toNatClampNeg) := by
  have h := of_decide_eq_true h
  rintro (w | w)
  · exact h.1 w
  · exact absurd h.2 (Int32.not_lt.mpr ((x_le (n := 16) h.1 (by decide)).mpr w))
theorem m_hasW_in {i : Int32} (h : m_hasW i.toInt64 = true) : ¬ (i < 0 ∨ 64 ≤ i.toNatClampNeg) := by
  have h := of_decide_eq_true h
  rw [lg_cmp_lt, lg_cmp_lt, Int64.lt_iff_toInt_lt, Int64.lt_iff_toInt_lt, Int32.toInt_toInt64] at h
  have h1 : (0 : Int64).toInt = 0 := rfl
  have h2 : (64 : Int64).toInt = 64 := rfl
  rw [h1, h2] at h
  have h3 : ¬ i < 0 := fun w => h.1 (by simpa using Int32.lt_iff_toInt_lt.mp w)
  rintro (w | w)
  · exact h3 w
  · have := mx_nn h3
    omega
theorem xu4 (S : xS) {n a : Nat} (h : n ≠ a) (A B A' B' : xC) : xu (xu (xu (xu S n A) a B) n A') a B' = xu (xu S n A') a B' := by
  funext q
  unfold xu
  by_cases h1 : q = a <;> by_cases h2 : q = n <;> simp [h1, h2]
section XB
variable {z : Nat} {NK : List Nat} {g : mx_G} {S : xS} {P : Option Value → xS → Prop}
set_option maxHeartbeats 1000000 in
/-- RowCode.isCondition(I)Z -/
theorem c_isCondition {n : Int32} (hP : P (some (.int (bI (t_cond n)))) S) : xw z NK g 113 0 [(0, .int n)] [] S P := by
  refine xw.steps 2 (fun _ => rfl) ?_
  refine xw.icmp rfl (fun c1 => ?_) (fun c1 => ?_)
  · have c1 := of_decide_eq_true c1
    refine xw.steps 2 (fun _ => rfl) ?_
    refine xw.ret rfl (fun _ => rfl) ?_
    show P (some (.int 1)) S
    simpa [bI, t_cond, c1] using hP
  · have c1 := of_decide_eq_false c1
    refine xw.steps 2 (fun _ => rfl) ?_
    refine xw.icmp rfl (fun c2 => ?_) (fun c2 => ?_)
    · have c2 := of_decide_eq_true c2
      refine xw.steps 1 (fun _ => rfl) ?_
      refine xw.ret rfl (fun _ => rfl) ?_
      show P (some (.int 0)) S
      simpa [bI, t_cond, c1, c2] using hP
    · have c2 := Decidable.not_not.mp (of_decide_eq_false c2)
      refine xw.steps 2 (fun _ => rfl) ?_
      refine xw.ret rfl (fun _ => rfl) ?_
      show P (some (.int 1)) S
      simpa [bI, t_cond, c1, c2] using hP
set_option maxHeartbeats 1000000 in
/-- RowCode.goesToLabel(I)Z -/
theorem c_goesToLabel {n : Int32} (hP : P (some (.int (bI (t_goes n)))) S) : xw z NK g 114 0 [(0, .int n)] [] S P := by
  refine xw.steps 2 (fun _ => rfl) ?_
  refine xw.icmp rfl (fun c1 => ?_) (fun c1 => ?_)
  · have c1 := of_decide_eq_true c1
    refine xw.steps 2 (fun _ => rfl) ?_
    refine xw.ret rfl (fun _ => rfl) ?_
    show P (some (.int 1)) S
    have e9 : t_goes n = true := by clear hP; simp_all [t_goes, t_cond]
    rw [e9] at hP
    exact hP
  · have c1 := of_decide_eq_false c1
    refine xw.steps 1 (fun _ => rfl) ?_
    show xw z NK g 114 7 [(0, .int n)] [.int n] S P
    refine xw.callS rfl rfl rfl rfl rfl (c_isCondition ?_)
    show xw z NK g 114 10 [(0, .int n)] [.int (bI (t_cond n))] S P
    refine xw.if_ rfl (fun c2 => ?_) (fun c2 => ?_)
    · have c2 := bI_eq0 (of_decide_eq_true c2)
      refine xw.steps 1 (fun _ => rfl) ?_
      refine xw.ret rfl (fun _ => rfl) ?_
      show P (some (.int 0)) S
      have e9 : t_goes n = false := by clear hP; simp_all [t_goes, t_cond]
      rw [e9] at hP
      exact hP
    · have c2 := bI_ne0 (of_decide_eq_false c2)
      refine xw.steps 2 (fun _ => rfl) ?_
      refine xw.ret rfl (fun _ => rfl) ?_
      show P (some (.int 1)) S
      have e9 : t_goes n = true := by clear hP; simp_all [t_goes, t_cond]
      rw [e9] at hP
      exact hP
set_option maxHeartbeats 1000000 in
/-- RowCode.endsWay(I)Z -/
theorem c_endsWay {n : Int32} (hP : P (some (.int (bI (t_ends n)))) S) : xw z NK g 115 0 [(0, .int n)] [] S P := by
  refine xw.steps 2 (fun _ => rfl) ?_
  refine xw.icmp rfl (fun c1 => ?_) (fun c1 => ?_)
  · have c1 := of_decide_eq_true c1
    refine xw.steps 2 (fun _ => rfl) ?_
    refine xw.ret rfl (fun _ => rfl) ?_
    show P (some (.int 1)) S
    simpa [bI, t_ends, c1] using hP
  · have c1 := of_decide_eq_false c1
    refine xw.steps 2 (fun _ => rfl) ?_
    refine xw.icmp rfl (fun c2 => ?_) (fun c2 => ?_)
    · have c2 := of_decide_eq_true c2
      refine xw.steps 2 (fun _ => rfl) ?_
      refine xw.ret rfl (fun _ => rfl) ?_
      show P (some (.int 1)) S
      simpa [bI, t_ends, c1, c2] using hP
    · have c2 := of_decide_eq_false c2
      refine xw.steps 2 (fun _ => rfl) ?_
      refine xw.icmp rfl (fun c3 => ?_) (fun c3 => ?_)
      · have c3 := of_decide_eq_true c3
        refine xw.steps 1 (fun _ => rfl) ?_
        refine xw.ret rfl (fun _ => rfl) ?_
        show P (some (.int 0)) S
        simpa [bI, t_ends, c1, c2, c3] using hP
      · have c3 := Decidable.not_not.mp (of_decide_eq_false c3)
        refine xw.steps 2 (fun _ => rfl) ?_
        refine xw.ret rfl (fun _ => rfl) ?_
        show P (some (.int 1)) S
        simpa [bI, t_ends, c1, c2, c3] using hP
set_option maxHeartbeats 1000000 in
/-- RowCode$Memory.hasLocal(I)Z -/
theorem c_hasLocal {i : Int32} (hP : P (some (.int (bI (m_hasL i)))) S) : xw z NK g 18 0 [(0, .int i)] [] S P := by
  refine xw.steps 1 (fun _ => rfl) ?_
  refine xw.if_ rfl (fun c1 => ?_) (fun c1 => ?_)
  · have c1 := of_decide_eq_true c1
    refine xw.steps 1 (fun _ => rfl) ?_
    refine xw.ret rfl (fun _ => rfl) ?_
    show P (some (.int 0)) S
    simpa [bI, m_hasL, c1] using hP
  · have c1 := of_decide_eq_false c1
    refine xw.steps 2 (fun _ => rfl) ?_
    refine xw.icmp rfl (fun c2 => ?_) (fun c2 => ?_)
    · have c2 := Int32.not_lt.mpr (of_decide_eq_true c2)
      refine xw.steps 1 (fun _ => rfl) ?_
      refine xw.ret rfl (fun _ => rfl) ?_
      show P (some (.int 0)) S
      simpa [bI, m_hasL, c1, c2] using hP
    · have c2 := Int32.not_le.mp (of_decide_eq_false c2)
      refine xw.steps 2 (fun _ => rfl) ?_
      refine xw.ret rfl (fun _ => rfl) ?_
      show P (some (.int 1)) S
      simpa [bI, m_hasL, c1, c2] using hP
set_option maxHeartbeats 1000000 in
/-- RowCode$Memory.hasWord(J)Z -/
theorem c_hasWord {a : Int64} (hP : P (some (.int (bI (m_hasW a)))) S) : xw z NK g 19 0 [(0, .long a)] [] S P := by
  refine xw.steps 3 (fun _ => rfl) ?_
  refine xw.if_ rfl (fun c1 => ?_) (fun c1 => ?_)
  · have c1 := of_decide_eq_true c1
    refine xw.steps 1 (fun _ => rfl) ?_
    refine xw.ret rfl (fun _ => rfl) ?_
    show P (some (.int 0)) S
    simpa [bI, m_hasW, c1] using hP
  · have c1 := of_decide_eq_false c1
    refine xw.steps 3 (fun _ => rfl) ?_
    refine xw.if_ rfl (fun c2 => ?_) (fun c2 => ?_)
    · have c2 := Int32.not_lt.mpr (of_decide_eq_true c2)
      refine xw.steps 1 (fun _ => rfl) ?_
      refine xw.ret rfl (fun _ => rfl) ?_
      show P (some (.int 0)) S
      simpa [bI, m_hasW, c1, c2] using hP
    · have c2 := Int32.not_le.mp (of_decide_eq_false c2)
      refine xw.steps 2 (fun _ => rfl) ?_
      refine xw.ret rfl (fun _ => rfl) ?_
      show P (some (.int 1)) S
      simpa [bI, m_hasW, c1, c2] using hP
set_option maxHeartbeats 1000000 in
/-- RowCode$Code.size()I -/
theorem c_Code_size {o n a : Nat} {xs ys : List Int32} (ho : S o = some (.inr (.inr (1, [.ref (z + n), .ref (z + a)])))) (hn : S n = some (.inl xs)) (ha : S a = some (.inl ys)) (hna : n ≠ a) (hP : P (some (.int (nI xs.length))) S) : xw z NK g 25 0 [(0, .ref (z + o))] [] S P := by
  have hon : o ≠ n := fun e => by rw [e, hn] at ho; cases ho
  have hoa : o ≠ a := fun e => by rw [e, ha] at ho; cases ho
  refine xw.steps 1 (fun _ => rfl) ?_
  refine xw.getf (o := o) rfl ho rfl ?_
  show xw z NK g 25 4 [(0, .ref (z + o))] [.ref (z + n)] S P
  refine xw.callN (o := n) rfl rfl rfl hn rfl rfl (c_size hn ?_)
  show xw z NK g 25 7 [(0, .ref (z + o))] [.int (nI xs.length)] S P
  refine xw.ret rfl (fun _ => rfl) ?_
  show P (some (.int (nI xs.length))) S
  exact hP
set_option maxHeartbeats 1000000 in
/-- RowCode$Code.numberAt(I)I -/
theorem c_Code_numberAt {o n a : Nat} {xs ys : List Int32} (ho : S o = some (.inr (.inr (1, [.ref (z + n), .ref (z + a)])))) (hn : S n = some (.inl xs)) (ha : S a = some (.inl ys)) (hna : n ≠ a) {i : Int32} (hP : P (some (.int (nAt xs i))) S) : xw z NK g 26 0 [(0, .ref (z + o)), (1, .int i)] [] S P := by
  have hon : o ≠ n := fun e => by rw [e, hn] at ho; cases ho
  have hoa : o ≠ a := fun e => by rw [e, ha] at ho; cases ho
  refine xw.steps 1 (fun _ => rfl) ?_
  refine xw.getf (o := o) rfl ho rfl ?_
  refine xw.steps 1 (fun _ => rfl) ?_
  show xw z NK g 26 5 [(0, .ref (z + o)), (1, .int i)] [.int i, .ref (z + n)] S P
  refine xw.callN (o := n) rfl rfl rfl hn rfl rfl (c_at hn ?_)
  show xw z NK g 26 8 [(0, .ref (z + o)), (1, .int i)] [.int (nAt xs i)] S P
  refine xw.ret rfl (fun _ => rfl) ?_
  show P (some (.int (nAt xs i))) S
  exact hP
set_option maxHeartbeats 1000000 in
/-- RowCode$Code.argumentAt(I)I -/
theorem c_Code_argumentAt {o n a : Nat} {xs ys : List Int32} (ho : S o = some (.inr (.inr (1, [.ref (z + n), .ref (z + a)])))) (hn : S n = some (.inl xs)) (ha : S a = some (.inl ys)) (hna : n ≠ a) {i : Int32} (hP : P (some (.int (nAt ys i))) S) : xw z NK g 27 0 [(0, .ref (z + o)), (1, .int i)] [] S P := by
  have hon : o ≠ n := fun e => by rw [e, hn] at ho; cases ho
  have hoa : o ≠ a := fun e => by rw [e, ha] at ho; cases ho
  refine xw.steps 1 (fun _ => rfl) ?_
  refine xw.getf (o := o) rfl ho rfl ?_
  refine xw.steps 1 (fun _ => rfl) ?_
  show xw z NK g 27 5 [(0, .ref (z + o)), (1, .int i)] [.int i, .ref (z + a)] S P
  refine xw.callN (o := a) rfl rfl rfl ha rfl rfl (c_at ha ?_)
  show xw z NK g 27 8 [(0, .ref (z + o)), (1, .int i)] [.int (nAt ys i)] S P
  refine xw.ret rfl (fun _ => rfl) ?_
  show P (some (.int (nAt ys i))) S
  exact hP
set_option maxHeartbeats 1000000 in
/-- RowCode$Code.append(II)V -/
theorem c_Code_append {o n a : Nat} {xs ys : List Int32} (ho : S o = some (.inr (.inr (1, [.ref (z + n), .ref (z + a)])))) (hn : S n = some (.inl xs)) (ha : S a = some (.inl ys)) (hna : n ≠ a) (hl1 : xs.length < 131072) (hl2 : ys.length < 131072) {v w : Int32} (hP : P none (xu (xu S n (.inl (xs ++ [v]))) a (.inl (ys ++ [w])))) : xw z NK g 28 0 [(0, .ref (z + o)), (1, .int v), (2, .int w)] [] S P := by
  have hon : o ≠ n := fun e => by rw [e, hn] at ho; cases ho
  have hoa : o ≠ a := fun e => by rw [e, ha] at ho; cases ho
  refine xw.steps 1 (fun _ => rfl) ?_
  refine xw.getf (o := o) rfl ho rfl ?_
  refine xw.steps 1 (fun _ => rfl) ?_
  show xw z NK g 28 5 [(0, .ref (z + o)), (1, .int v), (2, .int w)] [.int v, .ref (z + n)] S P
  refine xw.callN (o := n) rfl rfl rfl hn rfl rfl (c_append hn (by first | assumption | (unfold nCut; rw [List.length_take]; omega)) ?_)
  show xw z NK g 28 8 [(0, .ref (z + o)), (1, .int v), (2, .int w)] [] (xu S n (.inl (xs ++ [v]))) P
  refine xw.steps 1 (fun _ => rfl) ?_
  refine xw.getf (o := o) rfl ((xu_ne _ _ hon).trans ho) rfl ?_
  refine xw.steps 1 (fun _ => rfl) ?_
  show xw z NK g 28 13 [(0, .ref (z + o)), (1, .int v), (2, .int w)] [.int w, .ref (z + a)] (xu S n (.inl (xs ++ [v]))) P
  refine xw.callN (o := a) rfl rfl rfl ((xu_ne _ _ (Ne.symm hna)).trans ha) rfl rfl (c_append ((xu_ne _ _ (Ne.symm hna)).trans ha) (by first | assumption | (unfold nCut; rw [List.length_take]; omega)) ?_)
  show xw z NK g 28 16 [(0, .ref (z + o)), (1, .int v), (2, .int w)] [] (xu (xu S n (.inl (xs ++ [v]))) a (.inl (ys ++ [w]))) P
  refine xw.ret rfl (fun _ => rfl) ?_
  show P none (xu (xu S n (.inl (xs ++ [v]))) a (.inl (ys ++ [w])))
  exact hP
set_option maxHeartbeats 1000000 in
/-- RowCode$Code.cutTo(I)V -/
theorem c_Code_cutTo {o n a : Nat} {xs ys : List Int32} (ho : S o = some (.inr (.inr (1, [.ref (z + n), .ref (z + a)])))) (hn : S n = some (.inl xs)) (ha : S a = some (.inl ys)) (hna : n ≠ a) {m : Int32} (hP : P none (xu (xu S n (.inl (nCut xs m))) a (.inl (nCut ys m)))) : xw z NK g 29 0 [(0, .ref (z + o)), (1, .int m)] [] S P := by
  have hon : o ≠ n := fun e => by rw [e, hn] at ho; cases ho
  have hoa : o ≠ a := fun e => by rw [e, ha] at ho; cases ho
  refine xw.steps 1 (fun _ => rfl) ?_
  refine xw.getf (o := o) rfl ho rfl ?_
  refine xw.steps 1 (fun _ => rfl) ?_
  show xw z NK g 29 5 [(0, .ref (z + o)), (1, .int m)] [.int m, .ref (z + n)] S P
  refine xw.callN (o := n) rfl rfl rfl hn rfl rfl (c_cutTo hn ?_)
  show xw z NK g 29 8 [(0, .ref (z + o)), (1, .int m)] [] (xu S n (.inl (nCut xs m))) P
  refine xw.steps 1 (fun _ => rfl) ?_
  refine xw.getf (o := o) rfl ((xu_ne _ _ hon).trans ho) rfl ?_
  refine xw.steps 1 (fun _ => rfl) ?_
  show xw z NK g 29 13 [(0, .ref (z + o)), (1, .int m)] [.int m, .ref (z + a)] (xu S n (.inl (nCut xs m))) P
  refine xw.callN (o := a) rfl rfl rfl ((xu_ne _ _ (Ne.symm hna)).trans ha) rfl rfl (c_cutTo ((xu_ne _ _ (Ne.symm hna)).trans ha) ?_)
  show xw z NK g 29 16 [(0, .ref (z + o)), (1, .int m)] [] (xu (xu S n (.inl (nCut xs m))) a (.inl (nCut ys m))) P
  refine xw.ret rfl (fun _ => rfl) ?_
  show P none (xu (xu S n (.inl (nCut xs m))) a (.inl (nCut ys m)))
  exact hP
set_option maxHeartbeats 1000000 in
/-- RowCode$Code.lastNumber(I)I -/
theorem c_Code_lastNumber {o n a : Nat} {xs ys : List Int32} (ho : S o = some (.inr (.inr (1, [.ref (z + n), .ref (z + a)])))) (hn : S n = some (.inl xs)) (ha : S a = some (.inl ys)) (hna : n ≠ a) {b : Int32} (hP : P (some (.int (nAt xs ((nI xs.length - 1) - b)))) S) : xw z NK g 30 0 [(0, .ref (z + o)), (1, .int b)] [] S P := by
  have hon : o ≠ n := fun e => by rw [e, hn] at ho; cases ho
  have hoa : o ≠ a := fun e => by rw [e, ha] at ho; cases ho
  refine xw.steps 1 (fun _ => rfl) ?_
  refine xw.getf (o := o) rfl ho rfl ?_
  refine xw.steps 1 (fun _ => rfl) ?_
  refine xw.getf (o := o) rfl ho rfl ?_
  show xw z NK g 30 8 [(0, .ref (z + o)), (1, .int b)] [.ref (z + n), .ref (z + n)] S P
  refine xw.callN (o := n) rfl rfl rfl hn rfl rfl (c_size hn ?_)
  show xw z NK g 30 11 [(0, .ref (z + o)), (1, .int b)] [.int (nI xs.length), .ref (z + n)] S P
  refine xw.steps 4 (fun _ => rfl) ?_
  show xw z NK g 30 15 [(0, .ref (z + o)), (1, .int b)] [.int (((nI xs.length) - 1) - b), .ref (z + n)] S P
  refine xw.callN (o := n) rfl rfl rfl hn rfl rfl (c_at hn ?_)
  show xw z NK g 30 18 [(0, .ref (z + o)), (1, .int b)] [.int (nAt xs (((nI xs.length) - 1) - b))] S P
  refine xw.ret rfl (fun _ => rfl) ?_
  show P (some (.int (nAt xs (((nI xs.length) - 1) - b)))) S
  exact hP
set_option maxHeartbeats 1000000 in
/-- RowCode$Code.lastArgument(I)I -/
theorem c_Code_lastArgument {o n a : Nat} {xs ys : List Int32} (ho : S o = some (.inr (.inr (1, [.ref (z + n), .ref (z + a)])))) (hn : S n = some (.inl xs)) (ha : S a = some (.inl ys)) (hna : n ≠ a) {b : Int32} (hP : P (some (.int (nAt ys ((nI ys.length - 1) - b)))) S) : xw z NK g 31 0 [(0, .ref (z + o)), (1, .int b)] [] S P := by
  have hon : o ≠ n := fun e => by rw [e, hn] at ho; cases ho
  have hoa : o ≠ a := fun e => by rw [e, ha] at ho; cases ho
  refine xw.steps 1 (fun _ => rfl) ?_
  refine xw.getf (o := o) rfl ho rfl ?_
  refine xw.steps 1 (fun _ => rfl) ?_
  refine xw.getf (o := o) rfl ho rfl ?_
  show xw z NK g 31 8 [(0, .ref (z + o)), (1, .int b)] [.ref (z + a), .ref (z + a)] S P
  refine xw.callN (o := a) rfl rfl rfl ha rfl rfl (c_size ha ?_)
  show xw z NK g 31 11 [(0, .ref (z + o)), (1, .int b)] [.int (nI ys.length), .ref (z + a)] S P
  refine xw.steps 4 (fun _ => rfl) ?_
  show xw z NK g 31 15 [(0, .ref (z + o)), (1, .int b)] [.int (((nI ys.length) - 1) - b), .ref (z + a)] S P
  refine xw.callN (o := a) rfl rfl rfl ha rfl rfl (c_at ha ?_)
  show xw z NK g 31 18 [(0, .ref (z + o)), (1, .int b)] [.int (nAt ys (((nI ys.length) - 1) - b))] S P
  refine xw.ret rfl (fun _ => rfl) ?_
  show P (some (.int (nAt ys (((nI ys.length) - 1) - b)))) S
  exact hP
set_option maxHeartbeats 1000000 in
/-- RowCode$Code.cutLast()V -/
theorem c_Code_cutLast {o n a : Nat} {xs ys : List Int32} (ho : S o = some (.inr (.inr (1, [.ref (z + n), .ref (z + a)])))) (hn : S n = some (.inl xs)) (ha : S a = some (.inl ys)) (hna : n ≠ a) (hP : P none (xu (xu S n (.inl xs.dropLast)) a (.inl ys.dropLast))) : xw z NK g 32 0 [(0, .ref (z + o))] [] S P := by
  have hon : o ≠ n := fun e => by rw [e, hn] at ho; cases ho
  have hoa : o ≠ a := fun e => by rw [e, ha] at ho; cases ho
  refine xw.steps 1 (fun _ => rfl) ?_
  refine xw.getf (o := o) rfl ho rfl ?_
  show xw z NK g 32 4 [(0, .ref (z + o))] [.ref (z + n)] S P
  refine xw.callN (o := n) rfl rfl rfl hn rfl rfl (c_takeLast hn ?_)
  show xw z NK g 32 7 [(0, .ref (z + o))] [.int (nLast xs)] (xu S n (.inl xs.dropLast)) P
  refine xw.steps 2 (fun _ => rfl) ?_
  refine xw.getf (o := o) rfl ((xu_ne _ _ hon).trans ho) rfl ?_
  show xw z NK g 32 12 [(0, .ref (z + o))] [.ref (z + a)] (xu S n (.inl xs.dropLast)) P
  refine xw.callN (o := a) rfl rfl rfl ((xu_ne _ _ (Ne.symm hna)).trans ha) rfl rfl (c_takeLast ((xu_ne _ _ (Ne.symm hna)).trans ha) ?_)
  show xw z NK g 32 15 [(0, .ref (z + o))] [.int (nLast ys)] (xu (xu S n (.inl xs.dropLast)) a (.inl ys.dropLast)) P
  refine xw.steps 1 (fun _ => rfl) ?_
  refine xw.ret rfl (fun _ => rfl) ?_
  show P none (xu (xu S n (.inl xs.dropLast)) a (.inl ys.dropLast))
  exact hP
set_option maxHeartbeats 1000000 in
/-- RowCode$Code.replaceLast(III)V -/
theorem c_Code_replaceLast {o n a : Nat} {xs ys : List Int32} (ho : S o = some (.inr (.inr (1, [.ref (z + n), .ref (z + a)])))) (hn : S n = some (.inl xs)) (ha : S a = some (.inl ys)) (hna : n ≠ a) {c v w : Int32} (hl1 : xs.length < 131072) (hl2 : ys.length < 131072) (hP : P none (xu (xu S n (.inl (nCut xs (nI xs.length - c) ++ [v]))) a (.inl (nCut ys (nI ys.length - c) ++ [w])))) : xw z NK g 33 0 [(0, .ref (z + o)), (1, .int c), (2, .int v), (3, .int w)] [] S P := by
  have hon : o ≠ n := fun e => by rw [e, hn] at ho; cases ho
  have hoa : o ≠ a := fun e => by rw [e, ha] at ho; cases ho
  refine xw.steps 1 (fun _ => rfl) ?_
  refine xw.getf (o := o) rfl ho rfl ?_
  refine xw.steps 1 (fun _ => rfl) ?_
  refine xw.getf (o := o) rfl ho rfl ?_
  show xw z NK g 33 8 [(0, .ref (z + o)), (1, .int c), (2, .int v), (3, .int w)] [.ref (z + n), .ref (z + n)] S P
  refine xw.callN (o := n) rfl rfl rfl hn rfl rfl (c_size hn ?_)
  show xw z NK g 33 11 [(0, .ref (z + o)), (1, .int c), (2, .int v), (3, .int w)] [.int (nI xs.length), .ref (z + n)] S P
  refine xw.steps 2 (fun _ => rfl) ?_
  show xw z NK g 33 13 [(0, .ref (z + o)), (1, .int c), (2, .int v), (3, .int w)] [.int ((nI xs.length) - c), .ref (z + n)] S P
  refine xw.callN (o := n) rfl rfl rfl hn rfl rfl (c_cutTo hn ?_)
  show xw z NK g 33 16 [(0, .ref (z + o)), (1, .int c), (2, .int v), (3, .int w)] [] (xu S n (.inl (nCut xs ((nI xs.length) - c)))) P
  refine xw.steps 1 (fun _ => rfl) ?_
  refine xw.getf (o := o) rfl ((xu_ne _ _ hon).trans ho) rfl ?_
  refine xw.steps 1 (fun _ => rfl) ?_
  refine xw.getf (o := o) rfl ((xu_ne _ _ hon).trans ho) rfl ?_
  show xw z NK g 33 24 [(0, .ref (z + o)), (1, .int c), (2, .int v), (3, .int w)] [.ref (z + a), .ref (z + a)] (xu S n (.inl (nCut xs ((nI xs.length) - c)))) P
  refine xw.callN (o := a) rfl rfl rfl ((xu_ne _ _ (Ne.symm hna)).trans ha) rfl rfl (c_size ((xu_ne _ _ (Ne.symm hna)).trans ha) ?_)
  show xw z NK g 33 27 [(0, .ref (z + o)), (1, .int c), (2, .int v), (3, .int w)] [.int (nI ys.length), .ref (z + a)] (xu S n (.inl (nCut xs ((nI xs.length) - c)))) P
  refine xw.steps 2 (fun _ => rfl) ?_
  show xw z NK g 33 29 [(0, .ref (z + o)), (1, .int c), (2, .int v), (3, .int w)] [.int ((nI ys.length) - c), .ref (z + a)] (xu S n (.inl (nCut xs ((nI xs.length) - c)))) P
  refine xw.callN (o := a) rfl rfl rfl ((xu_ne _ _ (Ne.symm hna)).trans ha) rfl rfl (c_cutTo ((xu_ne _ _ (Ne.symm hna)).trans ha) ?_)
  show xw z NK g 33 32 [(0, .ref (z + o)), (1, .int c), (2, .int v), (3, .int w)] [] (xu (xu S n (.inl (nCut xs ((nI xs.length) - c)))) a (.inl (nCut ys ((nI ys.length) - c)))) P
  refine xw.steps 1 (fun _ => rfl) ?_
  refine xw.getf (o := o) rfl ((xu_ne _ _ hoa).trans ((xu_ne _ _ hon).trans ho)) rfl ?_
  refine xw.steps 1 (fun _ => rfl) ?_
  show xw z NK g 33 37 [(0, .ref (z + o)), (1, .int c), (2, .int v), (3, .int w)] [.int v, .ref (z + n)] (xu (xu S n (.inl (nCut xs ((nI xs.length) - c)))) a (.inl (nCut ys ((nI ys.length) - c)))) P
  refine xw.callN (o := n) rfl rfl rfl ((xu_ne _ _ hna).trans (xu_self _ _ _)) rfl rfl (c_append ((xu_ne _ _ hna).trans (xu_self _ _ _)) (by first | assumption | (unfold nCut; rw [List.length_take]; omega)) ?_)
  show xw z NK g 33 40 [(0, .ref (z + o)), (1, .int c), (2, .int v), (3, .int w)] [] (xu (xu (xu S n (.inl (nCut xs ((nI xs.length) - c)))) a (.inl (nCut ys ((nI ys.length) - c)))) n (.inl ((nCut xs ((nI xs.length) - c)) ++ [v]))) P
  refine xw.steps 1 (fun _ => rfl) ?_
  refine xw.getf (o := o) rfl ((xu_ne _ _ hon).trans ((xu_ne _ _ hoa).trans ((xu_ne _ _ hon).trans ho))) rfl ?_
  refine xw.steps 1 (fun _ => rfl) ?_
  show xw z NK g 33 45 [(0, .ref (z + o)), (1, .int c), (2, .int v), (3, .int w)] [.int w, .ref (z + a)] (xu (xu (xu S n (.inl (nCut xs ((nI xs.length) - c)))) a (.inl (nCut ys ((nI ys.length) - c)))) n (.inl ((nCut xs ((nI xs.length) - c)) ++ [v]))) P
  refine xw.callN (o := a) rfl rfl rfl ((xu_ne _ _ (Ne.symm hna)).trans (xu_self _ _ _)) rfl rfl (c_append ((xu_ne _ _ (Ne.symm hna)).trans (xu_self _ _ _)) (by first | assumption | (unfold nCut; rw [List.length_take]; omega)) ?_)
  show xw z NK g 33 48 [(0, .ref (z + o)), (1, .int c), (2, .int v), (3, .int w)] [] (xu (xu (xu (xu S n (.inl (nCut xs ((nI xs.length) - c)))) a (.inl (nCut ys ((nI ys.length) - c)))) n (.inl ((nCut xs ((nI xs.length) - c)) ++ [v]))) a (.inl ((nCut ys ((nI ys.length) - c)) ++ [w]))) P
  refine xw.ret rfl (fun _ => rfl) ?_
  show P none (xu (xu (xu (xu S n (.inl (nCut xs ((nI xs.length) - c)))) a (.inl (nCut ys ((nI ys.length) - c)))) n (.inl ((nCut xs ((nI xs.length) - c)) ++ [v]))) a (.inl ((nCut ys ((nI ys.length) - c)) ++ [w])))
  rw [xu4 _ hna]
  exact hP
set_option maxHeartbeats 1000000 in
/-- RowCode$Memory.localAt(I)I -/
theorem c_localAt {o n a : Nat} {L V : Nat → Int32} (ho : S o = some (.inr (.inr (5, [.ref (z + n), .ref (z + a)])))) (hn : S n = some (.inr (.inl (false, 16, L)))) (ha : S a = some (.inr (.inl (false, 64, V)))) {i : Int32} (hP : P (some (.int (if m_hasL i = true then L i.toNatClampNeg else 0))) S) : xw z NK g 20 0 [(0, .ref (z + o)), (1, .int i)] [] S P := by
  refine xw.steps 1 (fun _ => rfl) ?_
  show xw z NK g 20 1 [(0, .ref (z + o)), (1, .int i)] [.int i] S P
  refine xw.callS rfl rfl rfl rfl rfl (c_hasLocal ?_)
  show xw z NK g 20 4 [(0, .ref (z + o)), (1, .int i)] [.int (bI (m_hasL i))] S P
  refine xw.if_ rfl (fun c1 => ?_) (fun c1 => ?_)
  · have c1 := bI_eq0 (of_decide_eq_true c1)
    refine xw.steps 1 (fun _ => rfl) ?_
    refine xw.ret rfl (fun _ => rfl) ?_
    show P (some (.int 0)) S
    simpa [c1] using hP
  · have c1 := bI_ne0 (of_decide_eq_false c1)
    refine xw.steps 1 (fun _ => rfl) ?_
    refine xw.getf (o := o) rfl ho rfl ?_
    refine xw.steps 1 (fun _ => rfl) ?_
    refine xw.ald (o := n) rfl hn (m_hasL_in (by assumption)) ?_
    refine xw.steps 1 (fun _ => rfl) ?_
    refine xw.ret rfl (fun _ => rfl) ?_
    show P (some (.int (L i.toNatClampNeg))) S
    simpa [c1] using hP
set_option maxHeartbeats 1000000 in
/-- RowCode$Memory.changeLocal(II)V -/
theorem c_changeLocal {o n a : Nat} {L V : Nat → Int32} (ho : S o = some (.inr (.inr (5, [.ref (z + n), .ref (z + a)])))) (hn : S n = some (.inr (.inl (false, 16, L)))) (ha : S a = some (.inr (.inl (false, 64, V)))) {i v : Int32} (hP : P none (if m_hasL i = true then xu S n (.inr (.inl (false, 16, upd L i.toNatClampNeg v))) else S)) : xw z NK g 21 0 [(0, .ref (z + o)), (1, .int i), (2, .int v)] [] S P := by
  refine xw.steps 1 (fun _ => rfl) ?_
  show xw z NK g 21 1 [(0, .ref (z + o)), (1, .int i), (2, .int v)] [.int i] S P
  refine xw.callS rfl rfl rfl rfl rfl (c_hasLocal ?_)
  show xw z NK g 21 4 [(0, .ref (z + o)), (1, .int i), (2, .int v)] [.int (bI (m_hasL i))] S P
  refine xw.if_ rfl (fun c1 => ?_) (fun c1 => ?_)
  · have c1 := bI_eq0 (of_decide_eq_true c1)
    refine xw.ret rfl (fun _ => rfl) ?_
    show P none S
    simpa [c1] using hP
  · have c1 := bI_ne0 (of_decide_eq_false c1)
    refine xw.steps 1 (fun _ => rfl) ?_
    refine xw.getf (o := o) rfl ho rfl ?_
    refine xw.steps 2 (fun _ => rfl) ?_
    refine xw.ast (o := n) rfl hn (m_hasL_in (by assumption)) ?_
    show xw z NK g 21 14 [(0, .ref (z + o)), (1, .int i), (2, .int v)] [] (xu S n (.inr (.inl (false, 16, (upd L i.toNatClampNeg v))))) P
    refine xw.ret rfl (fun _ => rfl) ?_
    show P none (xu S n (.inr (.inl (false, 16, (upd L i.toNatClampNeg v)))))
    simpa [c1] using hP
set_option maxHeartbeats 1000000 in
/-- RowCode$Memory.wordAt(I)I -/
theorem c_wordAt {o n a : Nat} {L V : Nat → Int32} (ho : S o = some (.inr (.inr (5, [.ref (z + n), .ref (z + a)])))) (hn : S n = some (.inr (.inl (false, 16, L)))) (ha : S a = some (.inr (.inl (false, 64, V)))) {i : Int32} (hP : P (some (.int (if m_hasW i.toInt64 = true then V i.toNatClampNeg else 0))) S) : xw z NK g 22 0 [(0, .ref (z + o)), (1, .int i)] [] S P := by
  refine xw.steps 2 (fun _ => rfl) ?_
  show xw z NK g 22 2 [(0, .ref (z + o)), (1, .int i)] [.long i.toInt64] S P
  refine xw.callS rfl rfl rfl rfl rfl (c_hasWord ?_)
  show xw z NK g 22 5 [(0, .ref (z + o)), (1, .int i)] [.int (bI (m_hasW i.toInt64))] S P
  refine xw.if_ rfl (fun c1 => ?_) (fun c1 => ?_)
  · have c1 := bI_eq0 (of_decide_eq_true c1)
    refine xw.steps 1 (fun _ => rfl) ?_
    refine xw.ret rfl (fun _ => rfl) ?_
    show P (some (.int 0)) S
    simpa [c1] using hP
  · have c1 := bI_ne0 (of_decide_eq_false c1)
    refine xw.steps 1 (fun _ => rfl) ?_
    refine xw.getf (o := o) rfl ho rfl ?_
    refine xw.steps 1 (fun _ => rfl) ?_
    refine xw.ald (o := a) rfl ha (m_hasW_in (by assumption)) ?_
    refine xw.steps 1 (fun _ => rfl) ?_
    refine xw.ret rfl (fun _ => rfl) ?_
    show P (some (.int (V i.toNatClampNeg))) S
    simpa [c1] using hP
set_option maxHeartbeats 1000000 in
/-- RowCode$Memory.changeWord(II)V -/
theorem c_changeWord {o n a : Nat} {L V : Nat → Int32} (ho : S o = some (.inr (.inr (5, [.ref (z + n), .ref (z + a)])))) (hn : S n = some (.inr (.inl (false, 16, L)))) (ha : S a = some (.inr (.inl (false, 64, V)))) {i v : Int32} (hP : P none (if m_hasW i.toInt64 = true then xu S a (.inr (.inl (false, 64, upd V i.toNatClampNeg v))) else S)) : xw z NK g 23 0 [(0, .ref (z + o)), (1, .int i), (2, .int v)] [] S P := by
  refine xw.steps 2 (fun _ => rfl) ?_
  show xw z NK g 23 2 [(0, .ref (z + o)), (1, .int i), (2, .int v)] [.long i.toInt64] S P
  refine xw.callS rfl rfl rfl rfl rfl (c_hasWord ?_)
  show xw z NK g 23 5 [(0, .ref (z + o)), (1, .int i), (2, .int v)] [.int (bI (m_hasW i.toInt64))] S P
  refine xw.if_ rfl (fun c1 => ?_) (fun c1 => ?_)
  · have c1 := bI_eq0 (of_decide_eq_true c1)
    refine xw.ret rfl (fun _ => rfl) ?_
    show P none S
    simpa [c1] using hP
  · have c1 := bI_ne0 (of_decide_eq_false c1)
    refine xw.steps 1 (fun _ => rfl) ?_
    refine xw.getf (o := o) rfl ho rfl ?_
    refine xw.steps 2 (fun _ => rfl) ?_
    refine xw.ast (o := a) rfl ha (m_hasW_in (by assumption)) ?_
    show xw z NK g 23 15 [(0, .ref (z + o)), (1, .int i), (2, .int v)] [] (xu S a (.inr (.inl (false, 64, (upd V i.toNatClampNeg v))))) P
    refine xw.ret rfl (fun _ => rfl) ?_
    show P none (xu S a (.inr (.inl (false, 64, (upd V i.toNatClampNeg v)))))
    simpa [c1] using hP
end XB
