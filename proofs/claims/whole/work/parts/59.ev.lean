/-! EXPRESSIONS AS ROWS OF STEPS: (0, n) a number, (1, k) a variable, (2 to 5, _) an operation -/
def ev1 (v : Nat → Int32) (q : Nat × Nat) (S : List Int32) : Option (List Int32) :=
  if q.1 = 0 then some (nI q.2 :: S) else if q.1 = 1 then some (v q.2 :: S) else
  match S with
  | y :: x :: S' => if q.1 = 2 then some ((x + y) :: S') else if q.1 = 3 then some ((x - y) :: S') else if q.1 = 4 then some ((x * y) :: S') else if y = 0 then none else some ((x / y) :: S')
  | _ => none
def evL (v : Nat → Int32) : List (Nat × Nat) → List Int32 → Option (List Int32)
  | [], S => some S
  | q :: r, S => (ev1 v q S).bind (evL v r)
/-- heights of the stack, never above m -/
def hg (m : Nat) : List (Nat × Nat) → Nat → Option Nat
  | [], n => some n
  | q :: r, n => if q.1 ≤ 1 then (if n < m then hg m r (n + 1) else none) else if 2 ≤ n then hg m r (n - 1) else none
def stOK (q : Nat × Nat) : Prop := (q.1 = 0 ∧ q.2 < 10000) ∨ (q.1 = 1 ∧ q.2 < 9) ∨ (2 ≤ q.1 ∧ q.1 ≤ 5)
/-- the cells of an array hold a stack, its bottom first -/
def stk (I : Nat → Nat → Int32) (o : Nat) (S : List Int32) : Prop := ∀ j x, S.reverse[j]? = some x → I o j = x
theorem stk_push {I : Nat → Nat → Int32} {o : Nat} {S : List Int32} {x : Int32} (h : stk I o S) : stk (up2 I o S.length x) o (x :: S) := by
  intro j y hj
  rw [List.reverse_cons] at hj
  rcases Nat.lt_or_ge j S.length with q | q
  · rw [List.getElem?_append_left (by rw [List.length_reverse]; exact q)] at hj
    rw [up2_k (by omega)]
    exact h j y hj
  · rw [List.getElem?_append_right (by rw [List.length_reverse]; exact q), List.length_reverse] at hj
    have hz : j - S.length < 1 := (List.getElem?_eq_some_iff.mp hj).1
    have e : j = S.length := by omega
    subst e
    rw [Nat.sub_self] at hj
    cases hj
    rw [up2_s]
theorem stk_tail {I : Nat → Nat → Int32} {o : Nat} {S : List Int32} {x : Int32} (h : stk I o (x :: S)) : stk I o S ∧ I o S.length = x := by
  constructor
  · intro j y hj
    refine h j y ?_
    rw [List.reverse_cons, List.getElem?_append_left (List.getElem?_eq_some_iff.mp hj).1]
    exact hj
  · refine h S.length x ?_
    rw [List.reverse_cons, List.getElem?_append_right (by rw [List.length_reverse]; exact Nat.le_refl _), List.length_reverse, Nat.sub_self]
    rfl
/-- what an operation makes of two numbers -/
def opV (k : Nat) (x y : Int32) : Int32 := if k = 2 then x + y else if k = 3 then x - y else if k = 4 then x * y else x / y
theorem ev1_op {v : Nat → Int32} {q : Nat × Nat} {x y : Int32} {S : List Int32} (h : 2 ≤ q.1 ∧ q.1 ≤ 5) : ev1 v q (y :: x :: S) = if q.1 = 5 ∧ y = 0 then none else some (opV q.1 x y :: S) := by
  unfold ev1 opV
  rw [if_neg (show ¬ q.1 = 0 by omega), if_neg (show ¬ q.1 = 1 by omega)]
  show (if q.1 = 2 then some ((x + y) :: S) else if q.1 = 3 then some ((x - y) :: S) else if q.1 = 4 then some ((x * y) :: S) else if y = 0 then none else some ((x / y) :: S)) = _
  by_cases h2 : q.1 = 2
  · rw [if_pos h2, if_neg (fun z => by omega), if_pos h2]
  · by_cases h3 : q.1 = 3
    · rw [if_neg h2, if_pos h3, if_neg (fun z => by omega), if_neg h2, if_pos h3]
    · by_cases h4 : q.1 = 4
      · rw [if_neg h2, if_neg h3, if_pos h4, if_neg (fun z => by omega), if_neg h2, if_neg h3, if_pos h4]
      · rw [if_neg h2, if_neg h3, if_neg h4, if_neg h2, if_neg h3, if_neg h4]
        have h5 : q.1 = 5 := by omega
        by_cases hy : y = 0
        · rw [if_pos hy, if_pos ⟨h5, hy⟩]
        · rw [if_neg hy, if_neg (fun z => hy z.2)]
