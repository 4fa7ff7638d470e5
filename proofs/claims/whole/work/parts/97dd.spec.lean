/-! PROMISE 4: WHAT A TEXT IS, TOKEN BY TOKEN -/
def adv (p : Nat) : Nat × Nat := if p < 400 then (0, p + 1) else (2, p)
def mus (K : Nat → Nat) (k : Nat) (s : Nat × Nat) : Nat × Nat := if s.1 = 0 then (if K s.2 = k then adv s.2 else (1, s.2)) else s
def rkK (k : Nat) : Nat := if k = 8 ∨ k = 9 then 1 else if k = 10 ∨ k = 15 then 2 else 0
def stpK (k : Nat) : Nat := if k = 8 then 2 else if k = 9 then 3 else if k = 10 then 4 else 5
def unw (r : Nat) : List Nat → List (Nat × Nat) → List Nat × List (Nat × Nat)
  | [], o => ([], o)
  | x :: t, o => if x = 6 then (x :: t, o) else if rkK x < r then (x :: t, o) else unw r t (o ++ [(stpK x, 0)])
def c6 : List Nat → Nat
  | [] => 0
  | x :: t => (if x = 6 then 1 else 0) + c6 t
def ops : List Nat → Nat
  | [] => 0
  | x :: t => (if x = 6 then 0 else 1) + ops t
def rkT : List Nat → Nat
  | [] => 0
  | x :: _ => rkK x
def wfS : List Nat → Prop
  | [] => True
  | x :: t => (x = 6 ∨ (x ≠ 6 ∧ rkT t < rkK x)) ∧ wfS t
def exS (K V : Nat → Nat) : Nat → Bool → List Nat → List (Nat × Nat) → Nat → (Nat × Nat) × List (Nat × Nat)
  | 0, _, _, o, p => ((0, p), o)
  | m + 1, ah, st, o, p =>
    if ah = false then
      (if K p = 6 then (if c6 st < 6 then (if p < 400 then exS K V m false (6 :: st) o (p + 1) else ((2, p), o)) else ((2, p), o))
      else if K p = 2 then (if p < 400 then exS K V m true st (o ++ [(0, V p)]) (p + 1) else ((2, p), o))
      else if 34 ≤ K p ∧ K p ≤ 42 then (if p < 400 then exS K V m true st (o ++ [(1, K p - 34)]) (p + 1) else ((2, p), o))
      else ((1, p), o))
    else
      (if K p = 7 ∧ 0 < c6 st then (if p < 400 then exS K V m true (unw 0 st o).1.tail (unw 0 st o).2 (p + 1) else ((2, p), o))
      else if 0 < rkK (K p) then (if p < 400 then exS K V m false (K p :: (unw (rkK (K p)) st o).1) (unw (rkK (K p)) st o).2 (p + 1) else ((2, p), o))
      else if 0 < c6 st then ((1, p), o) else ((0, p), (unw 0 st o).2))
def exU (K V : Nat → Nat) (s : Nat × Nat) : (Nat × Nat) × List (Nat × Nat) := if s.1 = 0 then exS K V (401 - s.2) false [] [] s.2 else (s, [])
abbrev Br : Type := List (Nat × Nat) × List (Nat × Nat) × List (Nat × Nat)
def lwS (K V : Nat → Nat) : Nat → Nat × Nat → List Br → (Nat × Nat) × List Br × List (Nat × Nat)
  | 0, s, bs => (s, bs, [])
  | m + 1, s, bs => if s.1 = 0 ∧ K s.2 = 31 then
      (if m = 0 then ((2, s.2), bs, []) else
        lwS K V m (mus K 33 (exU K V (mus K 32 (exU K V (mus K 13 (exU K V (adv s.2)).1)).1)).1) (bs ++ [((exU K V (adv s.2)).2, (exU K V (mus K 13 (exU K V (adv s.2)).1)).2, (exU K V (mus K 32 (exU K V (mus K 13 (exU K V (adv s.2)).1)).1)).2)]))
    else (mus K 4 (exU K V s).1, bs, (exU K V s).2)
def nmS (K : Nat → Nat) : Nat → Nat × Nat → Nat × Nat
  | 0, s => s
  | m + 1, s => if s.1 = 0 ∧ K s.2 = 1 then nmS K m (adv s.2) else s
/-- where the telling at p ends, or with which fault -/
def syn (K V : Nat → Nat) (T : Nat → Nat → Nat) (p : Nat) : Nat × Nat :=
  if K p = 20 then (if T 0 0 = 7 then (2, p) else mus K 4 (mus K 2 (mus K 1 (adv p))))
  else if K p = 21 then (if T 1 0 = 5 then (2, p) else mus K 4 (mus K 2 (mus K 2 (mus K 2 (mus K 1 (adv p))))))
  else if K p = 22 then mus K 4 (mus K 2 (mus K 1 (mus K 1 (adv p))))
  else if K p = 23 then (if T 2 0 = 6 then (2, p) else mus K 4 (mus K 2 (mus K 2 (mus K 2 (mus K 1 (adv p))))))
  else if K p = 24 then (if T 11 0 = 3 then (2, p) else mus K 4 (mus K 1 (mus K 1 (adv p))))
  else if K p = 25 then (if T 3 0 = 6 then (2, p) else mus K 4 (nmS K 401 (mus K 1 (adv p))))
  else if 26 ≤ K p ∧ K p ≤ 28 then (lwS K V 5 (mus K 5 (adv p)) []).1
  else if K p = 29 then mus K 4 (mus K 2 (adv p))
  else if K p = 30 then mus K 4 (mus K 2 (adv p))
  else (1, p)
theorem adv_le {p : Nat} (h : p ≤ 400) : p ≤ (adv p).2 ∧ (adv p).2 ≤ 400 ∧ (adv p).1 ≤ 2 := by
  unfold adv; split <;> (dsimp only; omega)
theorem adv_0 {p : Nat} (h : (adv p).1 = 0) : p < 400 ∧ adv p = (0, p + 1) := by
  unfold adv at h ⊢
  by_cases c : p < 400
  · rw [if_pos c]; exact ⟨c, rfl⟩
  · rw [if_neg c] at h; cases h
theorem adv_lt {p : Nat} (h : p < 400) : adv p = (0, p + 1) := if_pos h
theorem adv_ge {p : Nat} (h : ¬ p < 400) : adv p = (2, p) := if_neg h
section
variable {K V : Nat → Nat}
theorem mus_le {k : Nat} {s : Nat × Nat} (h : s.2 ≤ 400 ∧ s.1 ≤ 2) : s.2 ≤ (mus K k s).2 ∧ (mus K k s).2 ≤ 400 ∧ (mus K k s).1 ≤ 2 := by
  unfold mus
  split
  · split
    · exact adv_le h.1
    · exact ⟨Nat.le_refl _, h.1, (by decide : 1 ≤ 2)⟩
  · exact ⟨Nat.le_refl _, h.1, h.2⟩
theorem mus_0 {k : Nat} {s : Nat × Nat} (h : (mus K k s).1 = 0) : s.1 = 0 ∧ K s.2 = k ∧ s.2 < 400 ∧ mus K k s = (0, s.2 + 1) := by
  unfold mus at h ⊢
  by_cases c : s.1 = 0
  · rw [if_pos c] at h ⊢
    by_cases d : K s.2 = k
    · rw [if_pos d] at h ⊢
      exact ⟨c, d, (adv_0 h).1, (adv_0 h).2⟩
    · rw [if_neg d] at h; cases h
  · rw [if_neg c] at h; exact absurd h c
theorem mus_f {k : Nat} {s : Nat × Nat} (h : s.1 ≠ 0) : mus K k s = s := if_neg h
theorem mus_y {k : Nat} {s : Nat × Nat} (h : s.1 = 0) (h2 : K s.2 = k) : mus K k s = adv s.2 := by unfold mus; rw [if_pos h, if_pos h2]
theorem mus_n {k : Nat} {s : Nat × Nat} (h : s.1 = 0) (h2 : K s.2 ≠ k) : mus K k s = (1, s.2) := by unfold mus; rw [if_pos h, if_neg h2]
theorem rkK_le (k : Nat) : rkK k ≤ 2 := by unfold rkK; split <;> (try split) <;> omega
theorem rkK_op {k : Nat} (h : 0 < rkK k) : k = 8 ∨ k = 9 ∨ k = 10 ∨ k = 15 := by
  unfold rkK at h
  split at h
  · omega
  · split at h <;> omega
theorem rkT_le (st : List Nat) : rkT st ≤ 2 := by
  cases st with
  | nil => exact Nat.zero_le _
  | cons x t => exact rkK_le x
theorem ops_le : ∀ st, wfS st → ops st ≤ 2 * c6 st + rkT st
  | [], _ => Nat.zero_le _
  | x :: t, h => by
    have ih := ops_le t h.2
    have h2 := rkT_le t
    show (if x = 6 then 0 else 1) + ops t ≤ 2 * ((if x = 6 then 1 else 0) + c6 t) + rkK x
    rcases h.1 with e | ⟨e, e2⟩
    · rw [if_pos e, if_pos e]; omega
    · rw [if_neg e, if_neg e]; omega
theorem len_st : ∀ st : List Nat, st.length = c6 st + ops st
  | [] => rfl
  | x :: t => by
    show t.length + 1 = (if x = 6 then 1 else 0) + c6 t + ((if x = 6 then 0 else 1) + ops t)
    have := len_st t
    split <;> omega
theorem hg_app {m : Nat} : ∀ (a b : List (Nat × Nat)) (n : Nat), hg m (a ++ b) n = (hg m a n).bind (hg m b)
  | [], b, n => rfl
  | q :: r, b, n => by
    show (if q.1 ≤ 1 then (if n < m then hg m (r ++ b) (n + 1) else none) else if 2 ≤ n then hg m (r ++ b) (n - 1) else none) = (if q.1 ≤ 1 then (if n < m then hg m r (n + 1) else none) else if 2 ≤ n then hg m r (n - 1) else none).bind (hg m b)
    split
    · split
      · exact hg_app r b _
      · rfl
    · split
      · exact hg_app r b _
      · rfl
def oOK (o : List (Nat × Nat)) (h : Nat) : Prop := (∀ q ∈ o, stOK q) ∧ hg 20 o 0 = some h
theorem oOK_push {o : List (Nat × Nat)} {h : Nat} {q : Nat × Nat} (a : oOK o h) (hq : stOK q) (h1 : q.1 ≤ 1) (h2 : h < 20) : oOK (o ++ [q]) (h + 1) := by
  refine ⟨fun x hx => ?_, ?_⟩
  · rcases List.mem_append.mp hx with z | z
    · exact a.1 x z
    · rw [List.mem_singleton.mp z]; exact hq
  · rw [hg_app, a.2]
    show (if q.1 ≤ 1 then (if h < 20 then some (h + 1) else none) else if 2 ≤ h then some (h - 1) else none) = some (h + 1)
    rw [if_pos h1, if_pos h2]
theorem oOK_op {o : List (Nat × Nat)} {h : Nat} {q : Nat × Nat} (a : oOK o (h + 1)) (h1 : 2 ≤ q.1 ∧ q.1 ≤ 5) (h2 : 1 ≤ h) : oOK (o ++ [q]) h := by
  refine ⟨fun x hx => ?_, ?_⟩
  · rcases List.mem_append.mp hx with z | z
    · exact a.1 x z
    · rw [List.mem_singleton.mp z]; exact Or.inr (Or.inr h1)
  · rw [hg_app, a.2]
    show (if q.1 ≤ 1 then (if h + 1 < 20 then some (h + 1 + 1) else none) else if 2 ≤ h + 1 then some (h + 1 - 1) else none) = some h
    rw [if_neg (by omega), if_pos (by omega)]; rfl
theorem stpK_le (k : Nat) : 2 ≤ stpK k ∧ stpK k ≤ 5 := by
  unfold stpK; split <;> (try split) <;> (try split) <;> omega
theorem unw_ok {r : Nat} : ∀ (st : List Nat) (o : List (Nat × Nat)), wfS st → oOK o (ops st + 1) → oOK (unw r st o).2 (ops (unw r st o).1 + 1) ∧ (unw r st o).2.length + ops (unw r st o).1 = o.length + ops st ∧ wfS (unw r st o).1 ∧ c6 (unw r st o).1 = c6 st ∧ (rkT (unw r st o).1 < r ∨ r = 0) ∧ ((unw r st o).1 = [] ∨ ∃ x t, (unw r st o).1 = x :: t ∧ (x = 6 ∨ rkK x < r))
  | [], o, h, a => ⟨a, rfl, h, rfl, by show 0 < r ∨ r = 0; omega, Or.inl rfl⟩
  | x :: t, o, h, a => by
    have e : unw r (x :: t) o = if x = 6 then (x :: t, o) else if rkK x < r then (x :: t, o) else unw r t (o ++ [(stpK x, 0)]) := rfl
    rw [e]
    by_cases h6 : x = 6
    · rw [if_pos h6]
      refine ⟨a, rfl, h, rfl, ?_, Or.inr ⟨x, t, rfl, Or.inl h6⟩⟩
      show rkK x < r ∨ r = 0
      rw [h6]
      have : rkK 6 = 0 := rfl
      omega
    · rw [if_neg h6]
      by_cases hr : rkK x < r
      · rw [if_pos hr]
        exact ⟨a, rfl, h, rfl, Or.inl hr, Or.inr ⟨x, t, rfl, Or.inr hr⟩⟩
      · rw [if_neg hr]
        have eo : ops (x :: t) = ops t + 1 := by
          show (if x = 6 then 0 else 1) + ops t = ops t + 1
          rw [if_neg h6]; omega
        have ec : c6 (x :: t) = c6 t := by
          show (if x = 6 then 1 else 0) + c6 t = c6 t
          rw [if_neg h6]; omega
        rw [eo] at a
        obtain ⟨g1, g2, g3, g4, g5, g6⟩ := unw_ok t (o ++ [(stpK x, 0)]) h.2 (oOK_op a (stpK_le x) (by omega))
        refine ⟨g1, ?_, g3, by rw [g4, ec], g5, g6⟩
        rw [g2, eo, List.length_append]
        show o.length + 1 + ops t = o.length + (ops t + 1)
        omega
theorem unw_0 {st : List Nat} {o : List (Nat × Nat)} (h : wfS st) (a : oOK o (ops st + 1)) : (c6 st = 0 ∧ (unw 0 st o).1 = []) ∨ ∃ t, (unw 0 st o).1 = 6 :: t := by
  obtain ⟨g1, g2, g3, g4, g5, g6⟩ := unw_ok (r := 0) st o h a
  rcases g6 with z | ⟨x, t, z, q⟩
  · rw [z] at g4
    exact Or.inl ⟨g4.symm, z⟩
  · have q : x = 6 := by omega
    rw [q] at z
    exact Or.inr ⟨t, z⟩
/-- what is true of an expression half read -/
def exI (ah : Bool) (st : List Nat) (o : List (Nat × Nat)) (p0 p : Nat) : Prop := oOK o (ops st + if ah = true then 1 else 0) ∧ wfS st ∧ o.length + ops st + p0 ≤ p ∧ c6 st ≤ 6 ∧ (ah = false → ops st ≤ 14)
theorem exI_14 {ah : Bool} {st : List Nat} {o : List (Nat × Nat)} {p0 p : Nat} (h : exI ah st o p0 p) : ops st ≤ 14 := by
  have h1 := ops_le st h.2.1
  have h2 := rkT_le st
  have h3 := h.2.2.2.1
  omega
theorem exI_unit {st : List Nat} {o : List (Nat × Nat)} {p0 p : Nat} {q : Nat × Nat} (h : exI false st o p0 p) (hq : stOK q) (h1 : q.1 ≤ 1) : exI true st (o ++ [q]) p0 (p + 1) := by
  have h14 := exI_14 h
  obtain ⟨a, b, c, d, -⟩ := h
  refine ⟨oOK_push a hq h1 (by show ops st < 20; omega), b, ?_, d, fun z => by cases z⟩
  rw [List.length_append]
  show o.length + 1 + ops st + p0 ≤ p + 1
  omega
theorem exI_open {st : List Nat} {o : List (Nat × Nat)} {p0 p : Nat} (h : exI false st o p0 p) (h6 : c6 st < 6) : exI false (6 :: st) o p0 (p + 1) := by
  have h14 := exI_14 h
  obtain ⟨a, b, c, d, -⟩ := h
  have eo : ops (6 :: st) = ops st := by show 0 + ops st = ops st; omega
  have ec : c6 (6 :: st) = c6 st + 1 := by show 1 + c6 st = c6 st + 1; omega
  exact ⟨by rw [eo]; exact a, ⟨Or.inl rfl, b⟩, by rw [eo]; omega, by rw [ec]; omega, fun _ => by rw [eo]; exact h14⟩
theorem exI_close {st : List Nat} {o : List (Nat × Nat)} {p0 p : Nat} (h : exI true st o p0 p) (h6 : 0 < c6 st) : exI true (unw 0 st o).1.tail (unw 0 st o).2 p0 (p + 1) ∧ c6 (unw 0 st o).1.tail + 1 = c6 st ∧ (unw 0 st o).1.length = (unw 0 st o).1.tail.length + 1 := by
  obtain ⟨a, b, c, d, -⟩ := h
  rw [if_pos rfl] at a
  obtain ⟨g1, g2, g3, g4, g5, g6⟩ := unw_ok (r := 0) st o b a
  rcases unw_0 b a with ⟨z, -⟩ | ⟨t, z⟩
  · omega
  · rw [z] at g1 g2 g3 g4 ⊢
    have eo : ops (6 :: t) = ops t := by show 0 + ops t = ops t; omega
    have ec : c6 (6 :: t) = c6 t + 1 := by show 1 + c6 t = c6 t + 1; omega
    rw [eo] at g1 g2
    rw [ec] at g4
    exact ⟨⟨by rw [if_pos rfl]; exact g1, g3.2, by show (unw 0 st o).2.length + ops t + p0 ≤ p + 1; omega, by show c6 t ≤ 6; omega, fun z => by cases z⟩, g4, rfl⟩
theorem exI_op {st : List Nat} {o : List (Nat × Nat)} {p0 p k : Nat} (h : exI true st o p0 p) (hk : 0 < rkK k) : exI false (k :: (unw (rkK k) st o).1) (unw (rkK k) st o).2 p0 (p + 1) := by
  obtain ⟨a, b, c, d, -⟩ := h
  rw [if_pos rfl] at a
  obtain ⟨g1, g2, g3, g4, g5, g6⟩ := unw_ok (r := rkK k) st o b a
  have hop := rkK_op hk
  have h6 : k ≠ 6 := by omega
  have hw : wfS (k :: (unw (rkK k) st o).1) := ⟨Or.inr ⟨h6, by omega⟩, g3⟩
  have eo : ops (k :: (unw (rkK k) st o).1) = ops (unw (rkK k) st o).1 + 1 := by
    show (if k = 6 then 0 else 1) + _ = _
    rw [if_neg h6]; omega
  have ec : c6 (k :: (unw (rkK k) st o).1) = c6 st := by
    show (if k = 6 then 1 else 0) + _ = _
    rw [if_neg h6]; omega
  have ho := ops_le _ hw
  have hr := rkT_le (k :: (unw (rkK k) st o).1)
  rw [ec] at ho
  exact ⟨by rw [if_neg (by decide), eo]; exact g1, hw, by rw [eo]; omega, by rw [ec]; exact d, fun _ => by omega⟩
theorem exI_end {st : List Nat} {o : List (Nat × Nat)} {p0 p : Nat} (h : exI true st o p0 p) (h6 : c6 st = 0) : oOK (unw 0 st o).2 1 ∧ (unw 0 st o).2.length + p0 ≤ p ∧ (unw 0 st o).1 = [] := by
  obtain ⟨a, b, c, d, -⟩ := h
  rw [if_pos rfl] at a
  obtain ⟨g1, g2, g3, g4, g5, g6⟩ := unw_ok (r := 0) st o b a
  rcases unw_0 b a with ⟨-, z⟩ | ⟨t, z⟩
  · rw [z] at g1 g2
    exact ⟨g1, by have : ops [] = 0 := rfl; omega, z⟩
  · rw [z] at g4
    have ec : c6 (6 :: t) = c6 t + 1 := by show 1 + c6 t = c6 t + 1; omega
    omega
theorem exI_0 {p : Nat} : exI false [] [] p p := ⟨⟨fun q h => (by cases h), rfl⟩, trivial, by show 0 + 0 + p ≤ p; omega, by decide, fun _ => by decide⟩
theorem exS_ok {p0 : Nat} (hV : ∀ p, K p = 2 → V p < 10000) : ∀ m ah st o p, exI ah st o p0 p → p ≤ 400 → 401 ≤ p + m →
    p ≤ (exS K V m ah st o p).1.2 ∧ (exS K V m ah st o p).1.2 ≤ 400 ∧ (exS K V m ah st o p).1.1 ≤ 2 ∧ ((exS K V m ah st o p).1.1 = 0 → eOK (exS K V m ah st o p).2 ∧ (exS K V m ah st o p).2.length + p0 ≤ (exS K V m ah st o p).1.2 ∧ ∀ q, p ≤ q → q < (exS K V m ah st o p).1.2 → K q ≠ 4 ∧ K q ≠ 0) := by
  intro m
  induction m with
  | zero => intro ah st o p _ h1 h2; omega
  | succ m ih =>
    intro ah st o p hI hp hm
    have flt : ∀ f : Nat, f ≤ 2 → f ≠ 0 → p ≤ (((f, p), o) : (Nat × Nat) × List (Nat × Nat)).1.2 ∧ (((f, p), o) : (Nat × Nat) × List (Nat × Nat)).1.2 ≤ 400 ∧ (((f, p), o) : (Nat × Nat) × List (Nat × Nat)).1.1 ≤ 2 ∧ ((((f, p), o) : (Nat × Nat) × List (Nat × Nat)).1.1 = 0 → eOK (((f, p), o) : (Nat × Nat) × List (Nat × Nat)).2 ∧ (((f, p), o) : (Nat × Nat) × List (Nat × Nat)).2.length + p0 ≤ (((f, p), o) : (Nat × Nat) × List (Nat × Nat)).1.2 ∧ ∀ q, p ≤ q → q < (((f, p), o) : (Nat × Nat) × List (Nat × Nat)).1.2 → K q ≠ 4 ∧ K q ≠ 0) :=
      fun f h1 h2 => ⟨Nat.le_refl _, hp, h1, fun z => absurd z h2⟩
    have go : ∀ ah2 st2 o2, exI ah2 st2 o2 p0 (p + 1) → p < 400 → K p ≠ 4 ∧ K p ≠ 0 → p ≤ (exS K V m ah2 st2 o2 (p + 1)).1.2 ∧ (exS K V m ah2 st2 o2 (p + 1)).1.2 ≤ 400 ∧ (exS K V m ah2 st2 o2 (p + 1)).1.1 ≤ 2 ∧ ((exS K V m ah2 st2 o2 (p + 1)).1.1 = 0 → eOK (exS K V m ah2 st2 o2 (p + 1)).2 ∧ (exS K V m ah2 st2 o2 (p + 1)).2.length + p0 ≤ (exS K V m ah2 st2 o2 (p + 1)).1.2 ∧ ∀ q, p ≤ q → q < (exS K V m ah2 st2 o2 (p + 1)).1.2 → K q ≠ 4 ∧ K q ≠ 0) := by
      intro ah2 st2 o2 h2 hlt hK
      obtain ⟨g1, g2, g3, g4⟩ := ih ah2 st2 o2 (p + 1) h2 (by omega) (by omega)
      refine ⟨by omega, g2, g3, fun z => ⟨(g4 z).1, (g4 z).2.1, fun q hq1 hq2 => ?_⟩⟩
      by_cases e : q = p
      · rw [e]; exact hK
      · exact (g4 z).2.2 q (by omega) hq2
    unfold exS
    cases ah with
    | false =>
      rw [if_pos rfl]
      split
      · split
        · split
          · exact go _ _ _ (exI_open hI (by assumption)) (by assumption) (by omega)
          · exact flt 2 (by decide) (by decide)
        · exact flt 2 (by decide) (by decide)
      · split
        · rename_i h2
          split
          · exact go _ _ _ (exI_unit hI (Or.inl ⟨rfl, hV p h2⟩) (by show 0 ≤ 1; decide)) (by assumption) (by omega)
          · exact flt 2 (by decide) (by decide)
        · split
          · rename_i h2
            split
            · exact go _ _ _ (exI_unit hI (Or.inr (Or.inl ⟨rfl, by show K p - 34 < 9; omega⟩)) (by show 1 ≤ 1; decide)) (by assumption) (by omega)
            · exact flt 2 (by decide) (by decide)
          · exact flt 1 (by decide) (by decide)
    | true =>
      rw [if_neg (by decide)]
      split
      · rename_i h7
        split
        · exact go _ _ _ (exI_close hI h7.2).1 (by assumption) (by omega)
        · exact flt 2 (by decide) (by decide)
      · split
        · rename_i h8
          have hop := rkK_op h8
          split
          · exact go _ _ _ (exI_op hI h8) (by assumption) (by omega)
          · exact flt 2 (by decide) (by decide)
        · split
          · exact flt 1 (by decide) (by decide)
          · obtain ⟨g1, g2, -⟩ := exI_end hI (by omega)
            exact ⟨Nat.le_refl _, hp, by show 0 ≤ 2; decide, fun _ => ⟨g1, g2, fun q h1 h2 => by have h2 : q < p := h2; omega⟩⟩
theorem exU_ok (hV : ∀ p, K p = 2 → V p < 10000) {s : Nat × Nat} (h : s.2 ≤ 400 ∧ s.1 ≤ 2) : s.2 ≤ (exU K V s).1.2 ∧ (exU K V s).1.2 ≤ 400 ∧ (exU K V s).1.1 ≤ 2 ∧ ((exU K V s).1.1 = 0 → s.1 = 0 ∧ eOK (exU K V s).2 ∧ (exU K V s).2.length + s.2 ≤ (exU K V s).1.2 ∧ ∀ q, s.2 ≤ q → q < (exU K V s).1.2 → K q ≠ 4 ∧ K q ≠ 0) := by
  unfold exU
  by_cases c : s.1 = 0
  · rw [if_pos c]
    obtain ⟨g1, g2, g3, g4⟩ := exS_ok (p0 := s.2) hV (401 - s.2) false [] [] s.2 exI_0 h.1 (by omega)
    exact ⟨g1, g2, g3, fun z => ⟨c, g4 z⟩⟩
  · rw [if_neg c]
    exact ⟨Nat.le_refl _, h.1, h.2, fun z => absurd z c⟩
theorem exU_f {s : Nat × Nat} (h : s.1 ≠ 0) : exU K V s = (s, []) := if_neg h
def lnB : List Br → Nat
  | [] => 0
  | q :: r => q.1.length + q.2.1.length + q.2.2.length + 3 + lnB r
theorem lnB_app : ∀ (a b : List Br), lnB (a ++ b) = lnB a + lnB b
  | [], b => by show lnB b = 0 + lnB b; omega
  | q :: r, b => by
    show q.1.length + q.2.1.length + q.2.2.length + 3 + lnB (r ++ b) = q.1.length + q.2.1.length + q.2.2.length + 3 + lnB r + lnB b
    rw [lnB_app r b]; omega
theorem lwS_ok (hV : ∀ p, K p = 2 → V p < 10000) {p0 : Nat} : ∀ m s bs, s.2 ≤ 400 ∧ s.1 ≤ 2 → lnB bs + p0 ≤ s.2 →
    s.2 ≤ (lwS K V m s bs).1.2 ∧ (lwS K V m s bs).1.2 ≤ 400 ∧ (lwS K V m s bs).1.1 ≤ 2 ∧ ((lwS K V m s bs).1.1 = 0 → 0 < m → (∀ q ∈ bs, eOK q.1 ∧ eOK q.2.1 ∧ eOK q.2.2) → bsOK (lwS K V m s bs).2.1 (lwS K V m s bs).2.2 ∧ lnB (lwS K V m s bs).2.1 + (lwS K V m s bs).2.2.length + p0 + 1 ≤ (lwS K V m s bs).1.2 ∧ s.1 = 0 ∧ s.2 < (lwS K V m s bs).1.2 ∧ K ((lwS K V m s bs).1.2 - 1) = 4 ∧ ∀ q, s.2 ≤ q → q + 1 < (lwS K V m s bs).1.2 → K q ≠ 4 ∧ K q ≠ 0) := by
  intro m
  induction m with
  | zero => intro s bs h hl; exact ⟨Nat.le_refl _, h.1, h.2, fun _ z => absurd z (Nat.lt_irrefl 0)⟩
  | succ m ih =>
    intro s bs h hl
    unfold lwS
    by_cases c : s.1 = 0 ∧ K s.2 = 31
    · rw [if_pos c]
      by_cases hm : m = 0
      · rw [if_pos hm]
        exact ⟨Nat.le_refl _, h.1, by show 2 ≤ 2; decide, fun z => by cases z⟩
      · rw [if_neg hm]
        have a0 := adv_le h.1
        obtain ⟨a1, a2, a3, a4⟩ := exU_ok (K := K) hV (s := adv s.2) ⟨a0.2.1, a0.2.2⟩
        have b0 := mus_le (K := K) (k := 13) (s := (exU K V (adv s.2)).1) ⟨a2, a3⟩
        obtain ⟨b1, b2, b3, b4⟩ := exU_ok (K := K) hV (s := mus K 13 (exU K V (adv s.2)).1) b0.2
        have c0 := mus_le (K := K) (k := 32) (s := (exU K V (mus K 13 (exU K V (adv s.2)).1)).1) ⟨b2, b3⟩
        obtain ⟨c1, c2, c3, c4⟩ := exU_ok (K := K) hV (s := mus K 32 (exU K V (mus K 13 (exU K V (adv s.2)).1)).1) c0.2
        have d0 := mus_le (K := K) (k := 33) (s := (exU K V (mus K 32 (exU K V (mus K 13 (exU K V (adv s.2)).1)).1)).1) ⟨c2, c3⟩
        generalize hA : exU K V (adv s.2) = A at *
        generalize hB : exU K V (mus K 13 A.1) = B at *
        generalize hC : exU K V (mus K 32 B.1) = C at *
        by_cases hf : (mus K 33 C.1).1 = 0
        · obtain ⟨f1, f2, f3, f4⟩ := mus_0 hf
          obtain ⟨e1, e2, e3, e4⟩ := c4 f1
          obtain ⟨g1, g2, g3, g4⟩ := mus_0 e1
          obtain ⟨i1, i2, i3, i4⟩ := b4 g1
          obtain ⟨j1, j2, j3, j4⟩ := mus_0 i1
          obtain ⟨k1, k2, k3, k4⟩ := a4 j1
          obtain ⟨l1, l2⟩ := adv_0 k1
          have l3 : (adv s.2).2 = s.2 + 1 := by rw [l2]
          have j5 : (mus K 13 A.1).2 = A.1.2 + 1 := by rw [j4]
          have g5 : (mus K 32 B.1).2 = B.1.2 + 1 := by rw [g4]
          have f5 : (mus K 33 C.1).2 = C.1.2 + 1 := by rw [f4]
          have hln : lnB (bs ++ [(A.2, B.2, C.2)]) + p0 ≤ (mus K 33 C.1).2 := by
            rw [lnB_app]
            show lnB bs + (A.2.length + B.2.length + C.2.length + 3 + 0) + p0 ≤ _
            omega
          obtain ⟨m1, m2, m3, m4⟩ := ih (mus K 33 C.1) (bs ++ [(A.2, B.2, C.2)]) d0.2 hln
          refine ⟨by omega, m2, m3, fun z hz hq => ?_⟩
          obtain ⟨n1, n2, n3, n4, n5, n6⟩ := m4 z (by omega) (fun q hq2 => by
            rcases List.mem_append.mp hq2 with y | y
            · exact hq q y
            · rw [List.mem_singleton.mp y]; exact ⟨k2, i2, e2⟩)
          refine ⟨n1, n2, c.1, by omega, n5, fun q hq1 hq2 => ?_⟩
          by_cases q0 : q = s.2
          · rw [q0, c.2]; exact ⟨by decide, by decide⟩
          by_cases q1 : q < A.1.2
          · exact k4 q (by omega) q1
          by_cases q2 : q = A.1.2
          · rw [q2, j2]; exact ⟨by decide, by decide⟩
          by_cases q3 : q < B.1.2
          · exact i4 q (by omega) q3
          by_cases q4 : q = B.1.2
          · rw [q4, g2]; exact ⟨by decide, by decide⟩
          by_cases q5 : q < C.1.2
          · exact e4 q (by omega) q5
          by_cases q6 : q = C.1.2
          · rw [q6, f2]; exact ⟨by decide, by decide⟩
          · exact n6 q (by omega) hq2
        · have hx : lwS K V m (mus K 33 C.1) (bs ++ [(A.2, B.2, C.2)]) = (mus K 33 C.1, (lwS K V m (mus K 33 C.1) (bs ++ [(A.2, B.2, C.2)])).2) := by
            cases m with
            | zero => exact absurd rfl hm
            | succ m =>
              show (if (mus K 33 C.1).1 = 0 ∧ K (mus K 33 C.1).2 = 31 then _ else (mus K 4 (exU K V (mus K 33 C.1)).1, bs ++ [(A.2, B.2, C.2)], (exU K V (mus K 33 C.1)).2)) = _
              have hq : lwS K V (m + 1) (mus K 33 C.1) (bs ++ [(A.2, B.2, C.2)]) = (mus K 33 C.1, bs ++ [(A.2, B.2, C.2)], []) := by
                unfold lwS
                rw [if_neg (fun z => hf z.1), exU_f hf, mus_f hf]
              rw [hq, if_neg (fun z => hf z.1), exU_f hf, mus_f hf]
          rw [hx]
          exact ⟨by show s.2 ≤ (mus K 33 C.1).2; omega, d0.2.1, d0.2.2, fun z => absurd z hf⟩
    · rw [if_neg c]
      obtain ⟨a1, a2, a3, a4⟩ := exU_ok (K := K) hV h
      have b0 := mus_le (K := K) (k := 4) (s := (exU K V s).1) ⟨a2, a3⟩
      refine ⟨Nat.le_trans a1 b0.1, b0.2.1, b0.2.2, fun z hz hq => ?_⟩
      obtain ⟨f1, f2, f3, f4⟩ := mus_0 z
      obtain ⟨k1, k2, k3, k4⟩ := a4 f1
      have f5 : (mus K 4 (exU K V s).1).2 = (exU K V s).1.2 + 1 := by rw [f4]
      refine ⟨⟨k2, hq⟩, by show lnB bs + (exU K V s).2.length + p0 + 1 ≤ (mus K 4 (exU K V s).1).2; omega, k1, by show s.2 < (mus K 4 (exU K V s).1).2; omega, ?_, fun q hq1 hq2 => k4 q hq1 ?_⟩
      · show K ((mus K 4 (exU K V s).1).2 - 1) = 4
        rw [f5]; exact f2
      · have hq2 : q + 1 < (mus K 4 (exU K V s).1).2 := hq2
        omega
theorem nmS_ok : ∀ m s, s.2 ≤ 400 ∧ s.1 ≤ 2 → s.2 ≤ (nmS K m s).2 ∧ (nmS K m s).2 ≤ 400 ∧ (nmS K m s).1 ≤ 2 ∧ ((nmS K m s).1 = 0 → s.1 = 0 ∧ ∀ q, s.2 ≤ q → q < (nmS K m s).2 → K q = 1)
  | 0, s, h => ⟨Nat.le_refl _, h.1, h.2, fun z => ⟨z, fun q h1 h2 => by have h2 : q < s.2 := h2; omega⟩⟩
  | m + 1, s, h => by
    unfold nmS
    by_cases c : s.1 = 0 ∧ K s.2 = 1
    · rw [if_pos c]
      have a0 := adv_le h.1
      obtain ⟨g1, g2, g3, g4⟩ := nmS_ok m (adv s.2) a0.2
      refine ⟨by omega, g2, g3, fun z => ⟨c.1, fun q h1 h2 => ?_⟩⟩
      obtain ⟨k1, k2⟩ := g4 z
      have l3 : (adv s.2).2 = s.2 + 1 := by rw [(adv_0 k1).2]
      by_cases e : q = s.2
      · rw [e]; exact c.2
      · exact k2 q (by omega) h2
    · rw [if_neg c]
      exact ⟨Nat.le_refl _, h.1, h.2, fun z => ⟨z, fun q h1 h2 => by omega⟩⟩
end
/-! what a text's tellings come to -/
def fnd : List (Nat × Nat × Nat) → Nat → Nat → Option Nat
  | [], _, _ => none
  | q :: r, s, x => if q.1 = x ∧ q.2.1 = s then some q.2.2 else fnd r s x
def hasN : List (Nat × Nat × Nat) → Nat → Bool
  | [], _ => false
  | q :: r, x => if q.1 = x then true else hasN r x
def wrK (w : Nat × Nat) (k q : Nat) : Nat × Nat := if w.1 = 0 then (k, q) else w
def ckN (N : Nat → Nat) (L : List (Nat × Nat × Nat)) (w : Nat × Nat) (q : Nat) : Nat × Nat := if hasN L (N q) = true then wrK w 3 q else w
def ckV (V : Nat → Nat) (w : Nat × Nat) (lo hi q : Nat) : Nat × Nat := if V q < lo ∨ hi < V q then wrK w 5 q else w
def ckF (N : Nat → Nat) (L : List (Nat × Nat × Nat)) (w : Nat × Nat) (s q : Nat) : Nat × Nat := if fnd L s (N q) = none then wrK w 4 q else w
def ckT (N : Nat → Nat) (L : List (Nat × Nat × Nat)) (T : Nat → Nat → Nat) (x : Option Nat) (w : Nat × Nat) (q : Nat) : Nat × Nat := match fnd L 2 (N q) with
  | none => wrK w 4 q
  | some a => if some a = x ∨ T 15 a ≠ 0 then wrK w 3 q else w
def pst (K N : Nat → Nat) (L : List (Nat × Nat × Nat)) : Nat → Nat → Nat → Nat × Nat → Nat × (Nat × Nat)
  | 0, _, S, w => (S, w)
  | m + 1, q, S, w => if K q = 1 then (match fnd L 1 (N q) with
      | none => pst K N L m (q + 1) S (wrK w 4 q)
      | some i => pst K N L m (q + 1) (S ||| 2 ^ i) (if S / 2 ^ i % 2 = 1 then wrK w 3 q else w)) else (S, w)
abbrev Sg : Type := (Nat → Nat → Nat) × List (Nat × Nat × Nat) × (Nat × Nat) × (Nat → Option Lw)
def givT (N V : Nat → Nat) (L : List (Nat × Nat × Nat)) (T : Nat → Nat → Nat) (p : Nat) : Nat → Nat → Nat := match fnd L 1 (N (p + 1)), fnd L 0 (N (p + 2)) with
  | some i, some k => up2 T 10 (7 * i + k) (V (p + 3))
  | _, _ => T
def twiT (N : Nat → Nat) (L : List (Nat × Nat × Nat)) (T : Nat → Nat → Nat) (p : Nat) : Nat → Nat → Nat := match fnd L 2 (N (p + 1)), fnd L 2 (N (p + 2)) with
  | some a, some o => up2 (up2 T 15 a (o + 1)) 15 o (a + 1)
  | _, _ => T
def smn (K V N : Nat → Nat) (p : Nat) (g : Sg) : Sg :=
  if K p = 20 then (up2 (up2 g.1 6 (g.1 0 0) (V (p + 2))) 0 0 (g.1 0 0 + 1), g.2.1 ++ [(N (p + 1), 0, g.1 0 0)], ckV V (ckN N g.2.1 g.2.2.1 (p + 1)) 0 99 (p + 2), g.2.2.2)
  else if K p = 21 then (up2 (up2 (up2 (up2 g.1 7 (g.1 1 0) (V (p + 2))) 8 (g.1 1 0) (V (p + 3))) 9 (g.1 1 0) (V (p + 4))) 1 0 (g.1 1 0 + 1), g.2.1 ++ [(N (p + 1), 1, g.1 1 0)], ckV V (ckV V (ckV V (ckN N g.2.1 g.2.2.1 (p + 1)) 0 99 (p + 2)) 1 7 (p + 3)) 0 9 (p + 4), g.2.2.2)
  else if K p = 22 then (givT N V g.2.1 g.1 p, g.2.1, ckV V (ckF N g.2.1 (ckF N g.2.1 g.2.2.1 1 (p + 1)) 0 (p + 2)) 0 9 (p + 3), g.2.2.2)
  else if K p = 23 then (up2 (up2 (up2 (up2 g.1 12 (g.1 2 0) (V (p + 2))) 13 (g.1 2 0) (V (p + 3))) 14 (g.1 2 0) (V (p + 4))) 2 0 (g.1 2 0 + 1), g.2.1 ++ [(N (p + 1), 2, g.1 2 0)], ckV V (ckV V (ckV V (ckN N g.2.1 g.2.2.1 (p + 1)) 0 999 (p + 2)) 0 100 (p + 3)) 0 9 (p + 4), g.2.2.2)
  else if K p = 24 then (up2 (twiT N g.2.1 g.1 p) 11 0 (g.1 11 0 + 1), g.2.1, ckT N g.2.1 g.1 (fnd g.2.1 2 (N (p + 1))) (ckT N g.2.1 g.1 none g.2.2.1 (p + 1)) (p + 2), g.2.2.2)
  else if K p = 25 then (up2 (up2 g.1 16 (g.1 3 0) (pst K N g.2.1 401 (p + 2) 0 (ckN N g.2.1 g.2.2.1 (p + 1))).1) 3 0 (g.1 3 0 + 1), g.2.1 ++ [(N (p + 1), 3, g.1 3 0)], (pst K N g.2.1 401 (p + 2) 0 (ckN N g.2.1 g.2.2.1 (p + 1))).2, g.2.2.2)
  else if K p = 29 then (up2 g.1 4 0 (V (p + 1)), g.2.1, ckV V g.2.2.1 1 9 (p + 1), g.2.2.2)
  else if K p = 30 then (up2 g.1 5 0 (V (p + 1)), g.2.1, ckV V g.2.2.1 0 9999 (p + 1), g.2.2.2)
  else (g.1, g.2.1, g.2.2.1, fun k => if k = K p - 26 then some (lwS K V 5 (mus K 5 (adv p)) []).2 else g.2.2.2 k)
def rnS (K V N : Nat → Nat) : Nat → Nat → Sg → (Nat × Nat) × Sg
  | 0, p, g => ((0, p), g)
  | m + 1, p, g => if K p = 0 then ((0, p), g) else if (syn K V g.1 p).1 = 0 then rnS K V N m (syn K V g.1 p).2 (smn K V N p g) else (syn K V g.1 p, g)
def T0p : Nat → Nat → Nat := fun c _ => if c = 4 then 2 else if c = 8 then 1 else if c = 10 then 1 else 0
def g0p : Sg := (T0p, [], (0, 0), fun _ => none)
section
variable {K V N : Nat → Nat} {T : Nat → Nat → Nat} {p : Nat}
theorem syn_20 (h : K p = 20) : syn K V T p = if T 0 0 = 7 then (2, p) else mus K 4 (mus K 2 (mus K 1 (adv p))) := by unfold syn; rw [if_pos h]
theorem syn_21 (h : K p = 21) : syn K V T p = if T 1 0 = 5 then (2, p) else mus K 4 (mus K 2 (mus K 2 (mus K 2 (mus K 1 (adv p))))) := by unfold syn; rw [if_neg (by omega), if_pos h]
theorem syn_22 (h : K p = 22) : syn K V T p = mus K 4 (mus K 2 (mus K 1 (mus K 1 (adv p)))) := by unfold syn; rw [if_neg (by omega), if_neg (by omega), if_pos h]
theorem syn_23 (h : K p = 23) : syn K V T p = if T 2 0 = 6 then (2, p) else mus K 4 (mus K 2 (mus K 2 (mus K 2 (mus K 1 (adv p))))) := by unfold syn; rw [if_neg (by omega), if_neg (by omega), if_neg (by omega), if_pos h]
theorem syn_24 (h : K p = 24) : syn K V T p = if T 11 0 = 3 then (2, p) else mus K 4 (mus K 1 (mus K 1 (adv p))) := by unfold syn; rw [if_neg (by omega), if_neg (by omega), if_neg (by omega), if_neg (by omega), if_pos h]
theorem syn_25 (h : K p = 25) : syn K V T p = if T 3 0 = 6 then (2, p) else mus K 4 (nmS K 401 (mus K 1 (adv p))) := by unfold syn; rw [if_neg (by omega), if_neg (by omega), if_neg (by omega), if_neg (by omega), if_neg (by omega), if_pos h]
theorem syn_26 (h : 26 ≤ K p ∧ K p ≤ 28) : syn K V T p = (lwS K V 5 (mus K 5 (adv p)) []).1 := by unfold syn; rw [if_neg (by omega), if_neg (by omega), if_neg (by omega), if_neg (by omega), if_neg (by omega), if_neg (by omega), if_pos h]
theorem syn_29 (h : K p = 29 ∨ K p = 30) : syn K V T p = mus K 4 (mus K 2 (adv p)) := by
  unfold syn; rw [if_neg (by omega), if_neg (by omega), if_neg (by omega), if_neg (by omega), if_neg (by omega), if_neg (by omega), if_neg (by omega)]
  rcases h with h | h
  · rw [if_pos h]
  · rw [if_neg (by omega), if_pos h]
theorem syn_no (h : K p < 20 ∨ 30 < K p) : syn K V T p = (1, p) := by unfold syn; rw [if_neg (by omega), if_neg (by omega), if_neg (by omega), if_neg (by omega), if_neg (by omega), if_neg (by omega), if_neg (by omega), if_neg (by omega), if_neg (by omega)]
variable {g : Sg}
theorem smn_20 (h : K p = 20) : smn K V N p g = (up2 (up2 g.1 6 (g.1 0 0) (V (p + 2))) 0 0 (g.1 0 0 + 1), g.2.1 ++ [(N (p + 1), 0, g.1 0 0)], ckV V (ckN N g.2.1 g.2.2.1 (p + 1)) 0 99 (p + 2), g.2.2.2) := by unfold smn; rw [if_pos h]
theorem smn_21 (h : K p = 21) : smn K V N p g = (up2 (up2 (up2 (up2 g.1 7 (g.1 1 0) (V (p + 2))) 8 (g.1 1 0) (V (p + 3))) 9 (g.1 1 0) (V (p + 4))) 1 0 (g.1 1 0 + 1), g.2.1 ++ [(N (p + 1), 1, g.1 1 0)], ckV V (ckV V (ckV V (ckN N g.2.1 g.2.2.1 (p + 1)) 0 99 (p + 2)) 1 7 (p + 3)) 0 9 (p + 4), g.2.2.2) := by unfold smn; rw [if_neg (by omega), if_pos h]
theorem smn_22 (h : K p = 22) : smn K V N p g = (givT N V g.2.1 g.1 p, g.2.1, ckV V (ckF N g.2.1 (ckF N g.2.1 g.2.2.1 1 (p + 1)) 0 (p + 2)) 0 9 (p + 3), g.2.2.2) := by unfold smn; rw [if_neg (by omega), if_neg (by omega), if_pos h]
theorem smn_23 (h : K p = 23) : smn K V N p g = (up2 (up2 (up2 (up2 g.1 12 (g.1 2 0) (V (p + 2))) 13 (g.1 2 0) (V (p + 3))) 14 (g.1 2 0) (V (p + 4))) 2 0 (g.1 2 0 + 1), g.2.1 ++ [(N (p + 1), 2, g.1 2 0)], ckV V (ckV V (ckV V (ckN N g.2.1 g.2.2.1 (p + 1)) 0 999 (p + 2)) 0 100 (p + 3)) 0 9 (p + 4), g.2.2.2) := by unfold smn; rw [if_neg (by omega), if_neg (by omega), if_neg (by omega), if_pos h]
theorem smn_24 (h : K p = 24) : smn K V N p g = (up2 (twiT N g.2.1 g.1 p) 11 0 (g.1 11 0 + 1), g.2.1, ckT N g.2.1 g.1 (fnd g.2.1 2 (N (p + 1))) (ckT N g.2.1 g.1 none g.2.2.1 (p + 1)) (p + 2), g.2.2.2) := by unfold smn; rw [if_neg (by omega), if_neg (by omega), if_neg (by omega), if_neg (by omega), if_pos h]
theorem smn_25 (h : K p = 25) : smn K V N p g = (up2 (up2 g.1 16 (g.1 3 0) (pst K N g.2.1 401 (p + 2) 0 (ckN N g.2.1 g.2.2.1 (p + 1))).1) 3 0 (g.1 3 0 + 1), g.2.1 ++ [(N (p + 1), 3, g.1 3 0)], (pst K N g.2.1 401 (p + 2) 0 (ckN N g.2.1 g.2.2.1 (p + 1))).2, g.2.2.2) := by unfold smn; rw [if_neg (by omega), if_neg (by omega), if_neg (by omega), if_neg (by omega), if_neg (by omega), if_pos h]
theorem smn_29 (h : K p = 29) : smn K V N p g = (up2 g.1 4 0 (V (p + 1)), g.2.1, ckV V g.2.2.1 1 9 (p + 1), g.2.2.2) := by unfold smn; rw [if_neg (by omega), if_neg (by omega), if_neg (by omega), if_neg (by omega), if_neg (by omega), if_neg (by omega), if_pos h]
theorem smn_30 (h : K p = 30) : smn K V N p g = (up2 g.1 5 0 (V (p + 1)), g.2.1, ckV V g.2.2.1 0 9999 (p + 1), g.2.2.2) := by unfold smn; rw [if_neg (by omega), if_neg (by omega), if_neg (by omega), if_neg (by omega), if_neg (by omega), if_neg (by omega), if_neg (by omega), if_pos h]
theorem smn_26 (h : 26 ≤ K p ∧ K p ≤ 28) : smn K V N p g = (g.1, g.2.1, g.2.2.1, fun k => if k = K p - 26 then some (lwS K V 5 (mus K 5 (adv p)) []).2 else g.2.2.2 k) := by unfold smn; rw [if_neg (by omega), if_neg (by omega), if_neg (by omega), if_neg (by omega), if_neg (by omega), if_neg (by omega), if_neg (by omega), if_neg (by omega)]
theorem givT_f {L : List (Nat × Nat × Nat)} {c k : Nat} (h : c ≠ 10) : givT N V L T p c k = T c k := by
  unfold givT
  cases fnd L 1 (N (p + 1)) with
  | none => rfl
  | some i => cases fnd L 0 (N (p + 2)) with
    | none => rfl
    | some j => exact up2_o h
theorem twiT_f {L : List (Nat × Nat × Nat)} {c k : Nat} (h : c ≠ 15) : twiT N L T p c k = T c k := by
  unfold twiT
  cases fnd L 2 (N (p + 1)) with
  | none => rfl
  | some i => cases fnd L 2 (N (p + 2)) with
    | none => rfl
    | some j => show up2 (up2 T 15 i (j + 1)) 15 j (i + 1) c k = _; rw [up2_o h, up2_o h]
/-- the numbers of things, inns, guests, twins, posts by their words -/
def cn5 (T : Nat → Nat → Nat) (j : Nat) : Nat := if j = 0 then T 0 0 else if j = 1 then T 1 0 else if j = 3 then T 2 0 else if j = 4 then T 11 0 else T 3 0
def is5 (j : Nat) : Prop := j = 0 ∨ j = 1 ∨ j = 3 ∨ j = 4 ∨ j = 5
theorem smn_cn (hk : 20 ≤ K p ∧ K p ≤ 30) {j : Nat} (hj : is5 j) : cn5 (smn K V N p g).1 j = if K p = 20 + j then cn5 g.1 j + 1 else cn5 g.1 j := by
  rcases (show K p = 20 ∨ K p = 21 ∨ K p = 22 ∨ K p = 23 ∨ K p = 24 ∨ K p = 25 ∨ (26 ≤ K p ∧ K p ≤ 28) ∨ K p = 29 ∨ K p = 30 by omega) with h | h | h | h | h | h | h | h | h
  · rw [smn_20 h, h]
    rcases hj with e | e | e | e | e <;> subst e <;> simp [cn5, up2]
  · rw [smn_21 h, h]
    rcases hj with e | e | e | e | e <;> subst e <;> simp [cn5, up2]
  · rw [smn_22 h, h]
    rcases hj with e | e | e | e | e <;> subst e <;> simp [cn5, givT_f]
  · rw [smn_23 h, h]
    rcases hj with e | e | e | e | e <;> subst e <;> simp [cn5, up2]
  · rw [smn_24 h, h]
    rcases hj with e | e | e | e | e <;> subst e <;> simp [cn5, up2, twiT_f]
  · rw [smn_25 h, h]
    rcases hj with e | e | e | e | e <;> subst e <;> simp [cn5, up2]
  · rw [smn_26 h, if_neg (by unfold is5 at hj; omega)]
  · rw [smn_29 h, h, if_neg (by unfold is5 at hj; omega)]
    rcases hj with e | e | e | e | e <;> subst e <;> simp [cn5, up2]
  · rw [smn_30 h, h, if_neg (by unfold is5 at hj; omega)]
    rcases hj with e | e | e | e | e <;> subst e <;> simp [cn5, up2]
end
