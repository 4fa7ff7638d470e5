/-! EACH FIELD AND ARRAY OF STATES, BORDERS, TEXTS AND LAWS -/
def lwL : List Nat := [28, 31, 34, 49, 52, 55]
def bT (b : Nat) (bt tt : Value) : Value := if b = 58 then bt else tt
set_option maxRecDepth 100000 in
theorem RT_st {tx sp s k : Nat} {bt tt : Value} (h : s ∈ stL) (hk : k < 9) : RT tx sp bt tt s (k + 3) = .ref (s + 1 + k) := by
  obtain ⟨a, b, c⟩ := stL_ne s h
  unfold RT
  rw [if_neg (fun q => a q.1), if_neg (fun q => a q.1), if_neg (fun q => b q.1), if_neg (fun q => c q.1), st_rt s h k hk]
set_option maxRecDepth 100000 in
theorem b_sh : ∀ b ∈ [58, 71], b + 12 < NH ∧ sh b = (0, 5) ∧ sh (b + 11) = (100, 6) ∧ sh (b + 12) = (100, 9) ∧ b + 1 ∈ stL := by decide +kernel
set_option maxRecDepth 100000 in
theorem l_sh : ∀ l ∈ lwL, l + 2 < NH ∧ sh l = (3, 3) ∧ sh (l + 1) = (100, 512) ∧ sh (l + 2) = (100, 64) ∧ l ≠ 0 ∧ l ≠ 58 ∧ l ≠ 71 ∧ (rtT.getD l []).getD 0 0 = l + 1 ∧ (rtT.getD l []).getD 1 0 = l + 2 := by decide +kernel
set_option maxRecDepth 100000 in
theorem t_sh : ∀ t ∈ [16, 37], t + 20 < NH ∧ sh t = (9, 20) ∧ t ≠ 0 ∧ t ≠ 58 ∧ t ≠ 71 ∧ t + 12 ∈ lwL ∧ t + 15 ∈ lwL ∧ t + 18 ∈ lwL := by decide +kernel
section
variable {I : Nat → Nat → Int32} {J : Nat → Nat → Int64} {tx sp s b t l : Nat} {bt tt : Value} {X : pG}
set_option maxRecDepth 100000 in
theorem gS0 (h : s ∈ stL) : pGetI X (HH I J tx sp bt tt) s 7 0 = some (I s 0) := pGetI_mk (n := 12) (by have := (st_sh s h).1; omega) NH_le (st_sh s h).2.1 (by decide) (by decide) rfl
set_option maxRecDepth 100000 in
theorem pS0 (h : s ∈ stL) {x : Int32} : pPut (HH I J tx sp bt tt) s 7 0 (.int x) = some (HH (up2 I s 0 x) J tx sp bt tt) := pPutI_mk (n := 12) (by have := (st_sh s h).1; omega) NH_le (st_sh s h).2.1 (by decide) (by decide) rfl
set_option maxRecDepth 100000 in
theorem gS1 (h : s ∈ stL) : pGetI X (HH I J tx sp bt tt) s 7 1 = some (I s 1) := pGetI_mk (n := 12) (by have := (st_sh s h).1; omega) NH_le (st_sh s h).2.1 (by decide) (by decide) rfl
set_option maxRecDepth 100000 in
theorem pS1 (h : s ∈ stL) {x : Int32} : pPut (HH I J tx sp bt tt) s 7 1 (.int x) = some (HH (up2 I s 1 x) J tx sp bt tt) := pPutI_mk (n := 12) (by have := (st_sh s h).1; omega) NH_le (st_sh s h).2.1 (by decide) (by decide) rfl
set_option maxRecDepth 100000 in
theorem gS2 (h : s ∈ stL) : pGetI X (HH I J tx sp bt tt) s 7 2 = some (I s 2) := pGetI_mk (n := 12) (by have := (st_sh s h).1; omega) NH_le (st_sh s h).2.1 (by decide) (by decide) rfl
set_option maxRecDepth 100000 in
theorem pS2 (h : s ∈ stL) {x : Int32} : pPut (HH I J tx sp bt tt) s 7 2 (.int x) = some (HH (up2 I s 2 x) J tx sp bt tt) := pPutI_mk (n := 12) (by have := (st_sh s h).1; omega) NH_le (st_sh s h).2.1 (by decide) (by decide) rfl
set_option maxRecDepth 100000 in
theorem gS3 (h : s ∈ stL) : pGetR X (HH I J tx sp bt tt) s 7 3 = some (s + 1) := pGetR_mk (n := 12) (by have := (st_sh s h).1; omega) NH_le (st_sh s h).2.1 (by decide) (by decide) rfl (RT_st (k := 0) h (by decide))
set_option maxRecDepth 100000 in
theorem aS3 (h : s ∈ stL) {i : Nat} (hi : i < 6) : pAldI X (HH I J tx sp bt tt) (s + 1) 100 (nI i) = some (I (s + 1) i) := pAldI_mk (n := 6) (by have := (st_sh s h).1; omega) NH_le (st_sh s h).2.2.1 (by decide) hi (by decide)
set_option maxRecDepth 100000 in
theorem sS3 (h : s ∈ stL) {i : Nat} {x : Int32} (hi : i < 6) : pAst (HH I J tx sp bt tt) (s + 1) 100 (nI i) (.int x) = some (HH (up2 I (s + 1) i x) J tx sp bt tt) := pAstI_mk (n := 6) (by have := (st_sh s h).1; omega) NH_le (st_sh s h).2.2.1 (by decide) hi (by decide)
set_option maxRecDepth 100000 in
theorem lS3 (h : s ∈ stL) : pAlen X (HH I J tx sp bt tt) (s + 1) = some (nI 6) := pAlen_mk (by have := (st_sh s h).1; omega) NH_le (st_sh s h).2.2.1 (by decide)
set_option maxRecDepth 100000 in
theorem cS3 {s2 : Nat} (h : s ∈ stL) (h2 : s2 ∈ stL) : pCopy (HH I J tx sp bt tt) (s + 1) 0 (s2 + 1) 0 6 = some (HH (fun a b => if a = s2 + 1 ∧ b < 6 then I (s + 1) b else I a b) J tx sp bt tt) := by
  refine (pCopy_mk (sp := 0) (dp := 0) (m := 6) (n := 6) (n2 := 6) (by have := (st_sh s h).1; omega) (by have := (st_sh s2 h2).1; omega) NH_le (st_sh s h).2.2.1 (st_sh s2 h2).2.2.1 (by decide) (by decide) (by decide) (by decide)).trans ?_
  simp only [Nat.zero_le, true_and, Nat.zero_add, Nat.sub_zero]
  rfl
set_option maxRecDepth 100000 in
theorem gS4 (h : s ∈ stL) : pGetR X (HH I J tx sp bt tt) s 7 4 = some (s + 2) := pGetR_mk (n := 12) (by have := (st_sh s h).1; omega) NH_le (st_sh s h).2.1 (by decide) (by decide) rfl (RT_st (k := 1) h (by decide))
set_option maxRecDepth 100000 in
theorem aS4 (h : s ∈ stL) {i : Nat} (hi : i < 6) : pAldI X (HH I J tx sp bt tt) (s + 2) 100 (nI i) = some (I (s + 2) i) := pAldI_mk (n := 6) (by have := (st_sh s h).1; omega) NH_le (st_sh s h).2.2.2.1 (by decide) hi (by decide)
set_option maxRecDepth 100000 in
theorem sS4 (h : s ∈ stL) {i : Nat} {x : Int32} (hi : i < 6) : pAst (HH I J tx sp bt tt) (s + 2) 100 (nI i) (.int x) = some (HH (up2 I (s + 2) i x) J tx sp bt tt) := pAstI_mk (n := 6) (by have := (st_sh s h).1; omega) NH_le (st_sh s h).2.2.2.1 (by decide) hi (by decide)
set_option maxRecDepth 100000 in
theorem lS4 (h : s ∈ stL) : pAlen X (HH I J tx sp bt tt) (s + 2) = some (nI 6) := pAlen_mk (by have := (st_sh s h).1; omega) NH_le (st_sh s h).2.2.2.1 (by decide)
set_option maxRecDepth 100000 in
theorem cS4 {s2 : Nat} (h : s ∈ stL) (h2 : s2 ∈ stL) : pCopy (HH I J tx sp bt tt) (s + 2) 0 (s2 + 2) 0 6 = some (HH (fun a b => if a = s2 + 2 ∧ b < 6 then I (s + 2) b else I a b) J tx sp bt tt) := by
  refine (pCopy_mk (sp := 0) (dp := 0) (m := 6) (n := 6) (n2 := 6) (by have := (st_sh s h).1; omega) (by have := (st_sh s2 h2).1; omega) NH_le (st_sh s h).2.2.2.1 (st_sh s2 h2).2.2.2.1 (by decide) (by decide) (by decide) (by decide)).trans ?_
  simp only [Nat.zero_le, true_and, Nat.zero_add, Nat.sub_zero]
  rfl
set_option maxRecDepth 100000 in
theorem gS5 (h : s ∈ stL) : pGetR X (HH I J tx sp bt tt) s 7 5 = some (s + 3) := pGetR_mk (n := 12) (by have := (st_sh s h).1; omega) NH_le (st_sh s h).2.1 (by decide) (by decide) rfl (RT_st (k := 2) h (by decide))
set_option maxRecDepth 100000 in
theorem aS5 (h : s ∈ stL) {i : Nat} (hi : i < 6) : pAldI X (HH I J tx sp bt tt) (s + 3) 100 (nI i) = some (I (s + 3) i) := pAldI_mk (n := 6) (by have := (st_sh s h).1; omega) NH_le (st_sh s h).2.2.2.2.1 (by decide) hi (by decide)
set_option maxRecDepth 100000 in
theorem sS5 (h : s ∈ stL) {i : Nat} {x : Int32} (hi : i < 6) : pAst (HH I J tx sp bt tt) (s + 3) 100 (nI i) (.int x) = some (HH (up2 I (s + 3) i x) J tx sp bt tt) := pAstI_mk (n := 6) (by have := (st_sh s h).1; omega) NH_le (st_sh s h).2.2.2.2.1 (by decide) hi (by decide)
set_option maxRecDepth 100000 in
theorem lS5 (h : s ∈ stL) : pAlen X (HH I J tx sp bt tt) (s + 3) = some (nI 6) := pAlen_mk (by have := (st_sh s h).1; omega) NH_le (st_sh s h).2.2.2.2.1 (by decide)
set_option maxRecDepth 100000 in
theorem cS5 {s2 : Nat} (h : s ∈ stL) (h2 : s2 ∈ stL) : pCopy (HH I J tx sp bt tt) (s + 3) 0 (s2 + 3) 0 6 = some (HH (fun a b => if a = s2 + 3 ∧ b < 6 then I (s + 3) b else I a b) J tx sp bt tt) := by
  refine (pCopy_mk (sp := 0) (dp := 0) (m := 6) (n := 6) (n2 := 6) (by have := (st_sh s h).1; omega) (by have := (st_sh s2 h2).1; omega) NH_le (st_sh s h).2.2.2.2.1 (st_sh s2 h2).2.2.2.2.1 (by decide) (by decide) (by decide) (by decide)).trans ?_
  simp only [Nat.zero_le, true_and, Nat.zero_add, Nat.sub_zero]
  rfl
set_option maxRecDepth 100000 in
theorem gS6 (h : s ∈ stL) : pGetR X (HH I J tx sp bt tt) s 7 6 = some (s + 4) := pGetR_mk (n := 12) (by have := (st_sh s h).1; omega) NH_le (st_sh s h).2.1 (by decide) (by decide) rfl (RT_st (k := 3) h (by decide))
set_option maxRecDepth 100000 in
theorem aS6 (h : s ∈ stL) {i : Nat} (hi : i < 30) : pAldI X (HH I J tx sp bt tt) (s + 4) 100 (nI i) = some (I (s + 4) i) := pAldI_mk (n := 30) (by have := (st_sh s h).1; omega) NH_le (st_sh s h).2.2.2.2.2.1 (by decide) hi (by decide)
set_option maxRecDepth 100000 in
theorem sS6 (h : s ∈ stL) {i : Nat} {x : Int32} (hi : i < 30) : pAst (HH I J tx sp bt tt) (s + 4) 100 (nI i) (.int x) = some (HH (up2 I (s + 4) i x) J tx sp bt tt) := pAstI_mk (n := 30) (by have := (st_sh s h).1; omega) NH_le (st_sh s h).2.2.2.2.2.1 (by decide) hi (by decide)
set_option maxRecDepth 100000 in
theorem lS6 (h : s ∈ stL) : pAlen X (HH I J tx sp bt tt) (s + 4) = some (nI 30) := pAlen_mk (by have := (st_sh s h).1; omega) NH_le (st_sh s h).2.2.2.2.2.1 (by decide)
set_option maxRecDepth 100000 in
theorem cS6 {s2 : Nat} (h : s ∈ stL) (h2 : s2 ∈ stL) : pCopy (HH I J tx sp bt tt) (s + 4) 0 (s2 + 4) 0 30 = some (HH (fun a b => if a = s2 + 4 ∧ b < 30 then I (s + 4) b else I a b) J tx sp bt tt) := by
  refine (pCopy_mk (sp := 0) (dp := 0) (m := 30) (n := 30) (n2 := 30) (by have := (st_sh s h).1; omega) (by have := (st_sh s2 h2).1; omega) NH_le (st_sh s h).2.2.2.2.2.1 (st_sh s2 h2).2.2.2.2.2.1 (by decide) (by decide) (by decide) (by decide)).trans ?_
  simp only [Nat.zero_le, true_and, Nat.zero_add, Nat.sub_zero]
  rfl
set_option maxRecDepth 100000 in
theorem gS7 (h : s ∈ stL) : pGetR X (HH I J tx sp bt tt) s 7 7 = some (s + 5) := pGetR_mk (n := 12) (by have := (st_sh s h).1; omega) NH_le (st_sh s h).2.1 (by decide) (by decide) rfl (RT_st (k := 4) h (by decide))
set_option maxRecDepth 100000 in
theorem aS7 (h : s ∈ stL) {i : Nat} (hi : i < 6) : pAldI X (HH I J tx sp bt tt) (s + 5) 100 (nI i) = some (I (s + 5) i) := pAldI_mk (n := 6) (by have := (st_sh s h).1; omega) NH_le (st_sh s h).2.2.2.2.2.2.1 (by decide) hi (by decide)
set_option maxRecDepth 100000 in
theorem sS7 (h : s ∈ stL) {i : Nat} {x : Int32} (hi : i < 6) : pAst (HH I J tx sp bt tt) (s + 5) 100 (nI i) (.int x) = some (HH (up2 I (s + 5) i x) J tx sp bt tt) := pAstI_mk (n := 6) (by have := (st_sh s h).1; omega) NH_le (st_sh s h).2.2.2.2.2.2.1 (by decide) hi (by decide)
set_option maxRecDepth 100000 in
theorem lS7 (h : s ∈ stL) : pAlen X (HH I J tx sp bt tt) (s + 5) = some (nI 6) := pAlen_mk (by have := (st_sh s h).1; omega) NH_le (st_sh s h).2.2.2.2.2.2.1 (by decide)
set_option maxRecDepth 100000 in
theorem cS7 {s2 : Nat} (h : s ∈ stL) (h2 : s2 ∈ stL) : pCopy (HH I J tx sp bt tt) (s + 5) 0 (s2 + 5) 0 6 = some (HH (fun a b => if a = s2 + 5 ∧ b < 6 then I (s + 5) b else I a b) J tx sp bt tt) := by
  refine (pCopy_mk (sp := 0) (dp := 0) (m := 6) (n := 6) (n2 := 6) (by have := (st_sh s h).1; omega) (by have := (st_sh s2 h2).1; omega) NH_le (st_sh s h).2.2.2.2.2.2.1 (st_sh s2 h2).2.2.2.2.2.2.1 (by decide) (by decide) (by decide) (by decide)).trans ?_
  simp only [Nat.zero_le, true_and, Nat.zero_add, Nat.sub_zero]
  rfl
set_option maxRecDepth 100000 in
theorem gS8 (h : s ∈ stL) : pGetR X (HH I J tx sp bt tt) s 7 8 = some (s + 6) := pGetR_mk (n := 12) (by have := (st_sh s h).1; omega) NH_le (st_sh s h).2.1 (by decide) (by decide) rfl (RT_st (k := 5) h (by decide))
set_option maxRecDepth 100000 in
theorem aS8 (h : s ∈ stL) {i : Nat} (hi : i < 6) : pAldI X (HH I J tx sp bt tt) (s + 6) 100 (nI i) = some (I (s + 6) i) := pAldI_mk (n := 6) (by have := (st_sh s h).1; omega) NH_le (st_sh s h).2.2.2.2.2.2.2.1 (by decide) hi (by decide)
set_option maxRecDepth 100000 in
theorem sS8 (h : s ∈ stL) {i : Nat} {x : Int32} (hi : i < 6) : pAst (HH I J tx sp bt tt) (s + 6) 100 (nI i) (.int x) = some (HH (up2 I (s + 6) i x) J tx sp bt tt) := pAstI_mk (n := 6) (by have := (st_sh s h).1; omega) NH_le (st_sh s h).2.2.2.2.2.2.2.1 (by decide) hi (by decide)
set_option maxRecDepth 100000 in
theorem lS8 (h : s ∈ stL) : pAlen X (HH I J tx sp bt tt) (s + 6) = some (nI 6) := pAlen_mk (by have := (st_sh s h).1; omega) NH_le (st_sh s h).2.2.2.2.2.2.2.1 (by decide)
set_option maxRecDepth 100000 in
theorem cS8 {s2 : Nat} (h : s ∈ stL) (h2 : s2 ∈ stL) : pCopy (HH I J tx sp bt tt) (s + 6) 0 (s2 + 6) 0 6 = some (HH (fun a b => if a = s2 + 6 ∧ b < 6 then I (s + 6) b else I a b) J tx sp bt tt) := by
  refine (pCopy_mk (sp := 0) (dp := 0) (m := 6) (n := 6) (n2 := 6) (by have := (st_sh s h).1; omega) (by have := (st_sh s2 h2).1; omega) NH_le (st_sh s h).2.2.2.2.2.2.2.1 (st_sh s2 h2).2.2.2.2.2.2.2.1 (by decide) (by decide) (by decide) (by decide)).trans ?_
  simp only [Nat.zero_le, true_and, Nat.zero_add, Nat.sub_zero]
  rfl
set_option maxRecDepth 100000 in
theorem gS9 (h : s ∈ stL) : pGetR X (HH I J tx sp bt tt) s 7 9 = some (s + 7) := pGetR_mk (n := 12) (by have := (st_sh s h).1; omega) NH_le (st_sh s h).2.1 (by decide) (by decide) rfl (RT_st (k := 6) h (by decide))
set_option maxRecDepth 100000 in
theorem aS9 (h : s ∈ stL) {i : Nat} (hi : i < 6) : pAldI X (HH I J tx sp bt tt) (s + 7) 100 (nI i) = some (I (s + 7) i) := pAldI_mk (n := 6) (by have := (st_sh s h).1; omega) NH_le (st_sh s h).2.2.2.2.2.2.2.2.1 (by decide) hi (by decide)
set_option maxRecDepth 100000 in
theorem sS9 (h : s ∈ stL) {i : Nat} {x : Int32} (hi : i < 6) : pAst (HH I J tx sp bt tt) (s + 7) 100 (nI i) (.int x) = some (HH (up2 I (s + 7) i x) J tx sp bt tt) := pAstI_mk (n := 6) (by have := (st_sh s h).1; omega) NH_le (st_sh s h).2.2.2.2.2.2.2.2.1 (by decide) hi (by decide)
set_option maxRecDepth 100000 in
theorem lS9 (h : s ∈ stL) : pAlen X (HH I J tx sp bt tt) (s + 7) = some (nI 6) := pAlen_mk (by have := (st_sh s h).1; omega) NH_le (st_sh s h).2.2.2.2.2.2.2.2.1 (by decide)
set_option maxRecDepth 100000 in
theorem cS9 {s2 : Nat} (h : s ∈ stL) (h2 : s2 ∈ stL) : pCopy (HH I J tx sp bt tt) (s + 7) 0 (s2 + 7) 0 6 = some (HH (fun a b => if a = s2 + 7 ∧ b < 6 then I (s + 7) b else I a b) J tx sp bt tt) := by
  refine (pCopy_mk (sp := 0) (dp := 0) (m := 6) (n := 6) (n2 := 6) (by have := (st_sh s h).1; omega) (by have := (st_sh s2 h2).1; omega) NH_le (st_sh s h).2.2.2.2.2.2.2.2.1 (st_sh s2 h2).2.2.2.2.2.2.2.2.1 (by decide) (by decide) (by decide) (by decide)).trans ?_
  simp only [Nat.zero_le, true_and, Nat.zero_add, Nat.sub_zero]
  rfl
set_option maxRecDepth 100000 in
theorem gS10 (h : s ∈ stL) : pGetR X (HH I J tx sp bt tt) s 7 10 = some (s + 8) := pGetR_mk (n := 12) (by have := (st_sh s h).1; omega) NH_le (st_sh s h).2.1 (by decide) (by decide) rfl (RT_st (k := 7) h (by decide))
set_option maxRecDepth 100000 in
theorem aS10 (h : s ∈ stL) {i : Nat} (hi : i < 5) : pAldI X (HH I J tx sp bt tt) (s + 8) 100 (nI i) = some (I (s + 8) i) := pAldI_mk (n := 5) (by have := (st_sh s h).1; omega) NH_le (st_sh s h).2.2.2.2.2.2.2.2.2.1 (by decide) hi (by decide)
set_option maxRecDepth 100000 in
theorem sS10 (h : s ∈ stL) {i : Nat} {x : Int32} (hi : i < 5) : pAst (HH I J tx sp bt tt) (s + 8) 100 (nI i) (.int x) = some (HH (up2 I (s + 8) i x) J tx sp bt tt) := pAstI_mk (n := 5) (by have := (st_sh s h).1; omega) NH_le (st_sh s h).2.2.2.2.2.2.2.2.2.1 (by decide) hi (by decide)
set_option maxRecDepth 100000 in
theorem lS10 (h : s ∈ stL) : pAlen X (HH I J tx sp bt tt) (s + 8) = some (nI 5) := pAlen_mk (by have := (st_sh s h).1; omega) NH_le (st_sh s h).2.2.2.2.2.2.2.2.2.1 (by decide)
set_option maxRecDepth 100000 in
theorem cS10 {s2 : Nat} (h : s ∈ stL) (h2 : s2 ∈ stL) : pCopy (HH I J tx sp bt tt) (s + 8) 0 (s2 + 8) 0 5 = some (HH (fun a b => if a = s2 + 8 ∧ b < 5 then I (s + 8) b else I a b) J tx sp bt tt) := by
  refine (pCopy_mk (sp := 0) (dp := 0) (m := 5) (n := 5) (n2 := 5) (by have := (st_sh s h).1; omega) (by have := (st_sh s2 h2).1; omega) NH_le (st_sh s h).2.2.2.2.2.2.2.2.2.1 (st_sh s2 h2).2.2.2.2.2.2.2.2.2.1 (by decide) (by decide) (by decide) (by decide)).trans ?_
  simp only [Nat.zero_le, true_and, Nat.zero_add, Nat.sub_zero]
  rfl
set_option maxRecDepth 100000 in
theorem gS11 (h : s ∈ stL) : pGetR X (HH I J tx sp bt tt) s 7 11 = some (s + 9) := pGetR_mk (n := 12) (by have := (st_sh s h).1; omega) NH_le (st_sh s h).2.1 (by decide) (by decide) rfl (RT_st (k := 8) h (by decide))
set_option maxRecDepth 100000 in
theorem aS11 (h : s ∈ stL) {i : Nat} (hi : i < 5) : pAldI X (HH I J tx sp bt tt) (s + 9) 100 (nI i) = some (I (s + 9) i) := pAldI_mk (n := 5) (by have := (st_sh s h).1; omega) NH_le (st_sh s h).2.2.2.2.2.2.2.2.2.2 (by decide) hi (by decide)
set_option maxRecDepth 100000 in
theorem sS11 (h : s ∈ stL) {i : Nat} {x : Int32} (hi : i < 5) : pAst (HH I J tx sp bt tt) (s + 9) 100 (nI i) (.int x) = some (HH (up2 I (s + 9) i x) J tx sp bt tt) := pAstI_mk (n := 5) (by have := (st_sh s h).1; omega) NH_le (st_sh s h).2.2.2.2.2.2.2.2.2.2 (by decide) hi (by decide)
set_option maxRecDepth 100000 in
theorem lS11 (h : s ∈ stL) : pAlen X (HH I J tx sp bt tt) (s + 9) = some (nI 5) := pAlen_mk (by have := (st_sh s h).1; omega) NH_le (st_sh s h).2.2.2.2.2.2.2.2.2.2 (by decide)
set_option maxRecDepth 100000 in
theorem cS11 {s2 : Nat} (h : s ∈ stL) (h2 : s2 ∈ stL) : pCopy (HH I J tx sp bt tt) (s + 9) 0 (s2 + 9) 0 5 = some (HH (fun a b => if a = s2 + 9 ∧ b < 5 then I (s + 9) b else I a b) J tx sp bt tt) := by
  refine (pCopy_mk (sp := 0) (dp := 0) (m := 5) (n := 5) (n2 := 5) (by have := (st_sh s h).1; omega) (by have := (st_sh s2 h2).1; omega) NH_le (st_sh s h).2.2.2.2.2.2.2.2.2.2 (st_sh s2 h2).2.2.2.2.2.2.2.2.2.2 (by decide) (by decide) (by decide) (by decide)).trans ?_
  simp only [Nat.zero_le, true_and, Nat.zero_add, Nat.sub_zero]
  rfl
set_option maxRecDepth 100000 in
theorem gB0 (h : b ∈ [58, 71]) : pGetR X (HH I J tx sp bt tt) b 0 0 = some (b + 1) := pGetR_mk (n := 5) (by have := (b_sh b h).1; omega) NH_le (b_sh b h).2.1 (by decide) (by decide) rfl (by simp only [List.mem_cons, List.not_mem_nil, or_false] at h; rcases h with rfl | rfl <;> rfl)
set_option maxRecDepth 100000 in
theorem gB1 (h : b ∈ [58, 71]) : pGetR X (HH I J tx sp bt tt) b 0 1 = some (b + 11) := pGetR_mk (n := 5) (by have := (b_sh b h).1; omega) NH_le (b_sh b h).2.1 (by decide) (by decide) rfl (by simp only [List.mem_cons, List.not_mem_nil, or_false] at h; rcases h with rfl | rfl <;> rfl)
set_option maxRecDepth 100000 in
theorem gB2 (h : b ∈ [58, 71]) : pGetR X (HH I J tx sp bt tt) b 0 2 = some (b + 12) := pGetR_mk (n := 5) (by have := (b_sh b h).1; omega) NH_le (b_sh b h).2.1 (by decide) (by decide) rfl (by simp only [List.mem_cons, List.not_mem_nil, or_false] at h; rcases h with rfl | rfl <;> rfl)
set_option maxRecDepth 100000 in
theorem gB3 (h : b ∈ [58, 71]) (ht : bT b bt tt = .ref t) : pGetR X (HH I J tx sp bt tt) b 0 3 = some t := pGetR_mk (n := 5) (by have := (b_sh b h).1; omega) NH_le (b_sh b h).2.1 (by decide) (by decide) rfl (by rw [← ht]; simp only [List.mem_cons, List.not_mem_nil, or_false] at h; rcases h with rfl | rfl <;> rfl)
set_option maxRecDepth 100000 in
theorem gB4 (h : b ∈ [58, 71]) : pGetI X (HH I J tx sp bt tt) b 0 4 = some (I b 4) := pGetI_mk (n := 5) (by have := (b_sh b h).1; omega) NH_le (b_sh b h).2.1 (by decide) (by decide) rfl
set_option maxRecDepth 100000 in
theorem pB4 (h : b ∈ [58, 71]) {x : Int32} : pPut (HH I J tx sp bt tt) b 0 4 (.int x) = some (HH (up2 I b 4 x) J tx sp bt tt) := pPutI_mk (n := 5) (by have := (b_sh b h).1; omega) NH_le (b_sh b h).2.1 (by decide) (by decide) rfl
set_option maxRecDepth 100000 in
theorem aB1 (h : b ∈ [58, 71]) {i : Nat} (hi : i < 6) : pAldI X (HH I J tx sp bt tt) (b + 11) 100 (nI i) = some (I (b + 11) i) := pAldI_mk (n := 6) (by have := (b_sh b h).1; omega) NH_le (b_sh b h).2.2.1 (by decide) hi (by decide)
set_option maxRecDepth 100000 in
theorem sB1 (h : b ∈ [58, 71]) {i : Nat} {x : Int32} (hi : i < 6) : pAst (HH I J tx sp bt tt) (b + 11) 100 (nI i) (.int x) = some (HH (up2 I (b + 11) i x) J tx sp bt tt) := pAstI_mk (n := 6) (by have := (b_sh b h).1; omega) NH_le (b_sh b h).2.2.1 (by decide) hi (by decide)
set_option maxRecDepth 100000 in
theorem aB2 (h : b ∈ [58, 71]) {i : Nat} (hi : i < 9) : pAldI X (HH I J tx sp bt tt) (b + 12) 100 (nI i) = some (I (b + 12) i) := pAldI_mk (n := 9) (by have := (b_sh b h).1; omega) NH_le (b_sh b h).2.2.2.1 (by decide) hi (by decide)
set_option maxRecDepth 100000 in
theorem sB2 (h : b ∈ [58, 71]) {i : Nat} {x : Int32} (hi : i < 9) : pAst (HH I J tx sp bt tt) (b + 12) 100 (nI i) (.int x) = some (HH (up2 I (b + 12) i x) J tx sp bt tt) := pAstI_mk (n := 9) (by have := (b_sh b h).1; omega) NH_le (b_sh b h).2.2.2.1 (by decide) hi (by decide)
set_option maxRecDepth 100000 in
theorem gT0 (h : t ∈ [16, 37]) : pGetI X (HH I J tx sp bt tt) t 9 0 = some (I t 0) := pGetI_mk (n := 20) (by have := (t_sh t h).1; omega) NH_le (t_sh t h).2.1 (by decide) (by decide) rfl
set_option maxRecDepth 100000 in
theorem pT0 (h : t ∈ [16, 37]) {x : Int32} : pPut (HH I J tx sp bt tt) t 9 0 (.int x) = some (HH (up2 I t 0 x) J tx sp bt tt) := pPutI_mk (n := 20) (by have := (t_sh t h).1; omega) NH_le (t_sh t h).2.1 (by decide) (by decide) rfl
set_option maxRecDepth 100000 in
theorem gT1 (h : t ∈ [16, 37]) : pGetI X (HH I J tx sp bt tt) t 9 1 = some (I t 1) := pGetI_mk (n := 20) (by have := (t_sh t h).1; omega) NH_le (t_sh t h).2.1 (by decide) (by decide) rfl
set_option maxRecDepth 100000 in
theorem pT1 (h : t ∈ [16, 37]) {x : Int32} : pPut (HH I J tx sp bt tt) t 9 1 (.int x) = some (HH (up2 I t 1 x) J tx sp bt tt) := pPutI_mk (n := 20) (by have := (t_sh t h).1; omega) NH_le (t_sh t h).2.1 (by decide) (by decide) rfl
set_option maxRecDepth 100000 in
theorem gT2 (h : t ∈ [16, 37]) : pGetI X (HH I J tx sp bt tt) t 9 2 = some (I t 2) := pGetI_mk (n := 20) (by have := (t_sh t h).1; omega) NH_le (t_sh t h).2.1 (by decide) (by decide) rfl
set_option maxRecDepth 100000 in
theorem pT2 (h : t ∈ [16, 37]) {x : Int32} : pPut (HH I J tx sp bt tt) t 9 2 (.int x) = some (HH (up2 I t 2 x) J tx sp bt tt) := pPutI_mk (n := 20) (by have := (t_sh t h).1; omega) NH_le (t_sh t h).2.1 (by decide) (by decide) rfl
set_option maxRecDepth 100000 in
theorem gT3 (h : t ∈ [16, 37]) : pGetI X (HH I J tx sp bt tt) t 9 3 = some (I t 3) := pGetI_mk (n := 20) (by have := (t_sh t h).1; omega) NH_le (t_sh t h).2.1 (by decide) (by decide) rfl
set_option maxRecDepth 100000 in
theorem pT3 (h : t ∈ [16, 37]) {x : Int32} : pPut (HH I J tx sp bt tt) t 9 3 (.int x) = some (HH (up2 I t 3 x) J tx sp bt tt) := pPutI_mk (n := 20) (by have := (t_sh t h).1; omega) NH_le (t_sh t h).2.1 (by decide) (by decide) rfl
set_option maxRecDepth 100000 in
theorem gT4 (h : t ∈ [16, 37]) : pGetI X (HH I J tx sp bt tt) t 9 4 = some (I t 4) := pGetI_mk (n := 20) (by have := (t_sh t h).1; omega) NH_le (t_sh t h).2.1 (by decide) (by decide) rfl
set_option maxRecDepth 100000 in
theorem pT4 (h : t ∈ [16, 37]) {x : Int32} : pPut (HH I J tx sp bt tt) t 9 4 (.int x) = some (HH (up2 I t 4 x) J tx sp bt tt) := pPutI_mk (n := 20) (by have := (t_sh t h).1; omega) NH_le (t_sh t h).2.1 (by decide) (by decide) rfl
set_option maxRecDepth 100000 in
theorem gT5 (h : t ∈ [16, 37]) : pGetI X (HH I J tx sp bt tt) t 9 5 = some (I t 5) := pGetI_mk (n := 20) (by have := (t_sh t h).1; omega) NH_le (t_sh t h).2.1 (by decide) (by decide) rfl
set_option maxRecDepth 100000 in
theorem pT5 (h : t ∈ [16, 37]) {x : Int32} : pPut (HH I J tx sp bt tt) t 9 5 (.int x) = some (HH (up2 I t 5 x) J tx sp bt tt) := pPutI_mk (n := 20) (by have := (t_sh t h).1; omega) NH_le (t_sh t h).2.1 (by decide) (by decide) rfl
set_option maxRecDepth 100000 in
theorem gT6 (h : t ∈ [16, 37]) : pGetR X (HH I J tx sp bt tt) t 9 6 = some (t + 1) := pGetR_mk (n := 20) (by have := (t_sh t h).1; omega) NH_le (t_sh t h).2.1 (by decide) (by decide) rfl (by simp only [List.mem_cons, List.not_mem_nil, or_false] at h; rcases h with rfl | rfl <;> rfl)
set_option maxRecDepth 100000 in
theorem aT6 (h : t ∈ [16, 37]) {i : Nat} (hi : i < 7) : pAldI X (HH I J tx sp bt tt) (t + 1) 100 (nI i) = some (I (t + 1) i) := pAldI_mk (n := 7) (by have := (t_sh t h).1; omega) NH_le (by simp only [List.mem_cons, List.not_mem_nil, or_false] at h; rcases h with rfl | rfl <;> rfl) (by decide) hi (by decide)
set_option maxRecDepth 100000 in
theorem sT6 (h : t ∈ [16, 37]) {i : Nat} {x : Int32} (hi : i < 7) : pAst (HH I J tx sp bt tt) (t + 1) 100 (nI i) (.int x) = some (HH (up2 I (t + 1) i x) J tx sp bt tt) := pAstI_mk (n := 7) (by have := (t_sh t h).1; omega) NH_le (by simp only [List.mem_cons, List.not_mem_nil, or_false] at h; rcases h with rfl | rfl <;> rfl) (by decide) hi (by decide)
set_option maxRecDepth 100000 in
theorem lT6 (h : t ∈ [16, 37]) : pAlen X (HH I J tx sp bt tt) (t + 1) = some (nI 7) := pAlen_mk (t := 100) (by have := (t_sh t h).1; omega) NH_le (by simp only [List.mem_cons, List.not_mem_nil, or_false] at h; rcases h with rfl | rfl <;> rfl) (by decide)
set_option maxRecDepth 100000 in
theorem gT7 (h : t ∈ [16, 37]) : pGetR X (HH I J tx sp bt tt) t 9 7 = some (t + 2) := pGetR_mk (n := 20) (by have := (t_sh t h).1; omega) NH_le (t_sh t h).2.1 (by decide) (by decide) rfl (by simp only [List.mem_cons, List.not_mem_nil, or_false] at h; rcases h with rfl | rfl <;> rfl)
set_option maxRecDepth 100000 in
theorem aT7 (h : t ∈ [16, 37]) {i : Nat} (hi : i < 5) : pAldI X (HH I J tx sp bt tt) (t + 2) 100 (nI i) = some (I (t + 2) i) := pAldI_mk (n := 5) (by have := (t_sh t h).1; omega) NH_le (by simp only [List.mem_cons, List.not_mem_nil, or_false] at h; rcases h with rfl | rfl <;> rfl) (by decide) hi (by decide)
set_option maxRecDepth 100000 in
theorem sT7 (h : t ∈ [16, 37]) {i : Nat} {x : Int32} (hi : i < 5) : pAst (HH I J tx sp bt tt) (t + 2) 100 (nI i) (.int x) = some (HH (up2 I (t + 2) i x) J tx sp bt tt) := pAstI_mk (n := 5) (by have := (t_sh t h).1; omega) NH_le (by simp only [List.mem_cons, List.not_mem_nil, or_false] at h; rcases h with rfl | rfl <;> rfl) (by decide) hi (by decide)
set_option maxRecDepth 100000 in
theorem lT7 (h : t ∈ [16, 37]) : pAlen X (HH I J tx sp bt tt) (t + 2) = some (nI 5) := pAlen_mk (t := 100) (by have := (t_sh t h).1; omega) NH_le (by simp only [List.mem_cons, List.not_mem_nil, or_false] at h; rcases h with rfl | rfl <;> rfl) (by decide)
set_option maxRecDepth 100000 in
theorem gT8 (h : t ∈ [16, 37]) : pGetR X (HH I J tx sp bt tt) t 9 8 = some (t + 3) := pGetR_mk (n := 20) (by have := (t_sh t h).1; omega) NH_le (t_sh t h).2.1 (by decide) (by decide) rfl (by simp only [List.mem_cons, List.not_mem_nil, or_false] at h; rcases h with rfl | rfl <;> rfl)
set_option maxRecDepth 100000 in
theorem aT8 (h : t ∈ [16, 37]) {i : Nat} (hi : i < 5) : pAldI X (HH I J tx sp bt tt) (t + 3) 100 (nI i) = some (I (t + 3) i) := pAldI_mk (n := 5) (by have := (t_sh t h).1; omega) NH_le (by simp only [List.mem_cons, List.not_mem_nil, or_false] at h; rcases h with rfl | rfl <;> rfl) (by decide) hi (by decide)
set_option maxRecDepth 100000 in
theorem sT8 (h : t ∈ [16, 37]) {i : Nat} {x : Int32} (hi : i < 5) : pAst (HH I J tx sp bt tt) (t + 3) 100 (nI i) (.int x) = some (HH (up2 I (t + 3) i x) J tx sp bt tt) := pAstI_mk (n := 5) (by have := (t_sh t h).1; omega) NH_le (by simp only [List.mem_cons, List.not_mem_nil, or_false] at h; rcases h with rfl | rfl <;> rfl) (by decide) hi (by decide)
set_option maxRecDepth 100000 in
theorem lT8 (h : t ∈ [16, 37]) : pAlen X (HH I J tx sp bt tt) (t + 3) = some (nI 5) := pAlen_mk (t := 100) (by have := (t_sh t h).1; omega) NH_le (by simp only [List.mem_cons, List.not_mem_nil, or_false] at h; rcases h with rfl | rfl <;> rfl) (by decide)
set_option maxRecDepth 100000 in
theorem gT9 (h : t ∈ [16, 37]) : pGetR X (HH I J tx sp bt tt) t 9 9 = some (t + 4) := pGetR_mk (n := 20) (by have := (t_sh t h).1; omega) NH_le (t_sh t h).2.1 (by decide) (by decide) rfl (by simp only [List.mem_cons, List.not_mem_nil, or_false] at h; rcases h with rfl | rfl <;> rfl)
set_option maxRecDepth 100000 in
theorem aT9 (h : t ∈ [16, 37]) {i : Nat} (hi : i < 5) : pAldI X (HH I J tx sp bt tt) (t + 4) 100 (nI i) = some (I (t + 4) i) := pAldI_mk (n := 5) (by have := (t_sh t h).1; omega) NH_le (by simp only [List.mem_cons, List.not_mem_nil, or_false] at h; rcases h with rfl | rfl <;> rfl) (by decide) hi (by decide)
set_option maxRecDepth 100000 in
theorem sT9 (h : t ∈ [16, 37]) {i : Nat} {x : Int32} (hi : i < 5) : pAst (HH I J tx sp bt tt) (t + 4) 100 (nI i) (.int x) = some (HH (up2 I (t + 4) i x) J tx sp bt tt) := pAstI_mk (n := 5) (by have := (t_sh t h).1; omega) NH_le (by simp only [List.mem_cons, List.not_mem_nil, or_false] at h; rcases h with rfl | rfl <;> rfl) (by decide) hi (by decide)
set_option maxRecDepth 100000 in
theorem lT9 (h : t ∈ [16, 37]) : pAlen X (HH I J tx sp bt tt) (t + 4) = some (nI 5) := pAlen_mk (t := 100) (by have := (t_sh t h).1; omega) NH_le (by simp only [List.mem_cons, List.not_mem_nil, or_false] at h; rcases h with rfl | rfl <;> rfl) (by decide)
set_option maxRecDepth 100000 in
theorem gT10 (h : t ∈ [16, 37]) : pGetR X (HH I J tx sp bt tt) t 9 10 = some (t + 5) := pGetR_mk (n := 20) (by have := (t_sh t h).1; omega) NH_le (t_sh t h).2.1 (by decide) (by decide) rfl (by simp only [List.mem_cons, List.not_mem_nil, or_false] at h; rcases h with rfl | rfl <;> rfl)
set_option maxRecDepth 100000 in
theorem aT10 (h : t ∈ [16, 37]) {i : Nat} (hi : i < 35) : pAldI X (HH I J tx sp bt tt) (t + 5) 100 (nI i) = some (I (t + 5) i) := pAldI_mk (n := 35) (by have := (t_sh t h).1; omega) NH_le (by simp only [List.mem_cons, List.not_mem_nil, or_false] at h; rcases h with rfl | rfl <;> rfl) (by decide) hi (by decide)
set_option maxRecDepth 100000 in
theorem sT10 (h : t ∈ [16, 37]) {i : Nat} {x : Int32} (hi : i < 35) : pAst (HH I J tx sp bt tt) (t + 5) 100 (nI i) (.int x) = some (HH (up2 I (t + 5) i x) J tx sp bt tt) := pAstI_mk (n := 35) (by have := (t_sh t h).1; omega) NH_le (by simp only [List.mem_cons, List.not_mem_nil, or_false] at h; rcases h with rfl | rfl <;> rfl) (by decide) hi (by decide)
set_option maxRecDepth 100000 in
theorem lT10 (h : t ∈ [16, 37]) : pAlen X (HH I J tx sp bt tt) (t + 5) = some (nI 35) := pAlen_mk (t := 100) (by have := (t_sh t h).1; omega) NH_le (by simp only [List.mem_cons, List.not_mem_nil, or_false] at h; rcases h with rfl | rfl <;> rfl) (by decide)
set_option maxRecDepth 100000 in
theorem gT11 (h : t ∈ [16, 37]) : pGetR X (HH I J tx sp bt tt) t 9 11 = some (t + 6) := pGetR_mk (n := 20) (by have := (t_sh t h).1; omega) NH_le (t_sh t h).2.1 (by decide) (by decide) rfl (by simp only [List.mem_cons, List.not_mem_nil, or_false] at h; rcases h with rfl | rfl <;> rfl)
set_option maxRecDepth 100000 in
theorem aT11 (h : t ∈ [16, 37]) {i : Nat} (hi : i < 5) : pAldI X (HH I J tx sp bt tt) (t + 6) 100 (nI i) = some (I (t + 6) i) := pAldI_mk (n := 5) (by have := (t_sh t h).1; omega) NH_le (by simp only [List.mem_cons, List.not_mem_nil, or_false] at h; rcases h with rfl | rfl <;> rfl) (by decide) hi (by decide)
set_option maxRecDepth 100000 in
theorem sT11 (h : t ∈ [16, 37]) {i : Nat} {x : Int32} (hi : i < 5) : pAst (HH I J tx sp bt tt) (t + 6) 100 (nI i) (.int x) = some (HH (up2 I (t + 6) i x) J tx sp bt tt) := pAstI_mk (n := 5) (by have := (t_sh t h).1; omega) NH_le (by simp only [List.mem_cons, List.not_mem_nil, or_false] at h; rcases h with rfl | rfl <;> rfl) (by decide) hi (by decide)
set_option maxRecDepth 100000 in
theorem lT11 (h : t ∈ [16, 37]) : pAlen X (HH I J tx sp bt tt) (t + 6) = some (nI 5) := pAlen_mk (t := 100) (by have := (t_sh t h).1; omega) NH_le (by simp only [List.mem_cons, List.not_mem_nil, or_false] at h; rcases h with rfl | rfl <;> rfl) (by decide)
set_option maxRecDepth 100000 in
theorem gT12 (h : t ∈ [16, 37]) : pGetR X (HH I J tx sp bt tt) t 9 12 = some (t + 7) := pGetR_mk (n := 20) (by have := (t_sh t h).1; omega) NH_le (t_sh t h).2.1 (by decide) (by decide) rfl (by simp only [List.mem_cons, List.not_mem_nil, or_false] at h; rcases h with rfl | rfl <;> rfl)
set_option maxRecDepth 100000 in
theorem aT12 (h : t ∈ [16, 37]) {i : Nat} (hi : i < 6) : pAldI X (HH I J tx sp bt tt) (t + 7) 100 (nI i) = some (I (t + 7) i) := pAldI_mk (n := 6) (by have := (t_sh t h).1; omega) NH_le (by simp only [List.mem_cons, List.not_mem_nil, or_false] at h; rcases h with rfl | rfl <;> rfl) (by decide) hi (by decide)
set_option maxRecDepth 100000 in
theorem sT12 (h : t ∈ [16, 37]) {i : Nat} {x : Int32} (hi : i < 6) : pAst (HH I J tx sp bt tt) (t + 7) 100 (nI i) (.int x) = some (HH (up2 I (t + 7) i x) J tx sp bt tt) := pAstI_mk (n := 6) (by have := (t_sh t h).1; omega) NH_le (by simp only [List.mem_cons, List.not_mem_nil, or_false] at h; rcases h with rfl | rfl <;> rfl) (by decide) hi (by decide)
set_option maxRecDepth 100000 in
theorem lT12 (h : t ∈ [16, 37]) : pAlen X (HH I J tx sp bt tt) (t + 7) = some (nI 6) := pAlen_mk (t := 100) (by have := (t_sh t h).1; omega) NH_le (by simp only [List.mem_cons, List.not_mem_nil, or_false] at h; rcases h with rfl | rfl <;> rfl) (by decide)
set_option maxRecDepth 100000 in
theorem gT13 (h : t ∈ [16, 37]) : pGetR X (HH I J tx sp bt tt) t 9 13 = some (t + 8) := pGetR_mk (n := 20) (by have := (t_sh t h).1; omega) NH_le (t_sh t h).2.1 (by decide) (by decide) rfl (by simp only [List.mem_cons, List.not_mem_nil, or_false] at h; rcases h with rfl | rfl <;> rfl)
set_option maxRecDepth 100000 in
theorem aT13 (h : t ∈ [16, 37]) {i : Nat} (hi : i < 6) : pAldI X (HH I J tx sp bt tt) (t + 8) 100 (nI i) = some (I (t + 8) i) := pAldI_mk (n := 6) (by have := (t_sh t h).1; omega) NH_le (by simp only [List.mem_cons, List.not_mem_nil, or_false] at h; rcases h with rfl | rfl <;> rfl) (by decide) hi (by decide)
set_option maxRecDepth 100000 in
theorem sT13 (h : t ∈ [16, 37]) {i : Nat} {x : Int32} (hi : i < 6) : pAst (HH I J tx sp bt tt) (t + 8) 100 (nI i) (.int x) = some (HH (up2 I (t + 8) i x) J tx sp bt tt) := pAstI_mk (n := 6) (by have := (t_sh t h).1; omega) NH_le (by simp only [List.mem_cons, List.not_mem_nil, or_false] at h; rcases h with rfl | rfl <;> rfl) (by decide) hi (by decide)
set_option maxRecDepth 100000 in
theorem lT13 (h : t ∈ [16, 37]) : pAlen X (HH I J tx sp bt tt) (t + 8) = some (nI 6) := pAlen_mk (t := 100) (by have := (t_sh t h).1; omega) NH_le (by simp only [List.mem_cons, List.not_mem_nil, or_false] at h; rcases h with rfl | rfl <;> rfl) (by decide)
set_option maxRecDepth 100000 in
theorem gT14 (h : t ∈ [16, 37]) : pGetR X (HH I J tx sp bt tt) t 9 14 = some (t + 9) := pGetR_mk (n := 20) (by have := (t_sh t h).1; omega) NH_le (t_sh t h).2.1 (by decide) (by decide) rfl (by simp only [List.mem_cons, List.not_mem_nil, or_false] at h; rcases h with rfl | rfl <;> rfl)
set_option maxRecDepth 100000 in
theorem aT14 (h : t ∈ [16, 37]) {i : Nat} (hi : i < 6) : pAldI X (HH I J tx sp bt tt) (t + 9) 100 (nI i) = some (I (t + 9) i) := pAldI_mk (n := 6) (by have := (t_sh t h).1; omega) NH_le (by simp only [List.mem_cons, List.not_mem_nil, or_false] at h; rcases h with rfl | rfl <;> rfl) (by decide) hi (by decide)
set_option maxRecDepth 100000 in
theorem sT14 (h : t ∈ [16, 37]) {i : Nat} {x : Int32} (hi : i < 6) : pAst (HH I J tx sp bt tt) (t + 9) 100 (nI i) (.int x) = some (HH (up2 I (t + 9) i x) J tx sp bt tt) := pAstI_mk (n := 6) (by have := (t_sh t h).1; omega) NH_le (by simp only [List.mem_cons, List.not_mem_nil, or_false] at h; rcases h with rfl | rfl <;> rfl) (by decide) hi (by decide)
set_option maxRecDepth 100000 in
theorem lT14 (h : t ∈ [16, 37]) : pAlen X (HH I J tx sp bt tt) (t + 9) = some (nI 6) := pAlen_mk (t := 100) (by have := (t_sh t h).1; omega) NH_le (by simp only [List.mem_cons, List.not_mem_nil, or_false] at h; rcases h with rfl | rfl <;> rfl) (by decide)
set_option maxRecDepth 100000 in
theorem gT15 (h : t ∈ [16, 37]) : pGetR X (HH I J tx sp bt tt) t 9 15 = some (t + 10) := pGetR_mk (n := 20) (by have := (t_sh t h).1; omega) NH_le (t_sh t h).2.1 (by decide) (by decide) rfl (by simp only [List.mem_cons, List.not_mem_nil, or_false] at h; rcases h with rfl | rfl <;> rfl)
set_option maxRecDepth 100000 in
theorem aT15 (h : t ∈ [16, 37]) {i : Nat} (hi : i < 6) : pAldI X (HH I J tx sp bt tt) (t + 10) 100 (nI i) = some (I (t + 10) i) := pAldI_mk (n := 6) (by have := (t_sh t h).1; omega) NH_le (by simp only [List.mem_cons, List.not_mem_nil, or_false] at h; rcases h with rfl | rfl <;> rfl) (by decide) hi (by decide)
set_option maxRecDepth 100000 in
theorem sT15 (h : t ∈ [16, 37]) {i : Nat} {x : Int32} (hi : i < 6) : pAst (HH I J tx sp bt tt) (t + 10) 100 (nI i) (.int x) = some (HH (up2 I (t + 10) i x) J tx sp bt tt) := pAstI_mk (n := 6) (by have := (t_sh t h).1; omega) NH_le (by simp only [List.mem_cons, List.not_mem_nil, or_false] at h; rcases h with rfl | rfl <;> rfl) (by decide) hi (by decide)
set_option maxRecDepth 100000 in
theorem lT15 (h : t ∈ [16, 37]) : pAlen X (HH I J tx sp bt tt) (t + 10) = some (nI 6) := pAlen_mk (t := 100) (by have := (t_sh t h).1; omega) NH_le (by simp only [List.mem_cons, List.not_mem_nil, or_false] at h; rcases h with rfl | rfl <;> rfl) (by decide)
set_option maxRecDepth 100000 in
theorem gT16 (h : t ∈ [16, 37]) : pGetR X (HH I J tx sp bt tt) t 9 16 = some (t + 11) := pGetR_mk (n := 20) (by have := (t_sh t h).1; omega) NH_le (t_sh t h).2.1 (by decide) (by decide) rfl (by simp only [List.mem_cons, List.not_mem_nil, or_false] at h; rcases h with rfl | rfl <;> rfl)
set_option maxRecDepth 100000 in
theorem aT16 (h : t ∈ [16, 37]) {i : Nat} (hi : i < 6) : pAldI X (HH I J tx sp bt tt) (t + 11) 100 (nI i) = some (I (t + 11) i) := pAldI_mk (n := 6) (by have := (t_sh t h).1; omega) NH_le (by simp only [List.mem_cons, List.not_mem_nil, or_false] at h; rcases h with rfl | rfl <;> rfl) (by decide) hi (by decide)
set_option maxRecDepth 100000 in
theorem sT16 (h : t ∈ [16, 37]) {i : Nat} {x : Int32} (hi : i < 6) : pAst (HH I J tx sp bt tt) (t + 11) 100 (nI i) (.int x) = some (HH (up2 I (t + 11) i x) J tx sp bt tt) := pAstI_mk (n := 6) (by have := (t_sh t h).1; omega) NH_le (by simp only [List.mem_cons, List.not_mem_nil, or_false] at h; rcases h with rfl | rfl <;> rfl) (by decide) hi (by decide)
set_option maxRecDepth 100000 in
theorem lT16 (h : t ∈ [16, 37]) : pAlen X (HH I J tx sp bt tt) (t + 11) = some (nI 6) := pAlen_mk (t := 100) (by have := (t_sh t h).1; omega) NH_le (by simp only [List.mem_cons, List.not_mem_nil, or_false] at h; rcases h with rfl | rfl <;> rfl) (by decide)
set_option maxRecDepth 100000 in
theorem gT17 (h : t ∈ [16, 37]) : pGetR X (HH I J tx sp bt tt) t 9 17 = some (t + 12) := pGetR_mk (n := 20) (by have := (t_sh t h).1; omega) NH_le (t_sh t h).2.1 (by decide) (by decide) rfl (by simp only [List.mem_cons, List.not_mem_nil, or_false] at h; rcases h with rfl | rfl <;> rfl)
set_option maxRecDepth 100000 in
theorem gT18 (h : t ∈ [16, 37]) : pGetR X (HH I J tx sp bt tt) t 9 18 = some (t + 15) := pGetR_mk (n := 20) (by have := (t_sh t h).1; omega) NH_le (t_sh t h).2.1 (by decide) (by decide) rfl (by simp only [List.mem_cons, List.not_mem_nil, or_false] at h; rcases h with rfl | rfl <;> rfl)
set_option maxRecDepth 100000 in
theorem gT19 (h : t ∈ [16, 37]) : pGetR X (HH I J tx sp bt tt) t 9 19 = some (t + 18) := pGetR_mk (n := 20) (by have := (t_sh t h).1; omega) NH_le (t_sh t h).2.1 (by decide) (by decide) rfl (by simp only [List.mem_cons, List.not_mem_nil, or_false] at h; rcases h with rfl | rfl <;> rfl)
set_option maxRecDepth 100000 in
theorem gL0 (h : l ∈ lwL) : pGetR X (HH I J tx sp bt tt) l 3 0 = some (l + 1) := pGetR_mk (n := 3) (by have := (l_sh l h).1; omega) NH_le (l_sh l h).2.1 (by decide) (by decide) rfl (by obtain ⟨-, -, -, -, a, b, c, d, e⟩ := l_sh l h; unfold RT; rw [if_neg (fun q => a q.1), if_neg (fun q => a q.1), if_neg (fun q => b q.1), if_neg (fun q => c q.1), d])
set_option maxRecDepth 100000 in
theorem gL1 (h : l ∈ lwL) : pGetR X (HH I J tx sp bt tt) l 3 1 = some (l + 2) := pGetR_mk (n := 3) (by have := (l_sh l h).1; omega) NH_le (l_sh l h).2.1 (by decide) (by decide) rfl (by obtain ⟨-, -, -, -, a, b, c, d, e⟩ := l_sh l h; unfold RT; rw [if_neg (fun q => a q.1), if_neg (fun q => a q.1), if_neg (fun q => b q.1), if_neg (fun q => c q.1), e])
set_option maxRecDepth 100000 in
theorem gL2 (h : l ∈ lwL) : pGetI X (HH I J tx sp bt tt) l 3 2 = some (I l 2) := pGetI_mk (n := 3) (by have := (l_sh l h).1; omega) NH_le (l_sh l h).2.1 (by decide) (by decide) rfl
set_option maxRecDepth 100000 in
theorem pL2 (h : l ∈ lwL) {x : Int32} : pPut (HH I J tx sp bt tt) l 3 2 (.int x) = some (HH (up2 I l 2 x) J tx sp bt tt) := pPutI_mk (n := 3) (by have := (l_sh l h).1; omega) NH_le (l_sh l h).2.1 (by decide) (by decide) rfl
set_option maxRecDepth 100000 in
theorem aL0 (h : l ∈ lwL) {i : Nat} (hi : i < 512) : pAldI X (HH I J tx sp bt tt) (l + 1) 100 (nI i) = some (I (l + 1) i) := pAldI_mk (n := 512) (by have := (l_sh l h).1; omega) NH_le (l_sh l h).2.2.1 (by decide) hi (by decide)
set_option maxRecDepth 100000 in
theorem sL0 (h : l ∈ lwL) {i : Nat} {x : Int32} (hi : i < 512) : pAst (HH I J tx sp bt tt) (l + 1) 100 (nI i) (.int x) = some (HH (up2 I (l + 1) i x) J tx sp bt tt) := pAstI_mk (n := 512) (by have := (l_sh l h).1; omega) NH_le (l_sh l h).2.2.1 (by decide) hi (by decide)
set_option maxRecDepth 100000 in
theorem lL0 (h : l ∈ lwL) : pAlen X (HH I J tx sp bt tt) (l + 1) = some (nI 512) := pAlen_mk (by have := (l_sh l h).1; omega) NH_le (l_sh l h).2.2.1 (by decide)
set_option maxRecDepth 100000 in
theorem aL1 (h : l ∈ lwL) {i : Nat} (hi : i < 64) : pAldI X (HH I J tx sp bt tt) (l + 2) 100 (nI i) = some (I (l + 2) i) := pAldI_mk (n := 64) (by have := (l_sh l h).1; omega) NH_le (l_sh l h).2.2.2.1 (by decide) hi (by decide)
set_option maxRecDepth 100000 in
theorem sL1 (h : l ∈ lwL) {i : Nat} {x : Int32} (hi : i < 64) : pAst (HH I J tx sp bt tt) (l + 2) 100 (nI i) (.int x) = some (HH (up2 I (l + 2) i x) J tx sp bt tt) := pAstI_mk (n := 64) (by have := (l_sh l h).1; omega) NH_le (l_sh l h).2.2.2.1 (by decide) hi (by decide)
set_option maxRecDepth 100000 in
theorem lL1 (h : l ∈ lwL) : pAlen X (HH I J tx sp bt tt) (l + 2) = some (nI 64) := pAlen_mk (by have := (l_sh l h).1; omega) NH_le (l_sh l h).2.2.2.1 (by decide)
end
