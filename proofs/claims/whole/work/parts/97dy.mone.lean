/-! PROMISE 4: READ, THE SECOND SIDE: ONE TELLING -/
def mLB (I : Nat → Nat → Int32) (sd B Z : Nat) (LW : Nat → Option Lw) : Prop := ∀ k, k < 3 → (LW k = none → I 555 (3 * sd + k) = I 556 (3 * sd + k)) ∧ ∀ bs e, LW k = some (bs, e) → bsOK bs e ∧ ∃ f m, I 555 (3 * sd + k) = nI f ∧ I 556 (3 * sd + k) = nI m ∧ m ≤ 260 ∧ lawB I sd B Z f bs e m
def MR (I : Nat → Nat → Int32) (sd B Z : Nat) (LW : Nat → Option Lw) : Prop := I 527 19 = nI sd ∧ I 527 12 = nI 0 ∧ I 527 43 = nI B ∧ I 527 49 = nI Z ∧ mLB I sd B Z LW
def MG (I : Nat → Nat → Int32) (J : Nat → Nat → Int64) (b : Nat → Nat) (n c sd p : Nat) (g : Sg) : Prop := MS I J b n c (0, p) g.2.2.1 g.2.1 ∧ mXG I sd g.1 (lnM g.1) ∧ ∃ B Z, 130 * sd ≤ B ∧ 4 * B ≤ 520 * sd + p ∧ 420 * sd ≤ Z ∧ Z ≤ 420 * sd + p ∧ MR I sd B Z g.2.2.2
def fTw (sd : Nat) (I I2 : Nat → Nat → Int32) : Prop := ∀ a k, ¬ (a = 527 ∧ ((11 ≤ k ∧ k ≤ 16) ∨ k = 20 ∨ k = 43 ∨ k = 49 ∨ k = 53)) → a ≠ 536 → a ≠ 537 → a ≠ 564 → ¬ ((538 ≤ a ∧ a ≤ 563) ∧ oS sd a k) → I2 a k = I a k
theorem fTw.trans {sd : Nat} {I I2 I3 : Nat → Nat → Int32} (h : fTw sd I I2) (g : fTw sd I2 I3) : fTw sd I I3 := fun a k q1 q2 q3 q4 q5 => (g a k q1 q2 q3 q4 q5).trans (h a k q1 q2 q3 q4 q5)
theorem fTl.W {sd : Nat} {I I2 : Nat → Nat → Int32} (h : fTl sd I I2) : fTw sd I I2 := fun a k q1 q2 q3 q4 q5 => h a k (by omega) q2 q3 q4 (fun z => q5 ⟨by omega, z.2⟩)
theorem fLw.W {sd kk B Z : Nat} {I I2 : Nat → Nat → Int32} (hk : kk < 3) (hB : 130 * sd ≤ B) (hZ : 420 * sd ≤ Z) (h : fLw sd kk B Z I I2) : fTw sd I I2 := fun a k q1 q2 q3 q4 q5 => by
  refine h a k (by omega) q4 (fun z => q5 ⟨by omega, ?_⟩) (fun z => q5 ⟨by omega, ?_⟩) (fun z => q5 ⟨by omega, ?_⟩)
  · have e : wdA a = 130 := by
      obtain ⟨⟨z1, z2⟩, -⟩ := z
      unfold wdA; rw [if_neg (by omega), if_neg (by omega), if_neg (by omega), if_neg (by omega), if_neg (by omega), if_pos ⟨z1, z2⟩]
    unfold oS; rw [e]; omega
  · have e : wdA a = 420 := by
      obtain ⟨z1, -⟩ := z
      unfold wdA; rw [if_neg (by omega), if_neg (by omega), if_neg (by omega), if_neg (by omega), if_neg (by omega), if_neg (by omega), if_pos (by omega)]
    unfold oS; rw [e]; omega
  · have e : wdA a = 3 := by
      obtain ⟨z1, -⟩ := z
      unfold wdA; rw [if_neg (by omega), if_neg (by omega), if_neg (by omega), if_neg (by omega), if_pos z1]
    unfold oS; rw [e]; omega
theorem mLB.to {I I2 : Nat → Nat → Int32} {sd B Z B2 Z2 : Nat} {LW : Nat → Option Lw} (h : mLB I sd B Z LW) (f : ∀ k, k < 3 → I2 555 (3 * sd + k) = I 555 (3 * sd + k) ∧ I2 556 (3 * sd + k) = I 556 (3 * sd + k)) (g : agB sd B Z I I2) (hB : B ≤ B2) (hZ : Z ≤ Z2) : mLB I2 sd B2 Z2 LW := fun k hk => by
  obtain ⟨h1, h2⟩ := h k hk
  obtain ⟨f1, f2⟩ := f k hk
  refine ⟨fun z => by rw [f1, f2]; exact h1 z, fun bs e z => ?_⟩
  obtain ⟨q0, ff, m, q1, q2, q3, q4⟩ := h2 bs e z
  exact ⟨q0, ff, m, by rw [f1]; exact q1, by rw [f2]; exact q2, q3, q4.to g hB hZ⟩
theorem MR.to {I I2 : Nat → Nat → Int32} {sd B Z : Nat} {LW : Nat → Option Lw} (h : MR I sd B Z LW) (f : fTl sd I I2) : MR I2 sd B Z LW := by
  obtain ⟨h1, h2, h3, h4, h5⟩ := h
  have g : ∀ a k, 555 ≤ a ∧ a ≤ 563 → I2 a k = I a k := fun a k q => f a k (by omega) (by omega) (by omega) (by omega) (by omega)
  have g7 : ∀ k, ¬ (k = 11 ∨ (13 ≤ k ∧ k ≤ 16) ∨ k = 20) → I2 527 k = I 527 k := fun k q => f 527 k (by omega) (by decide) (by decide) (by decide) (by omega)
  exact ⟨by rw [g7 _ (by decide)]; exact h1, by rw [g7 _ (by decide)]; exact h2, by rw [g7 _ (by decide)]; exact h3, by rw [g7 _ (by decide)]; exact h4, h5.to (fun k _ => ⟨g _ _ (by decide), g _ _ (by decide)⟩) ⟨fun a j q _ _ => g a j (by omega), fun a j q _ _ => g a j (by omega)⟩ (Nat.le_refl _) (Nat.le_refl _)⟩
def toG (X : pG) (I : Nat → Nat → Int32) (J : Nat → Nat → Int64) (tx sp : Nat) (bt tt : Value) (b : Nat → Nat) (n c sd p : Nat) (g : Sg) : Prop := ∃ I2 J2, Call X k_M_tellOne [.ref 527] (HH I J tx sp bt tt) = some (.retAddr 0, HH I2 J2 tx sp bt tt) ∧ psM I2 b n c (syn (tk b n) (tv b n) g.1 p) ∧ ((syn (tk b n) (tv b n) g.1 p).1 = 0 → MG I2 J2 b n c sd (syn (tk b n) (tv b n) g.1 p).2 (smn (tk b n) (tv b n) (tnm b n) p g)) ∧ fTw sd I I2 ∧ ∀ a k, a ≠ 535 → J2 a k = J a k
section
variable {I : Nat → Nat → Int32} {J : Nat → Nat → Int64} {tx sp sd : Nat} {bt tt : Value} {X : pG} {b : Nat → Nat} {n c : Nat} {s w : Nat × Nat} {L : List (Nat × Nat × Nat)} {T : Nat → Nat → Nat}
theorem MG_fin {I2 : Nat → Nat → Int32} {J2 : Nat → Nat → Int64} {g g2 : Sg} {p : Nat} {s2 : Nat × Nat} (hs : s2.1 = 0) (hle : p ≤ s2.2) (h : MG I J b n c sd p g) (hLW : g2.2.2.2 = g.2.2.2) (hM : MS I2 J2 b n c s2 g2.2.2.1 g2.2.1) (hX : mXG I2 sd g2.1 (lnM g2.1)) (f : fTl sd I I2) : MG I2 J2 b n c sd s2.2 g2 := by
  obtain ⟨h1, h2, B, Z, b1, b2, b3, b4, hR⟩ := h
  have e : s2 = (0, s2.2) := Prod.ext hs rfl
  rw [e] at hM
  exact ⟨hM, hX, B, Z, b1, by omega, b3, by omega, by rw [hLW]; exact hR.to f⟩
theorem M_roomFor_ok {p a m : Nat} (ha : a ≤ 100) (hm : m ≤ 100) (hk : tk b n p ≠ 0) (h : MS I J b n c (0, p) w L) : ∃ I2, Call X k_M_roomFor [.ref 527, .int (nI a), .int (nI m)] (HH I J tx sp bt tt) = some (.retAddr 0, HH I2 J tx sp bt tt) ∧ psM I2 b n c (if a = m then (2, p) else adv p) ∧ fmQ I I2 ∧ (a ≠ m → (adv p).1 = 0 → MS I2 J b n c (0, p + 1) w L) := by
  have l2 : (2 : Int32) = nI 2 := Int32.toBitVec_inj.mp rfl
  have h13 : I 527 13 = nI 0 := h.2.1.1
  by_cases e : a = m
  · obtain ⟨I2, f1, f2, f3⟩ := M_fail_ok (k := 2) (X := X) (J := J) (tx := tx) (sp := sp) (bt := bt) (tt := tt) h.1 h.2.1 (by decide)
    have f2 : psM I2 b n c (2, p) := f2
    refine ⟨I2, ?_, by rw [if_pos e]; exact f2, f3, fun z => absurd e z⟩
    have q13 : I2 527 13 = nI 2 := f2.1
    rw [C_M_roomFor, e_M_roomFor_0, e, if_pos rfl, l2, bndV f1, bndE gM13 q13, if_neg (by decide)]
  · obtain ⟨I2, f1, f2, f3⟩ := M_goesOn_ok (X := X) (J := J) (tx := tx) (sp := sp) (bt := bt) (tt := tt) h.1 h.2.1 (fun _ => hk)
    have f2 : psM I2 b n c (adv p) := f2
    refine ⟨I2, ?_, by rw [if_neg e]; exact f2, f3, fun _ z => ?_⟩
    · rw [C_M_roomFor, e_M_roomFor_0, if_neg (fun z => e ((nI_eq (by omega) (by omega)).mp z)), bndE gM13 h13, if_pos (by decide), bndV f1]
    · rw [(adv_0 z).2] at f2
      exact h.st f3 f2 (fun _ => ⟨rfl, Nat.le_succ p⟩)
theorem lenA {g : Sg} (hA : gA g) (h : g.1 0 0 ≠ 7 ∨ g.1 1 0 ≠ 5 ∨ g.1 2 0 ≠ 6 ∨ g.1 3 0 ≠ 6) : g.2.1.length < 24 := by
  obtain ⟨⟨q1, q2, q3, q4, q5⟩, h2, -⟩ := hA
  omega
theorem one_0 {p : Nat} (h : MS I J b n c (0, p) w L) : I 527 11 = nI p ∧ p ≤ 400 ∧ I 530 p = nI (tk b n p) := ⟨(h.2.1.2.2.2.1 rfl).1, h.2.1.2.2.1, (h.1.2.2.2 p h.2.1.2.2.1 (h.2.1.2.2.2.1 rfl).2).1⟩
theorem adv_2 {p : Nat} (h : (adv p).1 ≠ 0) : adv p = (2, p) := by
  by_cases c : p < 400
  · rw [adv_lt c] at h; exact absurd rfl h
  · exact adv_ge c
theorem cnt_M {x : Nat} (hx : mXG I sd T (lnM T)) (h : x < 4 ∨ x = 11) : I (moC x) sd = nI (T x 0) := by
  have l : 0 < lnM T x := by
    unfold lnM
    rcases h with h | h
    · rw [if_pos (by omega)]; decide
    · subst h; exact (by decide : 0 < 1)
  have w : mWC x = 1 := by
    rcases (show x = 0 ∨ x = 1 ∨ x = 2 ∨ x = 3 ∨ x = 11 by omega) with q | q | q | q | q <;> subst q <;> rfl
  have e := hx x (by omega) 0 l
  unfold enC at e
  rw [w, Nat.one_mul, Nat.add_zero, if_neg (by omega)] at e
  exact e
theorem to_20 {g : Sg} {p : Nat} (hn : n ≤ 2000) (h8 : ∀ j, j < n → b j < 256) (hV : ∀ p, tk b n p = 2 → tv b n p < 10000) (hsd : sd < 2) (hA : gA g) (h : MG I J b n c sd p g) (hk : tk b n p = 20) : toG X I J tx sp bt tt b n c sd p g := by
  have l7 : (7 : Int32) = nI 7 := Int32.toBitVec_inj.mp rfl
  have h' := h
  obtain ⟨hM, hX, B, Z, b1, b2, b3, b4, hR⟩ := h
  obtain ⟨q2, q1, hc⟩ := one_0 hM
  rw [hk] at hc
  have hcn := cnt_M (x := 0) hX (by decide)
  have hcn : I 538 sd = nI (g.1 0 0) := hcn
  have hb := hA.1.1
  obtain ⟨I1, r1, r2, r3, r4⟩ := M_roomFor_ok (a := g.1 0 0) (m := 7) (X := X) (J := J) (tx := tx) (sp := sp) (bt := bt) (tt := tt) (by omega) (by decide) (by omega) hM
  have r13 := r2.1
  have rhf := r2.2.1
  have ent : ∀ Q : pRes, (pAV (Call X k_M_roomFor [.ref 527, .int (nI (g.1 0 0)), .int (nI 7)] (HH I J tx sp bt tt))).bind (fun hh7 => (pGetI X hh7 527 12 13).bind fun ii8 => if ii8 = 0 then (pAV (Call X k_M_tellThing [.ref 527] hh7)).bind fun hh9 => some (.retAddr 0, hh9) else some (.retAddr 0, hh7)) = Q → Call X k_M_tellOne [.ref 527] (HH I J tx sp bt tt) = Q := fun Q hQ => by
    rw [C_M_tellOne, e_M_tellOne_0, gM5, bnd_some, bndE gM11 q2, bndE (aM5 (by omega)) hc, if_pos (by decide), gM24, bnd_some, bndE gM19 hR.1, bndE (aM24 hsd) hcn, l7]
    exact hQ
  have bad : ∀ s2 : Nat × Nat, syn (tk b n) (tv b n) g.1 p = s2 → s2.1 ≠ 0 → psM I1 b n c s2 → toG X I J tx sp bt tt b n c sd p g := fun s2 e1 e2 e3 => by
    unfold toG
    rw [e1]
    have r13 := e3.1
    have := e3.2.1
    refine ⟨I1, J, ent _ ?_, e3, fun z => absurd z e2, (fmP.T r3.P).W, fun _ _ _ => rfl⟩
    rw [bndV r1, bndE gM13 r13, L0, if_neg (fun z => e2 ((nI_eq (by omega) (by decide)).mp z))]
  by_cases e7 : g.1 0 0 = 7
  · rw [if_pos e7] at r2
    exact bad (2, p) (by rw [syn_20 hk, if_pos e7]) (by intro y; cases y) r2
  · rw [if_neg e7] at r2
    by_cases z : (adv p).1 = 0
    · obtain ⟨I2, J2, t1, t2, t3, t4, t5⟩ := M_tellThing_ok (p := p + 1) (cc := g.1 0 0) (X := X) (tx := tx) (sp := sp) (bt := bt) (tt := tt) hn h8 hsd (by rw [r3.P _ _ (by decide)]; exact hR.1) rfl (by omega) (lenA hA (Or.inl e7)) (hX.fm r3.P) (r4 e7 z)
      have es : syn (tk b n) (tv b n) g.1 p = mus (tk b n) 4 (mus (tk b n) 2 (mus (tk b n) 1 (0, p + 1))) := by rw [syn_20 hk, if_neg e7, (adv_0 z).2]
      have f := (fmP.T r3.P).trans t4
      refine ⟨I2, J2, ent _ ?_, by rw [es]; exact t2, fun y => ?_, f.W, t5⟩
      · have r13 : I1 527 13 = nI 0 := by rw [(r4 e7 z).2.1.1]
        rw [bndV r1, bndE gM13 r13, if_pos (by decide), bndV t1]
      · have hle := (syn_end hV q1 y).2.1
        rw [es] at y hle
        obtain ⟨u1, u2⟩ := t3 y
        rw [es]
        exact MG_fin y (by omega) h' (by rw [smn_20 hk]) (by rw [smn_20 hk]; exact u1) (by rw [smn_20 hk]; exact u2) f
    · rw [adv_2 z] at r2
      exact bad (2, p) (by rw [syn_20 hk, if_neg e7, adv_2 z]; rfl) (by intro y; cases y) r2
theorem to_21 {g : Sg} {p : Nat} (hn : n ≤ 2000) (h8 : ∀ j, j < n → b j < 256) (hV : ∀ p, tk b n p = 2 → tv b n p < 10000) (hsd : sd < 2) (hA : gA g) (h : MG I J b n c sd p g) (hk : tk b n p = 21) : toG X I J tx sp bt tt b n c sd p g := by
  have l7 : (5 : Int32) = nI 5 := Int32.toBitVec_inj.mp rfl
  have h' := h
  obtain ⟨hM, hX, B, Z, b1, b2, b3, b4, hR⟩ := h
  obtain ⟨q2, q1, hc⟩ := one_0 hM
  rw [hk] at hc
  have hcn := cnt_M (x := 1) hX (by decide)
  have hcn : I 540 sd = nI (g.1 1 0) := hcn
  have hb := hA.1.2.1
  obtain ⟨I1, r1, r2, r3, r4⟩ := M_roomFor_ok (a := g.1 1 0) (m := 5) (X := X) (J := J) (tx := tx) (sp := sp) (bt := bt) (tt := tt) (by omega) (by decide) (by omega) hM
  have r13 := r2.1
  have rhf := r2.2.1
  have ent : ∀ Q : pRes, (pAV (Call X k_M_roomFor [.ref 527, .int (nI (g.1 1 0)), .int (nI 5)] (HH I J tx sp bt tt))).bind (fun hh7 => (pGetI X hh7 527 12 13).bind fun ii8 => if ii8 = 0 then (pAV (Call X k_M_tellInn [.ref 527] hh7)).bind fun hh9 => some (.retAddr 0, hh9) else some (.retAddr 0, hh7)) = Q → Call X k_M_tellOne [.ref 527] (HH I J tx sp bt tt) = Q := fun Q hQ => by
    rw [C_M_tellOne, e_M_tellOne_0, gM5, bnd_some, bndE gM11 q2, bndE (aM5 (by omega)) hc, if_neg (by decide), if_pos (by decide), gM26, bnd_some, bndE gM19 hR.1, bndE (aM26 hsd) hcn, l7]
    exact hQ
  have bad : ∀ s2 : Nat × Nat, syn (tk b n) (tv b n) g.1 p = s2 → s2.1 ≠ 0 → psM I1 b n c s2 → toG X I J tx sp bt tt b n c sd p g := fun s2 e1 e2 e3 => by
    unfold toG
    rw [e1]
    have r13 := e3.1
    have := e3.2.1
    refine ⟨I1, J, ent _ ?_, e3, fun z => absurd z e2, (fmP.T r3.P).W, fun _ _ _ => rfl⟩
    rw [bndV r1, bndE gM13 r13, L0, if_neg (fun z => e2 ((nI_eq (by omega) (by decide)).mp z))]
  by_cases e7 : g.1 1 0 = 5
  · rw [if_pos e7] at r2
    exact bad (2, p) (by rw [syn_21 hk, if_pos e7]) (by intro y; cases y) r2
  · rw [if_neg e7] at r2
    by_cases z : (adv p).1 = 0
    · obtain ⟨I2, J2, t1, t2, t3, t4, t5⟩ := M_tellInn_ok (p := p + 1) (cc := g.1 1 0) (X := X) (tx := tx) (sp := sp) (bt := bt) (tt := tt) hn h8 hsd (by rw [r3.P _ _ (by decide)]; exact hR.1) rfl (by omega) (lenA hA (Or.inr (Or.inl e7))) (hX.fm r3.P) (r4 e7 z)
      have es : syn (tk b n) (tv b n) g.1 p = mus (tk b n) 4 (mus (tk b n) 2 (mus (tk b n) 2 (mus (tk b n) 2 (mus (tk b n) 1 (0, p + 1))))) := by rw [syn_21 hk, if_neg e7, (adv_0 z).2]
      have f := (fmP.T r3.P).trans t4
      refine ⟨I2, J2, ent _ ?_, by rw [es]; exact t2, fun y => ?_, f.W, t5⟩
      · have r13 : I1 527 13 = nI 0 := by rw [(r4 e7 z).2.1.1]
        rw [bndV r1, bndE gM13 r13, if_pos (by decide), bndV t1]
      · have hle := (syn_end hV q1 y).2.1
        rw [es] at y hle
        obtain ⟨u1, u2⟩ := t3 y
        rw [es]
        exact MG_fin y (by omega) h' (by rw [smn_21 hk]) (by rw [smn_21 hk]; exact u1) (by rw [smn_21 hk]; exact u2) f
    · rw [adv_2 z] at r2
      exact bad (2, p) (by rw [syn_21 hk, if_neg e7, adv_2 z]; rfl) (by intro y; cases y) r2
theorem to_23 {g : Sg} {p : Nat} (hn : n ≤ 2000) (h8 : ∀ j, j < n → b j < 256) (hV : ∀ p, tk b n p = 2 → tv b n p < 10000) (hsd : sd < 2) (hA : gA g) (h : MG I J b n c sd p g) (hk : tk b n p = 23) : toG X I J tx sp bt tt b n c sd p g := by
  have l7 : (6 : Int32) = nI 6 := Int32.toBitVec_inj.mp rfl
  have h' := h
  obtain ⟨hM, hX, B, Z, b1, b2, b3, b4, hR⟩ := h
  obtain ⟨q2, q1, hc⟩ := one_0 hM
  rw [hk] at hc
  have hcn := cnt_M (x := 2) hX (by decide)
  have hcn : I 545 sd = nI (g.1 2 0) := hcn
  have hb := hA.1.2.2.1
  obtain ⟨I1, r1, r2, r3, r4⟩ := M_roomFor_ok (a := g.1 2 0) (m := 6) (X := X) (J := J) (tx := tx) (sp := sp) (bt := bt) (tt := tt) (by omega) (by decide) (by omega) hM
  have r13 := r2.1
  have rhf := r2.2.1
  have ent : ∀ Q : pRes, (pAV (Call X k_M_roomFor [.ref 527, .int (nI (g.1 2 0)), .int (nI 6)] (HH I J tx sp bt tt))).bind (fun hh7 => (pGetI X hh7 527 12 13).bind fun ii8 => if ii8 = 0 then (pAV (Call X k_M_tellGuest [.ref 527] hh7)).bind fun hh9 => some (.retAddr 0, hh9) else some (.retAddr 0, hh7)) = Q → Call X k_M_tellOne [.ref 527] (HH I J tx sp bt tt) = Q := fun Q hQ => by
    rw [C_M_tellOne, e_M_tellOne_0, gM5, bnd_some, bndE gM11 q2, bndE (aM5 (by omega)) hc, if_neg (by decide), if_neg (by decide), if_neg (by decide), if_pos (by decide), gM31, bnd_some, bndE gM19 hR.1, bndE (aM31 hsd) hcn, l7]
    exact hQ
  have bad : ∀ s2 : Nat × Nat, syn (tk b n) (tv b n) g.1 p = s2 → s2.1 ≠ 0 → psM I1 b n c s2 → toG X I J tx sp bt tt b n c sd p g := fun s2 e1 e2 e3 => by
    unfold toG
    rw [e1]
    have r13 := e3.1
    have := e3.2.1
    refine ⟨I1, J, ent _ ?_, e3, fun z => absurd z e2, (fmP.T r3.P).W, fun _ _ _ => rfl⟩
    rw [bndV r1, bndE gM13 r13, L0, if_neg (fun z => e2 ((nI_eq (by omega) (by decide)).mp z))]
  by_cases e7 : g.1 2 0 = 6
  · rw [if_pos e7] at r2
    exact bad (2, p) (by rw [syn_23 hk, if_pos e7]) (by intro y; cases y) r2
  · rw [if_neg e7] at r2
    by_cases z : (adv p).1 = 0
    · obtain ⟨I2, J2, t1, t2, t3, t4, t5⟩ := M_tellGuest_ok (p := p + 1) (cc := g.1 2 0) (X := X) (tx := tx) (sp := sp) (bt := bt) (tt := tt) hn h8 hsd (by rw [r3.P _ _ (by decide)]; exact hR.1) rfl (by omega) (lenA hA (Or.inr (Or.inr (Or.inl e7)))) (hX.fm r3.P) (r4 e7 z)
      have es : syn (tk b n) (tv b n) g.1 p = mus (tk b n) 4 (mus (tk b n) 2 (mus (tk b n) 2 (mus (tk b n) 2 (mus (tk b n) 1 (0, p + 1))))) := by rw [syn_23 hk, if_neg e7, (adv_0 z).2]
      have f := (fmP.T r3.P).trans t4
      refine ⟨I2, J2, ent _ ?_, by rw [es]; exact t2, fun y => ?_, f.W, t5⟩
      · have r13 : I1 527 13 = nI 0 := by rw [(r4 e7 z).2.1.1]
        rw [bndV r1, bndE gM13 r13, if_pos (by decide), bndV t1]
      · have hle := (syn_end hV q1 y).2.1
        rw [es] at y hle
        obtain ⟨u1, u2⟩ := t3 y
        rw [es]
        exact MG_fin y (by omega) h' (by rw [smn_23 hk]) (by rw [smn_23 hk]; exact u1) (by rw [smn_23 hk]; exact u2) f
    · rw [adv_2 z] at r2
      exact bad (2, p) (by rw [syn_23 hk, if_neg e7, adv_2 z]; rfl) (by intro y; cases y) r2
theorem to_25 {g : Sg} {p : Nat} (hn : n ≤ 2000) (h8 : ∀ j, j < n → b j < 256) (hV : ∀ p, tk b n p = 2 → tv b n p < 10000) (hsd : sd < 2) (hA : gA g) (h : MG I J b n c sd p g) (hk : tk b n p = 25) : toG X I J tx sp bt tt b n c sd p g := by
  have l7 : (6 : Int32) = nI 6 := Int32.toBitVec_inj.mp rfl
  have h' := h
  obtain ⟨hM, hX, B, Z, b1, b2, b3, b4, hR⟩ := h
  obtain ⟨q2, q1, hc⟩ := one_0 hM
  rw [hk] at hc
  have hcn := cnt_M (x := 3) hX (by decide)
  have hcn : I 551 sd = nI (g.1 3 0) := hcn
  have hb := hA.1.2.2.2.2
  obtain ⟨I1, r1, r2, r3, r4⟩ := M_roomFor_ok (a := g.1 3 0) (m := 6) (X := X) (J := J) (tx := tx) (sp := sp) (bt := bt) (tt := tt) (by omega) (by decide) (by omega) hM
  have r13 := r2.1
  have rhf := r2.2.1
  have ent : ∀ Q : pRes, (pAV (Call X k_M_roomFor [.ref 527, .int (nI (g.1 3 0)), .int (nI 6)] (HH I J tx sp bt tt))).bind (fun hh7 => (pGetI X hh7 527 12 13).bind fun ii8 => if ii8 = 0 then (pAV (Call X k_M_tellPost [.ref 527] hh7)).bind fun hh9 => some (.retAddr 0, hh9) else some (.retAddr 0, hh7)) = Q → Call X k_M_tellOne [.ref 527] (HH I J tx sp bt tt) = Q := fun Q hQ => by
    rw [C_M_tellOne, e_M_tellOne_0, gM5, bnd_some, bndE gM11 q2, bndE (aM5 (by omega)) hc, if_neg (by decide), if_neg (by decide), if_neg (by decide), if_neg (by decide), if_neg (by decide), if_pos (by decide), gM37, bnd_some, bndE gM19 hR.1, bndE (aM37 hsd) hcn, l7]
    exact hQ
  have bad : ∀ s2 : Nat × Nat, syn (tk b n) (tv b n) g.1 p = s2 → s2.1 ≠ 0 → psM I1 b n c s2 → toG X I J tx sp bt tt b n c sd p g := fun s2 e1 e2 e3 => by
    unfold toG
    rw [e1]
    have r13 := e3.1
    have := e3.2.1
    refine ⟨I1, J, ent _ ?_, e3, fun z => absurd z e2, (fmP.T r3.P).W, fun _ _ _ => rfl⟩
    rw [bndV r1, bndE gM13 r13, L0, if_neg (fun z => e2 ((nI_eq (by omega) (by decide)).mp z))]
  by_cases e7 : g.1 3 0 = 6
  · rw [if_pos e7] at r2
    exact bad (2, p) (by rw [syn_25 hk, if_pos e7]) (by intro y; cases y) r2
  · rw [if_neg e7] at r2
    by_cases z : (adv p).1 = 0
    · obtain ⟨I2, J2, t1, t2, t3, t4, t5⟩ := M_tellPost_ok (p := p + 1) (cc := g.1 3 0) (X := X) (tx := tx) (sp := sp) (bt := bt) (tt := tt) hn h8 hsd (by rw [r3.P _ _ (by decide)]; exact hR.1) rfl (by omega) (lenA hA (Or.inr (Or.inr (Or.inr e7)))) (hX.fm r3.P) (fun y a e => by have := fnd_1 hA.2.2.1 e; have := hA.1.2.1; omega) (r4 e7 z)
      have es : syn (tk b n) (tv b n) g.1 p = mus (tk b n) 4 (nmS (tk b n) 401 (mus (tk b n) 1 (0, p + 1))) := by rw [syn_25 hk, if_neg e7, (adv_0 z).2]
      have f := (fmP.T r3.P).trans t4
      refine ⟨I2, J2, ent _ ?_, by rw [es]; exact t2, fun y => ?_, f.W, t5⟩
      · have r13 : I1 527 13 = nI 0 := by rw [(r4 e7 z).2.1.1]
        rw [bndV r1, bndE gM13 r13, if_pos (by decide), bndV t1]
      · have hle := (syn_end hV q1 y).2.1
        rw [es] at y hle
        obtain ⟨u1, u2⟩ := t3 y
        rw [es]
        exact MG_fin y (by omega) h' (by rw [smn_25 hk]) (by rw [smn_25 hk]; exact u1) (by rw [smn_25 hk]; exact u2) f
    · rw [adv_2 z] at r2
      exact bad (2, p) (by rw [syn_25 hk, if_neg e7, adv_2 z]; rfl) (by intro y; cases y) r2
theorem lnM_eq {T T2 : Nat → Nat → Nat} (h0 : T2 0 0 = T 0 0) (h1 : T2 1 0 = T 1 0) (h2 : T2 2 0 = T 2 0) (h3 : T2 3 0 = T 3 0) : lnM T2 = lnM T := by
  funext x; unfold lnM; rw [h0, h1, h2, h3]
theorem twi_k {N : Nat → Nat} {L : List (Nat × Nat × Nat)} {T : Nat → Nat → Nat} {p x k v : Nat} (h : x < 11) : up2 (twiT N L T p) 11 0 v x k = T x k := by
  rw [up2_o (by omega)]
  unfold twiT
  cases fnd L 2 (N (p + 1)) with
  | none => rfl
  | some a =>
    cases fnd L 2 (N (p + 2)) with
    | none => rfl
    | some o => dsimp only; rw [up2_o (by omega), up2_o (by omega)]
theorem to_24 {g : Sg} {p : Nat} (hn : n ≤ 2000) (h8 : ∀ j, j < n → b j < 256) (hV : ∀ p, tk b n p = 2 → tv b n p < 10000) (hsd : sd < 2) (hA : gA g) (h : MG I J b n c sd p g) (hk : tk b n p = 24) : toG X I J tx sp bt tt b n c sd p g := by
  have l7 : (3 : Int32) = nI 3 := Int32.toBitVec_inj.mp rfl
  have h' := h
  obtain ⟨hM, hX, B, Z, b1, b2, b3, b4, hR⟩ := h
  obtain ⟨q2, q1, hc⟩ := one_0 hM
  rw [hk] at hc
  have hcn := cnt_M (x := 11) hX (by decide)
  have hcn : I 550 sd = nI (g.1 11 0) := hcn
  have hb := hA.1.2.2.2.1
  obtain ⟨I1, r1, r2, r3, r4⟩ := M_roomFor_ok (a := g.1 11 0) (m := 3) (X := X) (J := J) (tx := tx) (sp := sp) (bt := bt) (tt := tt) (by omega) (by decide) (by omega) hM
  have r13 := r2.1
  have rhf := r2.2.1
  have ent : ∀ Q : pRes, (pAV (Call X k_M_roomFor [.ref 527, .int (nI (g.1 11 0)), .int (nI 3)] (HH I J tx sp bt tt))).bind (fun hh7 => (pGetI X hh7 527 12 13).bind fun ii8 => if ii8 = 0 then (pAV (Call X k_M_tellTwins [.ref 527] hh7)).bind fun hh9 => some (.retAddr 0, hh9) else some (.retAddr 0, hh7)) = Q → Call X k_M_tellOne [.ref 527] (HH I J tx sp bt tt) = Q := fun Q hQ => by
    rw [C_M_tellOne, e_M_tellOne_0, gM5, bnd_some, bndE gM11 q2, bndE (aM5 (by omega)) hc, if_neg (by decide), if_neg (by decide), if_neg (by decide), if_neg (by decide), if_pos (by decide), gM36, bnd_some, bndE gM19 hR.1, bndE (aM36 hsd) hcn, l7]
    exact hQ
  have bad : ∀ s2 : Nat × Nat, syn (tk b n) (tv b n) g.1 p = s2 → s2.1 ≠ 0 → psM I1 b n c s2 → toG X I J tx sp bt tt b n c sd p g := fun s2 e1 e2 e3 => by
    unfold toG
    rw [e1]
    have r13 := e3.1
    have := e3.2.1
    refine ⟨I1, J, ent _ ?_, e3, fun z => absurd z e2, (fmP.T r3.P).W, fun _ _ _ => rfl⟩
    rw [bndV r1, bndE gM13 r13, L0, if_neg (fun z => e2 ((nI_eq (by omega) (by decide)).mp z))]
  by_cases e7 : g.1 11 0 = 3
  · rw [if_pos e7] at r2
    exact bad (2, p) (by rw [syn_24 hk, if_pos e7]) (by intro y; cases y) r2
  · rw [if_neg e7] at r2
    by_cases z : (adv p).1 = 0
    · obtain ⟨I2, t1, t2, t3, t4⟩ := M_tellTwins_ok (p := p + 1) (cc := g.1 11 0) (X := X) (tx := tx) (sp := sp) (bt := bt) (tt := tt) hn h8 hsd (by rw [r3.P _ _ (by decide)]; exact hR.1) rfl (by omega) (hX.fm r3.P) (fun a ha => by have := hA.2.2.2.1 a ha; have := hA.1.2.2.1; omega) (fun y a e => by have := fnd_2 hA.2.2.1 e; have := hA.1.2.2.1; omega) (r4 e7 z)
      have es : syn (tk b n) (tv b n) g.1 p = mus (tk b n) 4 (mus (tk b n) 1 (mus (tk b n) 1 (0, p + 1))) := by rw [syn_24 hk, if_neg e7, (adv_0 z).2]
      have f := (fmP.T r3.P).trans t4
      refine ⟨I2, J, ent _ ?_, by rw [es]; exact t2, fun y => ?_, f.W, fun _ _ _ => rfl⟩
      · have r13 : I1 527 13 = nI 0 := by rw [(r4 e7 z).2.1.1]
        rw [bndV r1, bndE gM13 r13, if_pos (by decide), bndV t1]
      · have hle := (syn_end hV q1 y).2.1
        rw [es] at y hle
        obtain ⟨u1, u2⟩ := t3 y
        rw [es]
        exact MG_fin y (by omega) h' (by rw [smn_24 hk]) (by rw [smn_24 hk]; exact u1) (by
          have el : lnM (smn (tk b n) (tv b n) (tnm b n) p g).1 = lnM g.1 := by
            rw [smn_24 hk]
            exact lnM_eq (twi_k (x := 0) (v := g.1 11 0 + 1) (by decide)) (twi_k (x := 1) (v := g.1 11 0 + 1) (by decide)) (twi_k (x := 2) (v := g.1 11 0 + 1) (by decide)) (twi_k (x := 3) (v := g.1 11 0 + 1) (by decide))
          rw [el, smn_24 hk]
          exact u2) f
    · rw [adv_2 z] at r2
      exact bad (2, p) (by rw [syn_24 hk, if_neg e7, adv_2 z]; rfl) (by intro y; cases y) r2
end
