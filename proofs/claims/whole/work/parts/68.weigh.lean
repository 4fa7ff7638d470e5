/-! THE ROW'S INVARIANT; WHAT ALL OWE -/
def dT (n : Nat) (x u w : Int32) : Prop := x = -2 ∨ ∃ th un tw : Nat, th < n ∧ un ≤ 99 ∧ tw ≤ 1 ∧ x = nI th ∧ u = nI un ∧ w = nI tw
def dR (n : Nat) (x u w : Int32) : Prop := ∃ th un tw : Nat, th < n ∧ un ≤ 99 ∧ tw ≤ 1 ∧ x = nI th ∧ u = nI un ∧ w = nI tw
/-- how many bits of a set of guests -/
def pcN (s : Nat) : Nat := sumN (fun k => s / 2 ^ k % 2) 15
def lodN (G : Nat) (r : Nat → Int32) (i : Int32) : Nat := sumN (fun a => if r (6 + a) = i then 2 ^ a else 0) G
def rI (T : Nat → Nat → Nat) (r : Nat → Int32) : Prop :=
  (∀ a, a < 6 → dT (T 0 0) (r (12 + a)) (r (18 + a)) (r (24 + a))) ∧ (∀ a, a < 6 → iOK (T 1 0) (r (6 + a))) ∧ (∀ a, T 2 0 ≤ a → a < 6 → r (12 + a) = -2 ∧ r (6 + a) = -2) ∧
  (∀ a, a < 6 → ∃ c, c ≤ 5 ∧ r (30 + a) = nI c ∧ ∀ j, j < c → dR (T 0 0) (r (61 + 15 * a + 3 * j)) (r (62 + 15 * a + 3 * j)) (r (63 + 15 * a + 3 * j))) ∧ (∀ i, i < T 1 0 → pcN (lodN (T 2 0) r (nI i)) ≤ T 8 i)
def tW (T : Nat → Nat → Nat) : Prop := ∀ a, a < 6 → T 15 a ≠ 0 → T 15 (T 15 a - 1) = a + 1 ∧ T 15 a ≠ a + 1
def cB (I : Nat → Nat → Int32) (bt tt : Value) (b t : Nat) (T : Nat → Nat → Nat) (LW : Nat → Option Lw) (r : Nat → Int32) : Prop :=
  b ∈ [58, 71] ∧ t ∈ [16, 37] ∧ bT b bt tt = .ref t ∧ cT I t T ∧ tB T ∧ cL I t LW ∧ cS I (b + 1) (T 2 0) r ∧ rI T r ∧ tW T
def mB (I : Nat → Nat → Int32) (lv : Nat) (T : Nat → Nat → Nat) (LW : Nat → Option Lw) (r : Nat → Int32) : Prop := mT I lv T ∧ tB T ∧ mL I lv LW ∧ I 568 = r ∧ rI T r ∧ tW T
def thN (r : Nat → Int32) (a : Nat) : Nat := (r (12 + a)).toNatClampNeg
def unN (r : Nat → Int32) (a : Nat) : Nat := (r (18 + a)).toNatClampNeg
def twR (r : Nat → Int32) (a : Nat) : Nat := (r (24 + a)).toNatClampNeg
def ownN (T : Nat → Nat → Nat) (LW : Nat → Option Lw) (r : Nat → Int32) (a : Nat) : Nat := if r (12 + a) < 0 then 0 else dutyN T LW r a (r (6 + a)) (thN r a) (unN r a) (twR r a)
def shwN (T : Nat → Nat → Nat) (LW : Nat → Option Lw) (r : Nat → Int32) (a : Nat) : Nat := showN T LW r a (r (6 + a)) (thN r a) (unN r a) (twR r a)
def owesN (T : Nat → Nat → Nat) (LW : Nat → Option Lw) (r : Nat → Int32) (a : Nat) : Nat :=
  if T 15 a = 0 ∨ r (12 + a) < 0 ∨ r (12 + (T 15 a - 1)) < 0 then ownN T LW r a else if ownN T LW r a < ownN T LW r (T 15 a - 1) ∨ (ownN T LW r (T 15 a - 1) = ownN T LW r a ∧ T 15 a - 1 < a) then 0 else ownN T LW r a
def fW (b : Nat) (I I2 : Nat → Nat → Int32) : Prop := ∀ a k, a ≠ b + 12 → a ≠ b + 11 → ¬ lsC a → I2 a k = I a k
theorem fC.fw {b : Nat} {I I2 : Nat → Nat → Int32} (h : fC b I I2) : fW b I I2 := fun a k h1 _ h3 => h a k h1 h3
theorem fW.trans {b : Nat} {I I2 I3 : Nat → Nat → Int32} (h : fW b I I2) (h2 : fW b I2 I3) : fW b I I3 := fun a k h3 h4 h5 => by rw [h2 a k h3 h4 h5, h a k h3 h4 h5]
theorem dT.ok {n : Nat} {x u w : Int32} (h : dT n x u w) (hn : n ≤ 7) : dOK x u w := by
  rcases h with h | ⟨a, b, c, h1, h2⟩
  · exact Or.inl h
  · exact Or.inr ⟨a, b, c, by omega, h2⟩
theorem dT.some {n : Nat} {x u w : Int32} (h : dT n x u w) (hx : ¬ x < 0) : dR n x u w := by
  rcases h with h | h
  · exact absurd (by rw [h]; decide) hx
  · exact h
section
variable {I I2 : Nat → Nat → Int32} {bt tt : Value} {lv b t : Nat} {T : Nat → Nat → Nat} {LW : Nat → Option Lw} {r : Nat → Int32}
theorem cB.hb (h : cB I bt tt b t T LW r) : b ∈ [58, 71] := h.1
theorem cB.ht (h : cB I bt tt b t T LW r) : t ∈ [16, 37] := h.2.1
theorem cB.hbt (h : cB I bt tt b t T LW r) : bT b bt tt = .ref t := h.2.2.1
theorem cB.Te (h : cB I bt tt b t T LW r) : cT I t T := h.2.2.2.1
theorem cB.B (h : cB I bt tt b t T LW r) : tB T := h.2.2.2.2.1
theorem cB.L (h : cB I bt tt b t T LW r) : cL I t LW := h.2.2.2.2.2.1
theorem cB.S (h : cB I bt tt b t T LW r) : cS I (b + 1) (T 2 0) r := h.2.2.2.2.2.2.1
theorem cB.R (h : cB I bt tt b t T LW r) : rI T r := h.2.2.2.2.2.2.2.1
theorem cB.W (h : cB I bt tt b t T LW r) : tW T := h.2.2.2.2.2.2.2.2
theorem cB.hs (h : cB I bt tt b t T LW r) : b + 1 ∈ stL := (b_sh b h.hb).2.2.2.2
theorem rI.d (h : rI T r) (hB : tB T) : ∀ a, a < 6 → dOK (r (12 + a)) (r (18 + a)) (r (24 + a)) := fun a ha => (h.1 a ha).ok hB.1
theorem cB.d (h : cB I bt tt b t T LW r) : ∀ a, a < 6 → dOK (r (12 + a)) (r (18 + a)) (r (24 + a)) := h.R.d h.B
theorem cB.fw (h : cB I bt tt b t T LW r) (f : fW b I I2) : cB I2 bt tt b t T LW r := by
  have hb := b_le h.hb
  have h3 : t = 16 ∨ t = 37 := by simpa using h.ht
  exact ⟨h.hb, h.ht, h.hbt, h.Te.to fun a k hak => f a k (by omega) (by omega) (by unfold lsC; omega), h.B, h.L.to fun a k hak => f a k (by omega) (by omega) (by unfold lsC; omega), h.S.to fun a k hak => f a k (by omega) (by omega) (by unfold lsC; omega), h.R, h.W⟩
theorem mB.Te (h : mB I lv T LW r) : mT I lv T := h.1
theorem mB.B (h : mB I lv T LW r) : tB T := h.2.1
theorem mB.L (h : mB I lv T LW r) : mL I lv LW := h.2.2.1
theorem mB.ro (h : mB I lv T LW r) : I 568 = r := h.2.2.2.1
theorem mB.R (h : mB I lv T LW r) : rI T r := h.2.2.2.2.1
theorem mB.W (h : mB I lv T LW r) : tW T := h.2.2.2.2.2
theorem mB.fm (h : mB I lv T LW r) (f : fM I I2) : mB I2 lv T LW r := ⟨h.Te.fm f, h.B, h.L.fm f, by rw [f.row]; exact h.ro, h.R, h.W⟩
theorem ownN_le {a : Nat} : ownN T LW r a ≤ 999 := by
  unfold ownN; split
  · omega
  · exact clampN_le
theorem owesN_le {a : Nat} : owesN T LW r a ≤ 999 := by
  have := @ownN_le T LW r a
  unfold owesN; repeat' split
  all_goals omega
end
/-- what twins make of f's numbers, behind j guests -/
def wN (T : Nat → Nat → Nat) (f g : Nat → Nat) (j a : Nat) : Nat := if T 15 a ≠ 0 ∧ min a (T 15 a - 1) < j then g a else f a
theorem wN_none {T : Nat → Nat → Nat} {f g : Nat → Nat} {j a : Nat} (hW : tW T) (hj : j < 6) (ha : a < 6) (h : T 15 j = 0 ∨ T 15 j - 1 < j) : wN T f g (j + 1) a = wN T f g j a := by
  unfold wN
  by_cases h0 : T 15 a = 0
  · rw [if_neg (by omega), if_neg (by omega)]
  · obtain ⟨w1, w2⟩ := hW a ha h0
    by_cases h1 : min a (T 15 a - 1) < j
    · rw [if_pos ⟨h0, by omega⟩, if_pos ⟨h0, h1⟩]
    · rw [if_neg (c := T 15 a ≠ 0 ∧ min a (T 15 a - 1) < j) (fun z => h1 z.2), if_neg]
      rintro ⟨-, z⟩
      have hz : min a (T 15 a - 1) = j := by omega
      by_cases e1 : a = j
      · subst e1; omega
      · have e2 : T 15 a - 1 = j := by omega
        rw [e2] at w1; omega
theorem wN_self {T : Nat → Nat → Nat} {f g : Nat → Nat} {j : Nat} (h : T 15 j = 0 ∨ T 15 j - 1 < j) (h0 : T 15 j = 0 → g j = f j) : wN T f g j j = g j := by
  unfold wN
  by_cases h1 : T 15 j = 0
  · rw [if_neg (by omega), h0 h1]
  · rw [if_pos ⟨h1, by omega⟩]
theorem wN_two {T : Nat → Nat → Nat} {f g : Nat → Nat} {j : Nat} (hW : tW T) (hj : j < 6) (h : j < T 15 j - 1) : wN T f g (j + 1) j = g j ∧ wN T f g (j + 1) (T 15 j - 1) = g (T 15 j - 1) ∧ wN T f g j j = f j ∧ wN T f g j (T 15 j - 1) = f (T 15 j - 1) ∧ ∀ a, a < 6 → a ≠ j → a ≠ T 15 j - 1 → wN T f g (j + 1) a = wN T f g j a := by
  obtain ⟨w1, w2⟩ := hW j hj (by omega)
  unfold wN
  rw [w1]
  refine ⟨if_pos ⟨by omega, by omega⟩, if_pos ⟨by omega, by omega⟩, if_neg (fun z => by omega), if_neg (fun z => by omega), fun a ha h1 h2 => ?_⟩
  by_cases h0 : T 15 a = 0
  · rw [if_neg (by omega), if_neg (by omega)]
  · obtain ⟨u1, u2⟩ := hW a ha h0
    by_cases h1 : min a (T 15 a - 1) < j
    · rw [if_pos ⟨h0, by omega⟩, if_pos ⟨h0, h1⟩]
    · rw [if_neg (c := T 15 a ≠ 0 ∧ min a (T 15 a - 1) < j) (fun z => h1 z.2), if_neg]
      rintro ⟨-, z⟩
      have e2 : T 15 a - 1 = j := by omega
      rw [e2] at u1; omega
section
variable {I : Nat → Nat → Int32} {J : Nat → Nat → Int64} {tx sp lv b t : Nat} {bt tt : Value} {X : pG} {T : Nat → Nat → Nat} {LW : Nat → Option Lw} {r : Nat → Int32}
theorem Bo_eyesOf_ok {a : Nat} (h : cB I bt tt b t T LW r) (ha : a < T 2 0) (hx : ¬ r (12 + a) < 0) :
    ∃ I2, Call X k_Bo_eyesOf [.ref b, .int (nI a)] (HH I J tx sp bt tt) = some (.int (nI (shwN T LW r a)), HH I2 J tx sp bt tt) ∧ fC b I I2 := by
  have hb := h.hb
  have ht := h.ht
  have hbt := h.hbt
  have hs := h.hs
  have hg := h.B.2.2.1
  have hth0 := h.B.1
  obtain ⟨th, un, tw, h1, h2, h3, e1, e2, e3⟩ := (h.R.1 a (by omega)).some hx
  have hl := Bo_look_ok (X := X) (J := J) (tx := tx) (sp := sp) hb ht hbt h.Te h.B h.S h.d ha h1 h2 h3 (h.R.2.1 a (by omega))
  obtain ⟨sz, s1, s2, s3, s4⟩ := (h.L.fc hb ht (putN_fc (v := looksV T r a (r (6 + a)) th (nI un) (nI tw)))) 2 (by decide)
  obtain ⟨I2, g1, g2⟩ := La_tells_ok (X := X) (J := J) (tx := tx) (sp := sp) (bt := bt) (tt := tt) (v := looksV T r a (r (6 + a)) th (nI un) (nI tw)) (t_l ht (by decide)) hb s1 (fun j hj => putN_at hj) s2 s3 s4
  have g1 : Call X k_La_tells [.ref (t + 18), .ref (b + 12)] _ = _ := g1
  refine ⟨I2, ?_, putN_fc.trans (fun a k _ h => g2 a k (fun z => h (by rw [z]; exact lsC_l (t_l (k := 2) ht (by decide)))))⟩
  rw [C_Bo_eyesOf hb]
  rw [e_Bo_eyesOf_0]; (try simp only [L100]); simp (disch := omega) only [L100, gB0 hb, gS4 hs, aS4 hs, gS5 hs, aS5 hs, gB3 hb hbt, gT19 ht, gB2 hb, aB2 hb, ↓qLtP, ↓qLtN, ↓qEqP, ↓qEqN, ↓qLtGN, ↓qLtNG, ↓qLtGGP, ↓qLtGGN, ↓qEqNG, ↓qEqGN, ↓qEqGGP, ↓qEqGGN, bnd_some, pAI_s, pAV_some, pAJ_some, pAR_some, iPos, iNeg, pNar10, pNar11, cnd_t, cnd_f, ltN, eqN, ltGN, ltNG, ltGG, eqNG, eqGN, eqGG, addNG, addGN, subNG, subGN, divN, remN, remN2, nI_add, nI_mul, pk_sub, subNn, if_true, if_false, nG_, h.S.lod, h.S.dre, e1, e2, e3, hl, g1, D_clamp_ok]
  unfold shwN thN unN twR
  rw [e1, e2, e3, nI_clamp (by omega), nI_clamp (by omega), nI_clamp (by omega)]
  rfl
theorem M_showsNow_ok {a : Nat} (h : mB I lv T LW r) (ha : a < T 2 0) (hx : ¬ r (12 + a) < 0) :
    ∃ I2, Call X k_M_showsNow [.ref 527, .int (nI a)] (HH I J tx sp bt tt) = some (.int (nI (shwN T LW r a)), HH I2 J tx sp bt tt) ∧ fM I I2 := by
  have hg := h.B.2.2.1
  have hth0 := h.B.1
  have hr := h.ro
  obtain ⟨th, un, tw, h1, h2, h3, e1, e2, e3⟩ := (h.R.1 a (by omega)).some hx
  have hl := M_looks_ok (X := X) (J := J) (tx := tx) (sp := sp) (bt := bt) (tt := tt) (u := nI un) (w := nI tw) h.Te h.B ha h1 (h.R.2.1 a (by omega))
  rw [hr] at hl
  have hT2 := h.Te.fm (putN_fm (v := looksV T r a (r (6 + a)) th (nI un) (nI tw)))
  obtain ⟨I2, g1, g2⟩ := M_asks_ok (X := X) (J := J) (tx := tx) (sp := sp) (bt := bt) (tt := tt) (v := looksV T r a (r (6 + a)) th (nI un) (nI tw)) (k := 2) (pl := 50) (most := 100) hT2.lt hT2.live (h.L.fm putN_fm) (by decide) (by decide) (by decide) lawD2 (fun j hj => putN_at hj)
  refine ⟨I2, ?_, putN_fm.trans g2⟩
  rw [C_M_showsNow]
  rw [e_M_showsNow_0]; (try simp only [L2, L6, L12, L18, L24, L50, L100]); simp (disch := omega) only [L2, L6, L12, L18, L24, L50, L100, gM58, aM58, ↓qLtP, ↓qLtN, ↓qEqP, ↓qEqN, ↓qLtGN, ↓qLtNG, ↓qLtGGP, ↓qLtGGN, ↓qEqNG, ↓qEqGN, ↓qEqGGP, ↓qEqGGN, bnd_some, pAI_s, pAV_some, pAJ_some, pAR_some, iPos, iNeg, pNar10, pNar11, cnd_t, cnd_f, ltN, eqN, ltGN, ltNG, ltGG, eqNG, eqGN, eqGG, addNG, addGN, subNG, subGN, divN, remN, remN2, nI_add, nI_mul, pk_sub, subNn, if_true, if_false, nG_, hr, e1, e2, e3, hl, g1]
  unfold shwN thN unN twR
  rw [e1, e2, e3, nI_clamp (by omega), nI_clamp (by omega), nI_clamp (by omega)]
  rfl
theorem M_ownDuty_ok {a : Nat} (h : mB I lv T LW r) (ha : a < T 2 0) :
    ∃ I2, Call X k_M_ownDuty [.ref 527, .int (nI a)] (HH I J tx sp bt tt) = some (.int (nI (ownN T LW r a)), HH I2 J tx sp bt tt) ∧ fM I I2 := by
  have hg := h.B.2.2.1
  have hth0 := h.B.1
  have hr := h.ro
  rw [C_M_ownDuty]
  unfold ownN thN unN twR
  by_cases hx : r (12 + a) < 0
  · refine ⟨I, ?_, fM.rfl'⟩
    rw [if_pos hx]
    have hx' : r (12 + a) < nI 0 := hx
    rw [e_M_ownDuty_0]; (try simp only [L0, L6, L12, L18, L24]); simp (disch := omega) only [L0, L6, L12, L18, L24, gM58, aM58, ↓qLtP, ↓qLtN, ↓qEqP, ↓qEqN, ↓qLtGN, ↓qLtNG, ↓qLtGGP, ↓qLtGGN, ↓qEqNG, ↓qEqGN, ↓qEqGGP, ↓qEqGGN, bnd_some, pAI_s, pAV_some, pAJ_some, pAR_some, iPos, iNeg, pNar10, pNar11, cnd_t, cnd_f, ltN, eqN, ltGN, ltNG, ltGG, eqNG, eqGN, eqGG, addNG, addGN, subNG, subGN, divN, remN, remN2, nI_add, nI_mul, pk_sub, subNn, if_true, if_false, nG_, hr, hx']
  · obtain ⟨th, un, tw, h1, h2, h3, e1, e2, e3⟩ := (h.R.1 a (by omega)).some hx
    obtain ⟨I2, g1, g2⟩ := M_dutyOf_ok (X := X) (J := J) (tx := tx) (sp := sp) (bt := bt) (tt := tt) (tw := tw) h.Te h.B h.L hr ha h1 h2 (h.R.2.1 a (by omega))
    refine ⟨I2, ?_, g2⟩
    rw [if_neg hx, e1, e2, e3, nI_clamp (by omega), nI_clamp (by omega), nI_clamp (by omega)]
    rw [e_M_ownDuty_0]; (try simp only [L0, L6, L12, L18, L24]); simp (disch := omega) only [L0, L6, L12, L18, L24, gM58, aM58, ↓qLtP, ↓qLtN, ↓qEqP, ↓qEqN, ↓qLtGN, ↓qLtNG, ↓qLtGGP, ↓qLtGGN, ↓qEqNG, ↓qEqGN, ↓qEqGGP, ↓qEqGGN, bnd_some, pAI_s, pAV_some, pAJ_some, pAR_some, iPos, iNeg, pNar10, pNar11, cnd_t, cnd_f, ltN, eqN, ltGN, ltNG, ltGG, eqNG, eqGN, eqGG, addNG, addGN, subNG, subGN, divN, remN, remN2, nI_add, nI_mul, pk_sub, subNn, if_true, if_false, nG_, hr, e1, e2, e3, g1]
theorem tB.tw (hB : tB T) {a : Nat} (ha : a < 6) : T 15 a ≤ T 2 0 := (hB.2.2.2.2.2.2.2.2.2 a ha).2.2.2.1
theorem M_owesNow_ok {a : Nat} (h : mB I lv T LW r) (ha : a < T 2 0) :
    ∃ I2, Call X k_M_owesNow [.ref 527, .int (nI a)] (HH I J tx sp bt tt) = some (.int (nI (owesN T LW r a)), HH I2 J tx sp bt tt) ∧ fM I I2 := by
  have hg := h.B.2.2.1
  have hlt := h.Te.lt
  obtain ⟨I2, g1, g2⟩ := M_ownDuty_ok (X := X) (J := J) (tx := tx) (sp := sp) (bt := bt) (tt := tt) h ha
  have h2 := h.fm g2
  have hT2 := h2.Te
  have hr := h2.ro
  have et := hT2.twi (k := a) (by omega)
  have htw := h.B.tw (a := a) (by omega)
  rw [C_M_owesNow]
  unfold owesN
  by_cases h0 : T 15 a = 0
  · refine ⟨I2, ?_, g2⟩
    rw [if_pos (Or.inl h0)]
    rw [h0, show nI 0 - (1 : Int32) = nG 1 from Int32.toBitVec_inj.mp rfl] at et
    rw [e_M_owesNow_0]; (try simp only [L0, L6, L12]); simp (disch := omega) only [L0, L6, L12, gM35, aM35, gM18, gM58, aM58, ↓qLtP, ↓qLtN, ↓qEqP, ↓qEqN, ↓qLtGN, ↓qLtNG, ↓qLtGGP, ↓qLtGGN, ↓qEqNG, ↓qEqGN, ↓qEqGGP, ↓qEqGGN, bnd_some, pAI_s, pAV_some, pAJ_some, pAR_some, iPos, iNeg, pNar10, pNar11, cnd_t, cnd_f, ltN, eqN, ltGN, ltNG, ltGG, eqNG, eqGN, eqGG, addNG, addGN, subNG, subGN, divN, remN, remN2, nI_add, nI_mul, pk_sub, subNn, if_true, if_false, nG_, g1, hT2.live, et]
  · have e15 : T 15 a = (T 15 a - 1) + 1 := by omega
    rw [e15, nI_pred] at et
    generalize T 15 a - 1 = w at *
    by_cases h1 : r (12 + a) < 0
    · refine ⟨I2, ?_, g2⟩
      rw [if_pos (Or.inr (Or.inl h1))]
      have h1' : r (12 + a) < nI 0 := h1
      rw [e_M_owesNow_0]; (try simp only [L0, L6, L12]); simp (disch := omega) only [L0, L6, L12, gM35, aM35, gM18, gM58, aM58, ↓qLtP, ↓qLtN, ↓qEqP, ↓qEqN, ↓qLtGN, ↓qLtNG, ↓qLtGGP, ↓qLtGGN, ↓qEqNG, ↓qEqGN, ↓qEqGGP, ↓qEqGGN, bnd_some, pAI_s, pAV_some, pAJ_some, pAR_some, iPos, iNeg, pNar10, pNar11, cnd_t, cnd_f, ltN, eqN, ltGN, ltNG, ltGG, eqNG, eqGN, eqGG, addNG, addGN, subNG, subGN, divN, remN, remN2, nI_add, nI_mul, pk_sub, subNn, if_true, if_false, nG_, g1, hT2.live, et, hr, h1']
    · have h1' : ¬ r (12 + a) < nI 0 := h1
      by_cases h3 : r (12 + w) < 0
      · refine ⟨I2, ?_, g2⟩
        rw [if_pos (Or.inr (Or.inr h3))]
        have h3' : r (12 + w) < nI 0 := h3
        rw [e_M_owesNow_0]; (try simp only [L0, L6, L12]); simp (disch := omega) only [L0, L6, L12, gM35, aM35, gM18, gM58, aM58, ↓qLtP, ↓qLtN, ↓qEqP, ↓qEqN, ↓qLtGN, ↓qLtNG, ↓qLtGGP, ↓qLtGGN, ↓qEqNG, ↓qEqGN, ↓qEqGGP, ↓qEqGGN, bnd_some, pAI_s, pAV_some, pAJ_some, pAR_some, iPos, iNeg, pNar10, pNar11, cnd_t, cnd_f, ltN, eqN, ltGN, ltNG, ltGG, eqNG, eqGN, eqGG, addNG, addGN, subNG, subGN, divN, remN, remN2, nI_add, nI_mul, pk_sub, subNn, if_true, if_false, nG_, g1, hT2.live, et, hr, h1', h3']
      · have h3' : ¬ r (12 + w) < nI 0 := h3
        rw [if_neg (by rintro (z | z | z); exact h0 z; exact h1 z; exact h3 z)]
        obtain ⟨I3, g3, g4⟩ := M_ownDuty_ok (X := X) (J := J) (tx := tx) (sp := sp) (bt := bt) (tt := tt) (a := w) h2 (by omega)
        refine ⟨I3, ?_, g2.trans g4⟩
        have q1 := @ownN_le T LW r a
        have q2 := @ownN_le T LW r w
        by_cases h5 : ownN T LW r a < ownN T LW r w
        · rw [e_M_owesNow_0]; (try simp only [L0, L6, L12]); simp (disch := omega) only [L0, L6, L12, gM35, aM35, gM18, gM58, aM58, ↓qLtP, ↓qLtN, ↓qEqP, ↓qEqN, ↓qLtGN, ↓qLtNG, ↓qLtGGP, ↓qLtGGN, ↓qEqNG, ↓qEqGN, ↓qEqGGP, ↓qEqGGN, bnd_some, pAI_s, pAV_some, pAJ_some, pAR_some, iPos, iNeg, pNar10, pNar11, cnd_t, cnd_f, ltN, eqN, ltGN, ltNG, ltGG, eqNG, eqGN, eqGG, addNG, addGN, subNG, subGN, divN, remN, remN2, nI_add, nI_mul, pk_sub, subNn, if_true, if_false, nG_, g1, hT2.live, et, hr, h1', h3', g3]
        · by_cases h6 : ownN T LW r w = ownN T LW r a
          · by_cases h7 : w < a
            · rw [e_M_owesNow_0]; (try simp only [L0, L6, L12]); simp (disch := omega) only [L0, L6, L12, gM35, aM35, gM18, gM58, aM58, ↓qLtP, ↓qLtN, ↓qEqP, ↓qEqN, ↓qLtGN, ↓qLtNG, ↓qLtGGP, ↓qLtGGN, ↓qEqNG, ↓qEqGN, ↓qEqGGP, ↓qEqGGN, bnd_some, pAI_s, pAV_some, pAJ_some, pAR_some, iPos, iNeg, pNar10, pNar11, cnd_t, cnd_f, ltN, eqN, ltGN, ltNG, ltGG, eqNG, eqGN, eqGG, addNG, addGN, subNG, subGN, divN, remN, remN2, nI_add, nI_mul, pk_sub, subNn, if_true, if_false, nG_, g1, hT2.live, et, hr, h1', h3', g3]
            · rw [e_M_owesNow_0]; (try simp only [L0, L6, L12]); simp (disch := omega) only [L0, L6, L12, gM35, aM35, gM18, gM58, aM58, ↓qLtP, ↓qLtN, ↓qEqP, ↓qEqN, ↓qLtGN, ↓qLtNG, ↓qLtGGP, ↓qLtGGN, ↓qEqNG, ↓qEqGN, ↓qEqGGP, ↓qEqGGN, bnd_some, pAI_s, pAV_some, pAJ_some, pAR_some, iPos, iNeg, pNar10, pNar11, cnd_t, cnd_f, ltN, eqN, ltGN, ltNG, ltGG, eqNG, eqGN, eqGG, addNG, addGN, subNG, subGN, divN, remN, remN2, nI_add, nI_mul, pk_sub, subNn, if_true, if_false, nG_, g1, hT2.live, et, hr, h1', h3', g3]
          · rw [e_M_owesNow_0]; (try simp only [L0, L6, L12]); simp (disch := omega) only [L0, L6, L12, gM35, aM35, gM18, gM58, aM58, ↓qLtP, ↓qLtN, ↓qEqP, ↓qEqN, ↓qLtGN, ↓qLtNG, ↓qLtGGP, ↓qLtGGN, ↓qEqNG, ↓qEqGN, ↓qEqGGP, ↓qEqGGN, bnd_some, pAI_s, pAV_some, pAJ_some, pAR_some, iPos, iNeg, pNar10, pNar11, cnd_t, cnd_f, ltN, eqN, ltGN, ltNG, ltGG, eqNG, eqGN, eqGG, addNG, addGN, subNG, subGN, divN, remN, remN2, nI_add, nI_mul, pk_sub, subNn, if_true, if_false, nG_, g1, hT2.live, et, hr, h1', h3', g3]
end
