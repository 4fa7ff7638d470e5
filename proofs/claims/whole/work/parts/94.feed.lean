/-! PROMISE 2: FEED -/
def putB (w : Int32) (k : Nat) : Nat := w.toBitVec.toNat / 2 ^ k % 256
theorem wbC24 (w : Int32) : (Int32.toUInt32 w >>> (Int32.toUInt32 (nI 24) &&& Int32.toUInt32 (nI 31))).toInt32 &&& nI 255 = nI (putB w 24) := by
  rw [pk_and _ 8 rfl]
  have h := pk_ushr w (nI 24) 24 (by decide)
  unfold putB; exact congrArg nI (congrArg (· % 256) h)
theorem wbC16 (w : Int32) : (Int32.toUInt32 w >>> (Int32.toUInt32 (nI 16) &&& Int32.toUInt32 (nI 31))).toInt32 &&& nI 255 = nI (putB w 16) := by
  rw [pk_and _ 8 rfl]
  have h := pk_ushr w (nI 16) 16 (by decide)
  unfold putB; exact congrArg nI (congrArg (· % 256) h)
theorem wbC8 (w : Int32) : (Int32.toUInt32 w >>> (Int32.toUInt32 (nI 8) &&& Int32.toUInt32 (nI 31))).toInt32 &&& nI 255 = nI (putB w 8) := by
  rw [pk_and _ 8 rfl]
  have h := pk_ushr w (nI 8) 8 (by decide)
  unfold putB; exact congrArg nI (congrArg (· % 256) h)
theorem wbC0 (w : Int32) : (Int32.toUInt32 w >>> (Int32.toUInt32 (nI 0) &&& Int32.toUInt32 (nI 31))).toInt32 &&& nI 255 = nI (putB w 0) := by
  rw [pk_and _ 8 rfl]
  have h := pk_ushr w (nI 0) 0 (by decide)
  unfold putB; exact congrArg nI (congrArg (· % 256) h)
theorem bv_toInt (w : Int32) : w.toInt = (w.toBitVec.toNat : Int) ∨ w.toInt = (w.toBitVec.toNat : Int) - 4294967296 := by
  have := BitVec.toInt_eq_toNat_cond w.toBitVec
  have e : w.toInt = w.toBitVec.toInt := rfl
  rw [e, this]
  split
  · exact Or.inl rfl
  · exact Or.inr rfl
theorem wbM (w s : Int32) (k : Nat) (hs : (s.toBitVec.smod 32).toNat = k) (hk : k = 0 ∨ k = 8 ∨ k = 16 ∨ k = 24) : (w >>> s).toInt8 = (nI (putB w k)).toInt8 := by
  apply Int8.toInt_inj.mp
  rw [Int32.toInt_toInt8, Int32.toInt_toInt8, pk_shr w s k hs]
  have hlt := w.toBitVec.isLt
  have hp : putB w k < 256 := Nat.mod_lt _ (by decide)
  rw [nI_toInt (by omega), ← Int.emod_bmod (w.toInt >>> k), ← Int.emod_bmod ((putB w k : Nat) : Int), Int.shiftRight_eq_div_pow]
  congr 1
  unfold putB
  have hw := bv_toInt w
  generalize w.toInt = a at *
  generalize w.toBitVec.toNat = b at *
  rcases hk with rfl | rfl | rfl | rfl <;> rcases hw with rfl | rfl <;> omega
def put4 (bf : Nat → Nat) (bn : Nat) (w : Int32) : Nat → Nat := up1 (up1 (up1 (up1 bf bn (putB w 24)) (bn + 1) (putB w 16)) (bn + 2) (putB w 8)) (bn + 3) (putB w 0)
section
variable {I : Nat → Nat → Int32} {J : Nat → Nat → Int64} {tx sp lv : Nat} {bt tt : Value} {X : pG} {T : Nat → Nat → Nat} {LW : Nat → Option Lw} {r : Nat → Int32} {hn : Nat} {H : Nat → Nat → Int32} {hd : Nat → Option (Nat → Int32)} {tn : Nat} {tf : Nat → Nat} {bn : Nat} {bf : Nat → Nat} {pl : Int32}
theorem RC.byte {x : Nat} (h : RC I J tx sp bt T LW r hn H hd tn tf bn bf pl) : RC (up2 (up2 I 1 bn (nI x)) 0 1 (nI (bn + 1))) J tx sp bt T LW r hn H hd tn tf (bn + 1) (up1 bf bn x) pl := by
  obtain ⟨h1, ⟨h2, h3, h4, h5⟩, h6, h7, ⟨h8, h9⟩, ⟨h10, h11⟩, h12, h13⟩ := h
  have htx : tx = 16 ∨ tx = 37 := by simpa using h1.1
  have f : ∀ b k, b ≠ 1 → ¬ (b = 0 ∧ k = 1) → up2 (up2 I 1 bn (nI x)) 0 1 (nI (bn + 1)) b k = I b k := fun b k h1 h2 => by unfold up2; rw [if_neg h2, if_neg (fun z => h1 z.1)]
  refine ⟨h1, ⟨h2.to fun a k ha => f _ _ (by omega) (by omega), h3.to fun a k ha => f _ _ (by omega) (by omega), h4.to fun a k ha => f _ _ (by omega) (by omega), by rw [f _ _ (by omega) (by omega)]; exact h5⟩, h6.to fun a k ha => f _ _ (by omega) (by omega), fun s hs => ⟨by rw [f _ _ (by omega) (by omega)]; exact (h7 s hs).1, fun q hq => ((h7 s hs).2 q hq).to fun a k ha => f _ _ (by omega) (by omega)⟩, ⟨by rw [f _ _ (by omega) (by omega)]; exact h8, fun k hk => by rw [f _ _ (by omega) (by omega)]; exact h9 k hk⟩, ⟨up2_s, fun k hk => ?_⟩, by rw [f _ _ (by omega) (by omega)]; exact h12, h13⟩
  rw [up2_o (by omega)]
  by_cases e : k = bn
  · rw [e, up2_s, up1_hit rfl]
  · rw [up2_k e, up1_mk e]; exact h11 k (by omega)
theorem RM.byte {x : Nat} (h : RM I J lv T LW r hn H hd tn tf bn bf pl) : RM (up2 (up2 I 528 bn (sbI x)) 527 2 (nI (bn + 1))) J lv T LW r hn H hd tn tf (bn + 1) (up1 bf bn x) pl := by
  obtain ⟨⟨h1, h2⟩, h3, ⟨h4, h5⟩, h6, ⟨h7, h8⟩, ⟨h9, h10⟩, h11, h12⟩ := h
  have f : ∀ b k, b ≠ 528 → ¬ (b = 527 ∧ k = 2) → up2 (up2 I 528 bn (sbI x)) 527 2 (nI (bn + 1)) b k = I b k := fun b k h1 h2 => by unfold up2; rw [if_neg h2, if_neg (fun z => h1 z.1)]
  refine ⟨⟨h1.to fun a k ha => f _ _ (by omega) (by omega), h2.to fun a k ha => f _ _ (by omega) (by omega)⟩, fun k hk => by rw [f _ _ (by omega) (by omega)]; exact h3 k hk, ⟨by rw [f _ _ (by omega) (by omega)]; exact h4, fun u k hu hk => by rw [f _ _ (by omega) (by omega)]; exact h5 u k hu hk⟩, fun s hs => ⟨by rw [f _ _ (by omega) (by omega)]; exact (h6 s hs).1, fun q hq k hk => by rw [f _ _ (by omega) (by omega)]; exact (h6 s hs).2 q hq k hk⟩, ⟨by rw [f _ _ (by omega) (by omega)]; exact h7, fun k hk => by rw [f _ _ (by omega) (by omega)]; exact h8 k hk⟩, ⟨up2_s, fun k hk => ?_⟩, by rw [f _ _ (by omega) (by omega)]; exact h11, h12⟩
  rw [up2_o (by omega)]
  by_cases e : k = bn
  · rw [e, up2_s, up1_hit rfl]
  · rw [up2_k e, up1_mk e]; exact h10 k (by omega)
theorem add0G {k : Nat} : nI 0 + nG k = nG k := by
  unfold nG; rw [← Int32.sub_eq_add_neg, show nI 0 = (0 : Int32) from rfl, Int32.zero_sub]
theorem D_put_1 {w x2 : Int32} {x : Nat} (h : RC I J tx sp bt T LW r hn H hd tn tf bn bf pl) (hb : bn < 2000) (hx2 : ¬ x2 < nI 0) (hv : (Int32.toUInt32 w >>> (Int32.toUInt32 x2 &&& Int32.toUInt32 (nI 31))).toInt32 &&& nI 255 = nI x) : Sm X k_D_putWord 3 [.ref 0, .int w, .int x2] [] (HH I J tx sp bt tt) = Sm X k_D_putWord 3 [.ref 0, .int w, .int (x2 + nG 8)] [] (HH (up2 (up2 I 1 bn (nI x)) 0 1 (nI (bn + 1))) J tx sp bt tt) := by
  rw [e_D_putWord_3]; (try simp only [L0, L1, L8, L31, L255, L2000, nG_]); simp (disch := omega) only [L0, L1, L8, L31, L255, L2000, nG_, gD1, gD0, sD0, pD1, ↓qLtP, ↓qLtN, ↓qEqP, ↓qEqN, ↓qLtGN, ↓qLtNG, ↓qLtGGP, ↓qLtGGN, ↓qEqNG, ↓qEqGN, ↓qEqGGP, ↓qEqGGN, bnd_some, pAI_s, pAV_some, pAJ_some, pAR_some, iPos, iNeg, pNar10, pNar11, cnd_t, cnd_f, ltN, eqN, ltGN, ltNG, ltGG, eqNG, eqGN, eqGG, addNG, addGN, subNG, subGN, divN, remN, remN2, nI_add, nI_mul, pk_sub, subNn, if_true, if_false, nG_, hx2, h.bn_, hv, up2_hit, up2_mo, up2_mk, up2_row, up2_rne, up1_hit, up1_mk]
theorem M_put_1 {w x2 : Int32} {x : Nat} (h : RM I J lv T LW r hn H hd tn tf bn bf pl) (hb : bn < 2000) (hx2 : ¬ x2 < nI 0) (hv : (w >>> (x2 &&& nI 31)).toInt8 = (nI x).toInt8) : Sm X k_M_put 3 [.ref 527, .int w, .int x2] [] (HH I J tx sp bt tt) = Sm X k_M_put 3 [.ref 527, .int w, .int (x2 + nG 8)] [] (HH (up2 (up2 I 528 bn (sbI x)) 527 2 (nI (bn + 1))) J tx sp bt tt) := by
  have e : (Int32.toInt8 ((nI x).toInt8.toInt32)).toInt32 = sbI x := by unfold sbI; rw [Int8.toInt8_toInt32]
  rw [e_M_put_3]; (try simp only [L0, L1, L8, L31, nG_]); simp (disch := omega) only [L0, L1, L8, L31, nG_, gM1, sM1, gM2, pM2, ↓qLtP, ↓qLtN, ↓qEqP, ↓qEqN, ↓qLtGN, ↓qLtNG, ↓qLtGGP, ↓qLtGGN, ↓qEqNG, ↓qEqGN, ↓qEqGGP, ↓qEqGGN, bnd_some, pAI_s, pAV_some, pAJ_some, pAR_some, iPos, iNeg, pNar10, pNar11, cnd_t, cnd_f, ltN, eqN, ltGN, ltNG, ltGG, eqNG, eqGN, eqGG, addNG, addGN, subNG, subGN, divN, remN, remN2, nI_add, nI_mul, pk_sub, subNn, if_true, if_false, nG_, hx2, h.bn_, hv, e, up2_hit, up2_mo, up2_mk, up2_row, up2_rne, up1_hit, up1_mk]
theorem D_putWord_ok {w : Int32} (h : RC I J tx sp bt T LW r hn H hd tn tf bn bf pl) (hb : bn + 4 ≤ 2000) : ∃ I2, Call X k_D_putWord [.ref 0, .int w] (HH I J tx sp bt tt) = some (.retAddr 0, HH I2 J tx sp bt tt) ∧ RC I2 J tx sp bt T LW r hn H hd tn tf (bn + 4) (put4 bf bn w) pl ∧ ∀ a k, 527 ≤ a → I2 a k = I a k := by
  have q1 : nI 24 + nG 8 = nI 16 := addNG (by decide)
  have q2 : nI 16 + nG 8 = nI 8 := addNG (by decide)
  have q3 : nI 8 + nG 8 = nI 0 := addNG (by decide)
  have n1 : ∀ n, n < 100 → ¬ nI n < nI 0 := fun n hn => nI_nlt (Nat.zero_le _) (by omega)
  have e1 := D_put_1 (X := X) (tt := tt) (w := w) h (by omega) (n1 24 (by decide)) (wbC24 w)
  have h1 := h.byte (x := putB w 24)
  have e2 := D_put_1 (X := X) (tt := tt) (w := w) h1 (by omega) (n1 16 (by decide)) (wbC16 w)
  have h2 := h1.byte (x := putB w 16)
  have e3 := D_put_1 (X := X) (tt := tt) (w := w) h2 (by omega) (n1 8 (by decide)) (wbC8 w)
  have h3 := h2.byte (x := putB w 8)
  have e4 := D_put_1 (X := X) (tt := tt) (w := w) h3 (by omega) (n1 0 (by decide)) (wbC0 w)
  have h4 := h3.byte (x := putB w 0)
  refine ⟨_, ?_, h4, fun a k ha => by rw [up2_o (by omega), up2_o (by omega), up2_o (by omega), up2_o (by omega), up2_o (by omega), up2_o (by omega), up2_o (by omega), up2_o (by omega)]⟩
  rw [C_D_putWord, e_D_putWord_0, L24, e1, q1, e2, q2, e3, q3, e4, add0G]
  rw [e_D_putWord_3]; (try simp only [L0, L1, L8, L31, L255, L2000, nG_]); simp (disch := omega) only [L0, L1, L8, L31, L255, L2000, nG_, gD1, gD0, sD0, pD1, ↓qLtP, ↓qLtN, ↓qEqP, ↓qEqN, ↓qLtGN, ↓qLtNG, ↓qLtGGP, ↓qLtGGN, ↓qEqNG, ↓qEqGN, ↓qEqGGP, ↓qEqGGN, bnd_some, pAI_s, pAV_some, pAJ_some, pAR_some, iPos, iNeg, pNar10, pNar11, cnd_t, cnd_f, ltN, eqN, ltGN, ltNG, ltGG, eqNG, eqGN, eqGG, addNG, addGN, subNG, subGN, divN, remN, remN2, nI_add, nI_mul, pk_sub, subNn, if_true, if_false, nG_]
theorem M_put_ok {w : Int32} (h : RM I J lv T LW r hn H hd tn tf bn bf pl) (hb : bn + 4 ≤ 2000) : ∃ I2, Call X k_M_put [.ref 527, .int w] (HH I J tx sp bt tt) = some (.retAddr 0, HH I2 J tx sp bt tt) ∧ RM I2 J lv T LW r hn H hd tn tf (bn + 4) (put4 bf bn w) pl ∧ ∀ a k, a < 527 → I2 a k = I a k := by
  have q1 : nI 24 + nG 8 = nI 16 := addNG (by decide)
  have q2 : nI 16 + nG 8 = nI 8 := addNG (by decide)
  have q3 : nI 8 + nG 8 = nI 0 := addNG (by decide)
  have n1 : ∀ n, n < 100 → ¬ nI n < nI 0 := fun n hn => nI_nlt (Nat.zero_le _) (by omega)
  have e1 := M_put_1 (X := X) (tx := tx) (sp := sp) (bt := bt) (tt := tt) (w := w) h (by omega) (n1 24 (by decide)) (wbM w _ 24 (smod_N (by decide)) (by decide))
  have h1 := h.byte (x := putB w 24)
  have e2 := M_put_1 (X := X) (tx := tx) (sp := sp) (bt := bt) (tt := tt) (w := w) h1 (by omega) (n1 16 (by decide)) (wbM w _ 16 (smod_N (by decide)) (by decide))
  have h2 := h1.byte (x := putB w 16)
  have e3 := M_put_1 (X := X) (tx := tx) (sp := sp) (bt := bt) (tt := tt) (w := w) h2 (by omega) (n1 8 (by decide)) (wbM w _ 8 (smod_N (by decide)) (by decide))
  have h3 := h2.byte (x := putB w 8)
  have e4 := M_put_1 (X := X) (tx := tx) (sp := sp) (bt := bt) (tt := tt) (w := w) h3 (by omega) (n1 0 (by decide)) (wbM w _ 0 (smod_N (by decide)) (by decide))
  have h4 := h3.byte (x := putB w 0)
  refine ⟨_, ?_, h4, fun a k ha => by rw [up2_o (by omega), up2_o (by omega), up2_o (by omega), up2_o (by omega), up2_o (by omega), up2_o (by omega), up2_o (by omega), up2_o (by omega)]⟩
  rw [C_M_put, e_M_put_0, L24, e1, q1, e2, q2, e3, q3, e4, add0G]
  rw [e_M_put_3]; (try simp only [L0, L1, L8, L31, nG_]); simp (disch := omega) only [L0, L1, L8, L31, nG_, gM1, sM1, gM2, pM2, ↓qLtP, ↓qLtN, ↓qEqP, ↓qEqN, ↓qLtGN, ↓qLtNG, ↓qLtGGP, ↓qLtGGN, ↓qEqNG, ↓qEqGN, ↓qEqGGP, ↓qEqGGN, bnd_some, pAI_s, pAV_some, pAJ_some, pAR_some, iPos, iNeg, pNar10, pNar11, cnd_t, cnd_f, ltN, eqN, ltGN, ltNG, ltGG, eqNG, eqGN, eqGG, addNG, addGN, subNG, subGN, divN, remN, remN2, nI_add, nI_mul, pk_sub, subNn, if_true, if_false, nG_]
theorem put4_lt {w : Int32} (h : ∀ k, k < bn → bf k < 256) : ∀ k, k < bn + 4 → put4 bf bn w k < 256 := by
  intro k hk
  have hp : ∀ s, putB w s < 256 := fun s => Nat.mod_lt _ (by decide)
  unfold put4 up1
  split
  · exact hp _
  · split
    · exact hp _
    · split
      · exact hp _
      · split
        · exact hp _
        · exact h k (by omega)
end
section
variable {X : pG} {T : Nat → Nat → Nat} {LW : Nat → Option Lw} {r : Nat → Int32} {hn : Nat} {H : Nat → Nat → Int32} {hd : Nat → Option (Nat → Int32)} {tn : Nat} {tf : Nat → Nat} {bn : Nat} {bf : Nat → Nat} {pl : Int32}
theorem P_feed {a b c d e : Int32} (hw : wI T r hn H hd tn tf bn bf) : ∃ bn' bf', PR X k_D_feed k_M_feed [.int a, .int b, .int c, .int d, .int e] T LW r hn H hd tn tf bn bf pl T LW r hn H hd tn tf bn' bf' pl ∧ bn' ≤ 2000 ∧ ∀ k, k < bn' → bf' k < 256 := by
  have hbn := hw.2.2.2.2.1
  by_cases hf : bn ≤ 1980
  · have hl0 := hw.2.2.2.2.2
    have hl1 := put4_lt (w := a) hl0
    have hl2 := put4_lt (w := b) hl1
    have hl3 := put4_lt (w := c) hl2
    have hl4 := put4_lt (w := d) hl3
    have hl5 := put4_lt (w := e) hl4
    refine ⟨bn + 4 + 4 + 4 + 4 + 4, _, ⟨nI (bn + 4 + 4 + 4 + 4 + 4), fun I J tx sp bt tt h => ?_, fun I J tx sp bt tt lv h => ?_⟩, by omega, hl5⟩
    · obtain ⟨I1, g1, h1, f1⟩ := D_putWord_ok (X := X) (tt := tt) (w := a) h (by omega)
      obtain ⟨I2, g2, h2, f2⟩ := D_putWord_ok (X := X) (tt := tt) (w := b) h1 (by omega)
      obtain ⟨I3, g3, h3, f3⟩ := D_putWord_ok (X := X) (tt := tt) (w := c) h2 (by omega)
      obtain ⟨I4, g4, h4, f4⟩ := D_putWord_ok (X := X) (tt := tt) (w := d) h3 (by omega)
      obtain ⟨I5, g5, h5, f5⟩ := D_putWord_ok (X := X) (tt := tt) (w := e) h4 (by omega)
      refine ⟨I5, J, tx, sp, bt, tt, ?_, h5, fun a k ha => ⟨by rw [f5 a k ha, f4 a k ha, f3 a k ha, f2 a k ha, f1 a k ha], rfl⟩⟩
      rw [C_D_feed]
      rw [e_D_feed_0]; (try simp only [L1, L1980, nG_]); simp (disch := omega) only [L1, L1980, nG_, gD1, ↓qLtP, ↓qLtN, ↓qEqP, ↓qEqN, ↓qLtGN, ↓qLtNG, ↓qLtGGP, ↓qLtGGN, ↓qEqNG, ↓qEqGN, ↓qEqGGP, ↓qEqGGN, bnd_some, pAI_s, pAV_some, pAJ_some, pAR_some, iPos, iNeg, pNar10, pNar11, cnd_t, cnd_f, ltN, eqN, ltGN, ltNG, ltGG, eqNG, eqGN, eqGG, addNG, addGN, subNG, subGN, divN, remN, remN2, nI_add, nI_mul, pk_sub, subNn, if_true, if_false, nG_, h.bn_, g1, g2, g3, g4, g5, h5.bn_]
    · obtain ⟨I1, g1, h1, f1⟩ := M_put_ok (X := X) (tx := tx) (sp := sp) (bt := bt) (tt := tt) (w := a) h (by omega)
      obtain ⟨I2, g2, h2, f2⟩ := M_put_ok (X := X) (tx := tx) (sp := sp) (bt := bt) (tt := tt) (w := b) h1 (by omega)
      obtain ⟨I3, g3, h3, f3⟩ := M_put_ok (X := X) (tx := tx) (sp := sp) (bt := bt) (tt := tt) (w := c) h2 (by omega)
      obtain ⟨I4, g4, h4, f4⟩ := M_put_ok (X := X) (tx := tx) (sp := sp) (bt := bt) (tt := tt) (w := d) h3 (by omega)
      obtain ⟨I5, g5, h5, f5⟩ := M_put_ok (X := X) (tx := tx) (sp := sp) (bt := bt) (tt := tt) (w := e) h4 (by omega)
      refine ⟨I5, J, lv, ?_, h5, fun a k ha => ⟨by rw [f5 a k ha, f4 a k ha, f3 a k ha, f2 a k ha, f1 a k ha], rfl⟩⟩
      rw [C_M_feed]
      rw [e_M_feed_0]; (try simp only [L1, L20, L2000, nG_]); simp (disch := omega) only [L1, L20, L2000, nG_, gM2, ↓qLtP, ↓qLtN, ↓qEqP, ↓qEqN, ↓qLtGN, ↓qLtNG, ↓qLtGGP, ↓qLtGGN, ↓qEqNG, ↓qEqGN, ↓qEqGGP, ↓qEqGGN, bnd_some, pAI_s, pAV_some, pAJ_some, pAR_some, iPos, iNeg, pNar10, pNar11, cnd_t, cnd_f, ltN, eqN, ltGN, ltNG, ltGG, eqNG, eqGN, eqGG, addNG, addGN, subNG, subGN, divN, remN, remN2, nI_add, nI_mul, pk_sub, subNn, if_true, if_false, nG_, h.bn_, g1, g2, g3, g4, g5, h5.bn_]
  · refine ⟨bn, bf, ⟨nG 1, fun I J tx sp bt tt h => CC_id h ?_, fun I J tx sp bt tt lv h => CM_id h ?_⟩, hbn, hw.2.2.2.2.2⟩
    · rw [C_D_feed]
      rw [e_D_feed_0]; (try simp only [L1, L1980, nG_]); simp (disch := omega) only [L1, L1980, nG_, gD1, ↓qLtP, ↓qLtN, ↓qEqP, ↓qEqN, ↓qLtGN, ↓qLtNG, ↓qLtGGP, ↓qLtGGN, ↓qEqNG, ↓qEqGN, ↓qEqGGP, ↓qEqGGN, bnd_some, pAI_s, pAV_some, pAJ_some, pAR_some, iPos, iNeg, pNar10, pNar11, cnd_t, cnd_f, ltN, eqN, ltGN, ltNG, ltGG, eqNG, eqGN, eqGG, addNG, addGN, subNG, subGN, divN, remN, remN2, nI_add, nI_mul, pk_sub, subNn, if_true, if_false, nG_, h.bn_]
    · rw [C_M_feed]
      rw [e_M_feed_0]; (try simp only [L1, L20, L2000, nG_]); simp (disch := omega) only [L1, L20, L2000, nG_, gM2, ↓qLtP, ↓qLtN, ↓qEqP, ↓qEqN, ↓qLtGN, ↓qLtNG, ↓qLtGGP, ↓qLtGGN, ↓qEqNG, ↓qEqGN, ↓qEqGGP, ↓qEqGGN, bnd_some, pAI_s, pAV_some, pAJ_some, pAR_some, iPos, iNeg, pNar10, pNar11, cnd_t, cnd_f, ltN, eqN, ltGN, ltNG, ltGG, eqNG, eqGN, eqGG, addNG, addGN, subNG, subGN, divN, remN, remN2, nI_add, nI_mul, pk_sub, subNn, if_true, if_false, nG_, h.bn_]
end
