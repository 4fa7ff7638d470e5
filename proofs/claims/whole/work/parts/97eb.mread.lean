/-! PROMISE 4: READ, THE SECOND SIDE -/
section
variable {tx sp sd : Nat} {bt tt : Value} {X : pG} {b : Nat → Nat} {n c : Nat}
theorem rd_112 {w1 : Value} (hn : n ≤ 2000) (h8 : ∀ j, j < n → b j < 256) (hV : ∀ p, tk b n p = 2 → tv b n p < 10000) (hsd : sd < 2) : ∀ m p g (I : Nat → Nat → Int32) (J : Nat → Nat → Int64), p ≤ 400 → 401 ≤ p + m → gA g → MG I J b n c sd p g →
    ∃ I2 J2, Sm X k_M_read 112 [.ref 527, w1] [] (HH I J tx sp bt tt) = Sm X k_M_read 134 [.ref 527, w1] [] (HH I2 J2 tx sp bt tt) ∧ psM I2 b n c (rnS (tk b n) (tv b n) (tnm b n) m p g).1 ∧ ((rnS (tk b n) (tv b n) (tnm b n) m p g).1.1 = 0 → MG I2 J2 b n c sd (rnS (tk b n) (tv b n) (tnm b n) m p g).1.2 (rnS (tk b n) (tv b n) (tnm b n) m p g).2) ∧ fTw sd I I2 ∧ ∀ a k, a ≠ 535 → J2 a k = J a k
  | 0, p, g, I, J, hp, hm, _, _ => by omega
  | m + 1, p, g, I, J, hp, hm, hA, h => by
    have hM := h.1
    have h13 : I 527 13 = nI 0 := hM.2.1.1
    have his := M_is_ok (k := 0) (X := X) (J := J) (tx := tx) (sp := sp) (bt := bt) (tt := tt) h8 hM.1 hM.2.1 (by decide)
    have l0 : (0 : Int32) = nI 0 := L0
    by_cases z0 : tk b n p = 0
    · have e : rnS (tk b n) (tv b n) (tnm b n) (m + 1) p g = ((0, p), g) := by unfold rnS; rw [if_pos z0]
      rw [e]
      refine ⟨I, J, ?_, hM.2.1, fun _ => h, fun _ _ _ _ _ _ _ => rfl, fun _ _ _ => rfl⟩
      have hb : bI (decide ((0, p).1 = 0 ∧ tk b n (0, p).2 = 0)) = nI 1 := by rw [decide_eq_true ⟨rfl, z0⟩]; rfl
      rw [hb] at his
      rw [e_M_read_112, L0, bndE gM13 h13, if_pos rfl, bndI his]
      dsimp only
      rw [if_neg (by decide)]
    · obtain ⟨I1, J1, t1, t2, t3, t4, t5⟩ := M_tellOne_ok (X := X) (tx := tx) (sp := sp) (bt := bt) (tt := tt) hn h8 hV hsd hA h z0
      have hb : bI (decide ((0, p).1 = 0 ∧ tk b n (0, p).2 = 0)) = nI 0 := by rw [decide_eq_false (fun y => z0 y.2)]; rfl
      rw [hb] at his
      have run : Sm X k_M_read 112 [.ref 527, w1] [] (HH I J tx sp bt tt) = Sm X k_M_read 112 [.ref 527, w1] [] (HH I1 J1 tx sp bt tt) := by
        rw [e_M_read_112, L0, bndE gM13 h13, if_pos rfl, bndI his]
        dsimp only
        rw [if_pos rfl, bndV t1]
      by_cases z : (syn (tk b n) (tv b n) g.1 p).1 = 0
      · have e : rnS (tk b n) (tv b n) (tnm b n) (m + 1) p g = rnS (tk b n) (tv b n) (tnm b n) m (syn (tk b n) (tv b n) g.1 p).2 (smn (tk b n) (tv b n) (tnm b n) p g) := by
          show (if tk b n p = 0 then _ else _) = _
          rw [if_neg z0, if_pos z]
        have hle := syn_le (T := g.1) hV hp
        have hge := (syn_end hV hp z).2.1
        obtain ⟨I2, J2, g1, g2, g3, g4, g5⟩ := rd_112 (w1 := w1) hn h8 hV hsd m _ _ I1 J1 hle.1 (by omega) (gA_smn (N := tnm b n) hV hp z hA) (t3 z)
        rw [e]
        exact ⟨I2, J2, run.trans g1, g2, g3, t4.trans g4, fun a k q => by rw [g5 a k q, t5 a k q]⟩
      · have e : rnS (tk b n) (tv b n) (tnm b n) (m + 1) p g = (syn (tk b n) (tv b n) g.1 p, g) := by
          show (if tk b n p = 0 then _ else _) = _
          rw [if_neg z0, if_neg z]
        rw [e]
        refine ⟨I1, J1, run.trans ?_, t2, fun y => absurd y z, t4, t5⟩
        rw [e_M_read_112, L0, bndE gM13 t2.1, if_neg (fun y => z ((nI_eq (by have := t2.2.1; omega) (by decide)).mp y))]
end
theorem mXG.mT {I : Nat → Nat → Int32} {sd : Nat} {T : Nat → Nat → Nat} (h : mXG I sd T (lnM T)) (hsd : sd < 2) (h18 : I 527 18 = nI sd) : mT I sd T := by
  have i1 : 1 * sd + 0 = sd := by omega
  have c4 : I 553 (1 * sd + 0) = nI (T 4 0) := h 4 (by decide) 0 (by show 0 < 1; decide)
  have c5 : I 554 (1 * sd + 0) = nI (T 5 0) := h 5 (by decide) 0 (by show 0 < 1; decide)
  rw [i1] at c4 c5
  exact ⟨hsd, h18, cnt_M (x := 0) h (by decide), cnt_M (x := 1) h (by decide), cnt_M (x := 2) h (by decide), cnt_M (x := 3) h (by decide), c4, c5, fun k hk => h 6 (by decide) k hk, fun k hk => h 7 (by decide) k hk, fun k hk => h 8 (by decide) k hk, fun k hk => h 9 (by decide) k hk, fun k hk => h 10 (by decide) k hk, fun k hk => h 12 (by decide) k hk, fun k hk => h 13 (by decide) k hk, fun k hk => h 14 (by decide) k hk, fun k hk => h 15 (by decide) k hk, fun k hk => h 16 (by decide) k hk⟩
theorem mT.ag {I I' : Nat → Nat → Int32} {lv : Nat} {T : Nat → Nat → Nat} (h : mT I lv T) (hb : tB T) (f : ∀ a k, 538 ≤ a ∧ a ≤ 554 → oS lv a k → I' a k = I a k) (f18 : I' 527 18 = I 527 18) : mT I' lv T := by
  obtain ⟨h0, h1, h2, h3, h4, h5, h6, h7, h8, h9, h10, h11, h12, h13, h14, h15, h16, h17⟩ := h
  obtain ⟨b1, b2, b3, b4, -⟩ := hb
  have u : ∀ a, wdA a = 1 → oS lv a lv := fun a e => by unfold oS; rw [e]; omega
  have v : ∀ a w k, wdA a = w → k < w → oS lv a (w * lv + k) := fun a w k e hk => by unfold oS; rw [e]; omega
  refine ⟨h0, by rw [f18]; exact h1, by rw [f _ _ (by decide) (u _ rfl)]; exact h2, by rw [f _ _ (by decide) (u _ rfl)]; exact h3, by rw [f _ _ (by decide) (u _ rfl)]; exact h4, by rw [f _ _ (by decide) (u _ rfl)]; exact h5, by rw [f _ _ (by decide) (u _ rfl)]; exact h6, by rw [f _ _ (by decide) (u _ rfl)]; exact h7, fun k hk => ?_, fun k hk => ?_, fun k hk => ?_, fun k hk => ?_, fun k hk => ?_, fun k hk => ?_, fun k hk => ?_, fun k hk => ?_, fun k hk => ?_, fun k hk => ?_⟩
  · rw [f _ _ (by decide) (v 539 7 k rfl (by omega))]; exact h8 k hk
  · rw [f _ _ (by decide) (v 541 5 k rfl (by omega))]; exact h9 k hk
  · rw [f _ _ (by decide) (v 542 5 k rfl (by omega))]; exact h10 k hk
  · rw [f _ _ (by decide) (v 543 5 k rfl (by omega))]; exact h11 k hk
  · rw [f _ _ (by decide) (v 544 35 k rfl (by omega))]; exact h12 k hk
  · rw [f _ _ (by decide) (v 546 6 k rfl (by omega))]; exact h13 k hk
  · rw [f _ _ (by decide) (v 547 6 k rfl (by omega))]; exact h14 k hk
  · rw [f _ _ (by decide) (v 548 6 k rfl (by omega))]; exact h15 k hk
  · rw [f _ _ (by decide) (v 549 6 k rfl (by omega))]; exact h16 k hk
  · rw [f _ _ (by decide) (v 552 6 k rfl (by omega))]; exact h17 k hk
theorem oS_ne {sd lv a k : Nat} (h : oS lv a k) (ne : sd ≠ lv) : ¬ oS sd a k := by
  unfold oS at h ⊢
  generalize wdA a = w at *
  intro z
  rcases Nat.lt_or_gt_of_ne ne with q | q
  · have : w * (sd + 1) ≤ w * lv := Nat.mul_le_mul_left w q
    rw [Nat.mul_succ] at this; omega
  · have : w * (lv + 1) ≤ w * sd := Nat.mul_le_mul_left w q
    rw [Nat.mul_succ] at this; omega
/-- all that a read may change before it is taken -/
def fRd (sd : Nat) (I I2 : Nat → Nat → Int32) : Prop := ∀ a k, ¬ (a = 527 ∧ (k = 2 ∨ k = 4 ∨ (10 ≤ k ∧ k ≤ 16) ∨ k = 19 ∨ k = 20 ∨ k = 43 ∨ k = 49 ∨ k = 53)) → ¬ (529 ≤ a ∧ a ≤ 532) → a ≠ 536 → a ≠ 537 → a ≠ 564 → ¬ ((538 ≤ a ∧ a ≤ 563) ∧ oS sd a k) → I2 a k = I a k
section
variable {tx sp sd : Nat} {bt tt : Value} {X : pG} {b : Nat → Nat} {n c : Nat}
variable {T : Nat → Nat → Nat} {LW : Nat → Option Lw} {r : Nat → Int32} {hn : Nat} {H : Nat → Nat → Int32} {hd : Nat → Option (Nat → Int32)} {tn : Nat} {tf : Nat → Nat} {bn : Nat} {bf : Nat → Nat} {pl : Int32} {I I2 : Nat → Nat → Int32} {J J2 : Nat → Nat → Int64} {lv : Nat}
theorem RM.side {v : Int32} (h : RM I J lv T LW r hn H hd tn tf bn bf pl) (hw : wI T r hn H hd tn tf bn bf) (ne : sd ≠ lv) (f : fRd sd I I2) (g : ∀ k, J2 534 k = J 534 k) (h2 : I2 527 2 = nI 0) : RM (up2 I2 527 17 v) J2 lv T LW r hn H hd tn tf 0 bf v := by
  have F : ∀ a k, ¬ (a = 527 ∧ (k = 2 ∨ k = 4 ∨ (10 ≤ k ∧ k ≤ 17) ∨ k = 19 ∨ k = 20 ∨ k = 43 ∨ k = 49 ∨ k = 53)) → ¬ (529 ≤ a ∧ a ≤ 532) → a ≠ 536 → a ≠ 537 → a ≠ 564 → ¬ ((538 ≤ a ∧ a ≤ 563) ∧ oS sd a k) → up2 I2 527 17 v a k = I a k := fun a k q1 q2 q3 q4 q5 q6 => by
    rw [show up2 I2 527 17 v a k = I2 a k from if_neg (by omega)]; exact f a k (by omega) q2 q3 q4 q5 q6
  have S : ∀ a k, 538 ≤ a ∧ a ≤ 563 → oS lv a k → up2 I2 527 17 v a k = I a k := fun a k q y => F a k (by omega) (by omega) (by omega) (by omega) (by
    intro e; subst e; omega) (fun z => oS_ne y ne z.2)
  have B : ∀ a k, ¬ (a = 527 ∧ (k = 2 ∨ k = 4 ∨ (10 ≤ k ∧ k ≤ 17) ∨ k = 19 ∨ k = 20 ∨ k = 43 ∨ k = 49 ∨ k = 53)) → ¬ (529 ≤ a ∧ a ≤ 564) → up2 I2 527 17 v a k = I a k := fun a k q1 q2 => F a k q1 (by omega) (by omega) (by omega) (by omega) (by omega)
  obtain ⟨⟨h1, h2'⟩, h3, ⟨h4, h5⟩, h6, ⟨h7, h8⟩, ⟨h9, h10⟩, h11, h12⟩ := h
  refine ⟨⟨h1.ag hw.B (fun a k q y => S a k (by omega) y) (B _ _ (by decide) (by decide)), h2'.ag (fun k hk => ⟨S _ _ (by decide) ?_, S _ _ (by decide) ?_⟩) ⟨fun a j q y1 y2 => S a j (by omega) ?_, fun a j q y1 y2 => S a j (by omega) ?_⟩⟩, fun k hk => by rw [B _ _ (by omega) (by omega)]; exact h3 k hk, ⟨by rw [B _ _ (by decide) (by decide)]; exact h4, fun u k hu hk => by rw [B _ _ (by omega) (by omega)]; exact h5 u k hu hk⟩, fun s hs => ⟨by rw [B _ _ (by omega) (by omega)]; exact (h6 s hs).1, fun q hq k hk => by rw [B _ _ (by omega) (by omega)]; exact (h6 s hs).2 q hq k hk⟩, ⟨by rw [B _ _ (by decide) (by decide)]; exact h7, fun k hk => by rw [B _ _ (by omega) (by omega)]; exact h8 k hk⟩, ⟨by rw [up2_k (by decide)]; exact h2, fun k hk => absurd hk (Nat.not_lt_zero _)⟩, up2_s, fun i hi => by rw [g]; exact h12 i hi⟩
  · show 3 * lv ≤ 3 * lv + k ∧ 3 * lv + k < 3 * lv + 3; omega
  · show 3 * lv ≤ 3 * lv + k ∧ 3 * lv + k < 3 * lv + 3; omega
  · have e : wdA a = 130 := by
      unfold wdA; rw [if_neg (by omega), if_neg (by omega), if_neg (by omega), if_neg (by omega), if_neg (by omega), if_pos q]
    unfold oS; rw [e]; omega
  · have e : wdA a = 420 := by
      unfold wdA; rw [if_neg (by omega), if_neg (by omega), if_neg (by omega), if_neg (by omega), if_neg (by omega), if_neg (by omega), if_pos (by omega)]
    unfold oS; rw [e]; omega
end
section
variable {tx sp sd : Nat} {bt tt : Value} {X : pG} {b : Nat → Nat} {n c : Nat}
variable {T : Nat → Nat → Nat} {LW : Nat → Option Lw} {r : Nat → Int32} {hn : Nat} {H : Nat → Nat → Int32} {hd : Nat → Option (Nat → Int32)} {tn : Nat} {tf : Nat → Nat} {bn : Nat} {bf : Nat → Nat} {pl : Int32} {I : Nat → Nat → Int32} {J : Nat → Nat → Int64} {lv : Nat}
/-- all up to the first telling -/
theorem rd_head (h : RM I J lv T LW r hn H hd tn tf bn bf pl) (hw : wI T r hn H hd tn tf bn bf) : ∃ I2 J2 c, Call X k_M_read [.ref 527] (HH I J tx sp bt tt) = Sm X k_M_read 112 [.ref 527, .int (nI bn)] [] (HH I2 J2 tx sp bt tt) ∧ MG I2 J2 bf bn c (1 - lv) 0 g0p ∧ fRd (1 - lv) I I2 ∧ I2 527 2 = nI 0 ∧ ∀ a k, a ≠ 533 → J2 a k = J a k := by
  have hbn := hw.2.2.2.2.1
  have h8 := hw.2.2.2.2.2
  have hlv : lv < 2 := h.Te.1
  have h18 : I 527 18 = nI lv := h.Te.2.1
  have h2 : I 527 2 = nI bn := h.2.2.2.2.2.1.1
  have hbf : ∀ k, k < bn → I 528 k = sbI (bf k) := h.2.2.2.2.2.1.2
  have hwd : ∀ i, i < 23 → J 534 i = wordJ i := h.2.2.2.2.2.2.2
  have hsd : 1 - lv < 2 := by omega
  have es : nI 1 - nI lv = nI (1 - lv) := by
    rcases (show lv = 0 ∨ lv = 1 by omega) with q | q <;> subst q <;> rfl
  obtain ⟨I1, a1, a2, a3⟩ := cp_lp (X := X) (J := J) (tx := tx) (sp := sp) (bt := bt) (tt := tt) (n := bn) (bf := bf) (I0 := up2 I 527 4 (nI bn)) hbn (fun k hk => by rw [up2_o (by decide)]; exact hbf k hk) up2_s bn 0 (up2 I 527 4 (nI bn)) (Nat.zero_add _) ⟨fun k hk => absurd hk (Nat.not_lt_zero _), fun _ _ _ => rfl⟩
  have e4 : I1 527 4 = nI bn := by rw [a3 _ _ (by decide), up2_s]
  obtain ⟨I3, J3, c, b1, b2, b3, b4⟩ := M_cut_ok (X := X) (tx := tx) (sp := sp) (bt := bt) (tt := tt) (b := bf) (n := bn) (I := up2 I1 527 2 (nI 0)) (J := J) hbn h8 (by rw [up2_k (by decide)]; exact e4) (fun k hk => by rw [up2_o (by decide)]; exact a2 k hk) hwd
  obtain ⟨I4, e5⟩ : ∃ I4, I4 = up2 (up2 (up2 (up2 (up2 (up2 I3 527 11 (nI 0)) 527 12 (nI 0)) 527 13 (nI 0)) 527 15 (nI 0)) 527 19 (nI (1 - lv))) 527 20 (nI 0) := ⟨_, rfl⟩
  have f4 : ∀ a k, ¬ (a = 527 ∧ (k = 11 ∨ k = 12 ∨ k = 13 ∨ k = 15 ∨ k = 19 ∨ k = 20)) → I4 a k = I3 a k := fun a k q => by
    rw [e5]; unfold up2; rw [if_neg (by omega), if_neg (by omega), if_neg (by omega), if_neg (by omega), if_neg (by omega), if_neg (by omega)]
  obtain ⟨I5, c1, c2, c3, c4⟩ := M_plain_ok (X := X) (J := J3) (tx := tx) (sp := sp) (bt := bt) (tt := tt) (I := I4) hsd
  obtain ⟨I6, e6⟩ : ∃ I6, I6 = up2 (up2 I5 527 43 (nI (130 * (1 - lv)))) 527 49 (nI (420 * (1 - lv))) := ⟨_, rfl⟩
  have f6 : ∀ a k, ¬ (a = 527 ∧ (k = 43 ∨ k = 49)) → I6 a k = I5 a k := fun a k q => by
    rw [e6]; unfold up2; rw [if_neg (by omega), if_neg (by omega)]
  have f1 : ∀ a k, a ≠ 529 → ¬ (a = 527 ∧ (k = 2 ∨ k = 4)) → up2 I1 527 2 (nI 0) a k = I a k := fun a k q1 q2 => by
    rw [show up2 I1 527 2 (nI 0) a k = I1 a k from if_neg (by omega), a3 a k q1]
    exact if_neg (by omega)
  have g18 : I3 527 18 = nI lv := by rw [b3 _ _ (by decide) (by decide) (by decide) (by decide), f1 _ _ (by decide) (by decide)]; exact h18
  have s7 : ∀ k, I5 527 k = I4 527 k := fun k => c4 _ _ (by omega)
  have v19 : I4 527 19 = nI (1 - lv) := by rw [e5, up2_k (by decide), up2_s]
  have v5 : I5 527 19 = nI (1 - lv) := by rw [s7]; exact v19
  have tk4 : ∀ a k, 530 ≤ a ∧ a ≤ 532 → I6 a k = I3 a k := fun a k q => by rw [f6 a k (by omega), c4 a k (by omega), f4 a k (by omega)]
  have q7 : ∀ k, ¬ (k = 43 ∨ k = 49) → I6 527 k = I4 527 k := fun k q => by rw [f6 527 k (by omega), s7]
  refine ⟨I6, J3, c, ?_, ⟨⟨b2.to tk4 (fun _ => rfl), ⟨?_, by decide, by decide, fun _ => ⟨?_, Nat.zero_le _⟩, fun z => absurd rfl z⟩, fun _ => ⟨⟨?_, by decide, fun z => absurd rfl z⟩, fun z => absurd rfl z⟩, ?_, by decide, (fun i q hq => by cases hq), (fun q hq => by cases hq)⟩, c2.to (fun a k q => f6 a k (by omega)), 130 * (1 - lv), 420 * (1 - lv), Nat.le_refl _, by omega, Nat.le_refl _, by omega, ?_, ?_, ?_, ?_, fun k hk => ⟨fun _ => ?_, fun bs e q => by cases q⟩⟩, fun a k q1 q2 q3 q4 q5 q6 => ?_, ?_, b4⟩
  · have l1 : (1 : Int32) = nI 1 := Int32.toBitVec_inj.mp rfl
    have l130 : (130 : Int32) = nI 130 := Int32.toBitVec_inj.mp rfl
    have l420 : (420 : Int32) = nI 420 := Int32.toBitVec_inj.mp rfl
    have w43 : up2 I5 527 43 (nI (130 * (1 - lv))) 527 19 = nI (1 - lv) := by rw [up2_k (by decide)]; exact v5
    have g18b : up2 (up2 (up2 (up2 I3 527 11 (nI 0)) 527 12 (nI 0)) 527 13 (nI 0)) 527 15 (nI 0) 527 18 = nI lv := by rw [up2_k (by decide), up2_k (by decide), up2_k (by decide), up2_k (by decide)]; exact g18
    rw [C_M_read, e_M_read_0, bndE gM2 h2, pM4, bnd_some, L0, a1, e_M_read_10, bndE gM4 e4, if_neg (nI_nlt (Nat.le_refl _) (by omega)), L0, pM2, bnd_some, bndV b1, pM11, bnd_some, pM12, bnd_some, pM13, bnd_some, pM15, bnd_some, bndE gM18 g18b, l1, es, pM19, bnd_some, pM20, bnd_some, ← e5, bndE gM19 v19, bndV c1, bndE gM19 v5, l130, nI_mul, pM43, bnd_some, bndE gM19 w43, l420, nI_mul, pM49, bnd_some, ← e6]
  · show I6 527 13 = nI 0
    rw [q7 _ (by decide), e5, up2_k (by decide), up2_k (by decide), up2_k (by decide), up2_s]
  · show I6 527 11 = nI 0
    rw [q7 _ (by decide), e5, up2_k (by decide), up2_k (by decide), up2_k (by decide), up2_k (by decide), up2_k (by decide), up2_s]
  · show I6 527 15 = nI 0
    rw [q7 _ (by decide), e5, up2_k (by decide), up2_k (by decide), up2_s]
  · show I6 527 20 = nI 0
    rw [q7 _ (by decide), e5, up2_s]
  · rw [q7 _ (by decide)]; exact v19
  · rw [q7 _ (by decide), e5, up2_k (by decide), up2_k (by decide), up2_k (by decide), up2_k (by decide), up2_s]
  · rw [e6, up2_k (by decide), up2_s]
  · rw [e6, up2_s]
  · rw [f6 _ _ (by omega), f6 _ _ (by omega), (c3 k hk).1, (c3 k hk).2]
  · rw [f6 a k (by omega), c4 a k (fun z => q6 ⟨by omega, z.2⟩), f4 a k (by omega), b3 a k (by omega) (by omega) (by omega) (by omega), f1 a k (by omega) (by omega)]
  · rw [q7 _ (by decide), f4 _ _ (by decide), b3 _ _ (by decide) (by decide) (by decide) (by decide), up2_s]
theorem M_read_ok (h : RM I J lv T LW r hn H hd tn tf bn bf pl) (hw : wI T r hn H hd tn tf bn bf) : ((rdR bf bn).1.1 ≠ 0 → CM X k_M_read [.ref 527] (.int (nI (rdR bf bn).1.1)) I J tx sp bt tt T LW r hn H hd tn tf 0 bf (nI (tS bf bn (rdR bf bn).1.2))) ∧ ((rdR bf bn).1.1 = 0 → (rdR bf bn).2.2.2.1.1 ≠ 0 → CM X k_M_read [.ref 527] (.int (nI (rdR bf bn).2.2.2.1.1)) I J tx sp bt tt T LW r hn H hd tn tf 0 bf (nI (tS bf bn (rdR bf bn).2.2.2.1.2))) ∧ ((rdR bf bn).1.1 = 0 → (rdR bf bn).2.2.2.1.1 = 0 → CM X k_M_read [.ref 527] (.int (nI 0)) I J tx sp bt tt (rdR bf bn).2.1 (rdR bf bn).2.2.2.2 (row0 (rdR bf bn).2.1) 0 H (fun _ => none) 0 tf 0 bf (nG 1)) := by
  have hbn := hw.2.2.2.2.1
  have h8 := hw.2.2.2.2.2
  have hlv : lv < 2 := h.Te.1
  have hV : ∀ p, tk bf bn p = 2 → tv bf bn p < 10000 := fun p hp => tv_lt hp
  have hsd : 1 - lv < 2 := by omega
  have ne : 1 - lv ≠ lv := by omega
  obtain ⟨I1, J1, c, a1, a2, a3, a4, a5⟩ := rd_head (X := X) (tx := tx) (sp := sp) (bt := bt) (tt := tt) h hw
  obtain ⟨I2, J2, b1, b2, b3, b4, b5⟩ := rd_112 (w1 := .int (nI bn)) (X := X) (tx := tx) (sp := sp) (bt := bt) (tt := tt) hbn h8 hV hsd 401 0 g0p I1 J1 (Nat.zero_le _) (by decide) g0p_A a2
  have hend := rnS_end (K := tk bf bn) (V := tv bf bn) (N := tnm bf bn) hV 401 0 g0p (Nat.zero_le _) (by decide) g0p_A (fun _ => g0p_Z)
  have hrd : rnS (tk bf bn) (tv bf bn) (tnm bf bn) 401 0 g0p = rdR bf bn := rfl
  rw [hrd] at b2 b3 hend
  have F : fRd (1 - lv) I I2 := fun a k q1 q2 q3 q4 q5 q6 => by rw [b4 a k (by omega) q3 q4 q5 q6, a3 a k q1 q2 q3 q4 q5 q6]
  have G : ∀ a k, a ≠ 533 → a ≠ 535 → J2 a k = J a k := fun a k q1 q2 => by rw [b5 a k q2, a5 a k q1]
  have h2 : I2 527 2 = nI 0 := by rw [b4 _ _ (by decide) (by decide) (by decide) (by decide) (by omega)]; exact a4
  have lo : ∀ (I3 : Nat → Nat → Int32), (∀ a k, a < 527 → I3 a k = I2 a k) → ∀ a j, a < 527 → I3 a j = I a j ∧ J2 a j = J a j := fun I3 q a j ha => ⟨by rw [q a j ha]; exact F a j (by omega) (by omega) (by omega) (by omega) (by omega) (by omega), G a j (by omega) (by omega)⟩
  have run : ∀ Q : pRes, Sm X k_M_read 134 [.ref 527, .int (nI bn)] [] (HH I2 J2 tx sp bt tt) = Q → Call X k_M_read [.ref 527] (HH I J tx sp bt tt) = Q := fun Q hQ => a1.trans (b1.trans hQ)
  have h13 := b2.1
  have hff := b2.2.1
  generalize rdR bf bn = R at *
  refine ⟨fun hf => ?_, fun hf hw0 => ?_, fun hf hw0 => ?_⟩
  · have h14 : I2 527 14 = nI (tS bf bn R.1.2) := (b2.2.2.2.2 hf).1
    refine ⟨up2 I2 527 17 (nI (tS bf bn R.1.2)), J2, lv, run _ ?_, h.side hw ne F (fun k => G _ _ (by decide) (by decide)) h2, lo _ fun a k q => up2_o (by omega)⟩
    have e13 : up2 I2 527 17 (nI (tS bf bn R.1.2)) 527 13 = nI R.1.1 := by rw [up2_k (by decide)]; exact h13
    have pos : nI 0 < nI R.1.1 := nI_lt (by omega) (by omega)
    rw [e_M_read_134, L0, bndE gM13 h13, if_pos pos, bndE gM14 h14, e_M_read_164, L0, pM17, bnd_some, bndE gM13 e13, if_pos pos, bndE gM13 e13]
  · obtain ⟨hMS, -⟩ := b3 hf
    obtain ⟨w1, w2, w3⟩ := (hMS.2.2.1 rfl).1
    rw [hf] at h13
    have h16 : I2 527 16 = nI (tS bf bn R.2.2.2.1.2) := w3 hw0
    have w1 : I2 527 15 = nI R.2.2.2.1.1 := w1
    refine ⟨up2 I2 527 17 (nI (tS bf bn R.2.2.2.1.2)), J2, lv, run _ ?_, h.side hw ne F (fun k => G _ _ (by decide) (by decide)) h2, lo _ fun a k q => up2_o (by omega)⟩
    have e13 : up2 I2 527 17 (nI (tS bf bn R.2.2.2.1.2)) 527 13 = nI 0 := by rw [up2_k (by decide)]; exact h13
    have e15 : up2 I2 527 17 (nI (tS bf bn R.2.2.2.1.2)) 527 15 = nI R.2.2.2.1.1 := by rw [up2_k (by decide)]; exact w1
    have pos : nI 0 < nI R.2.2.2.1.1 := nI_lt (by omega) (by omega)
    rw [e_M_read_134, L0, bndE gM13 h13, if_neg (by decide), bndE gM15 w1, if_pos pos, bndE gM16 h16, e_M_read_164, L0, pM17, bnd_some, bndE gM13 e13, if_neg (by decide), bndE gM15 e15, if_pos pos, bndE gM15 e15]
  · obtain ⟨hMS, hX, B, Z, z1, z2, z3, z4, w19, w12, w43, w49, wL⟩ := b3 hf
    obtain ⟨w1, w2, w3⟩ := (hMS.2.2.1 rfl).1
    have hp := hMS.2.1.2.2.1
    have hp : R.1.2 ≤ 400 := hp
    rw [hf] at h13
    have w1 : I2 527 15 = nI R.2.2.2.1.1 := w1
    rw [hw0] at w1
    have hBB := gZ.B hend.2.2.1 (hend.2.2.2 hw0)
    obtain ⟨I3, e3⟩ : ∃ I3, I3 = up2 (up2 I2 527 17 (nG 1)) 527 18 (nI (1 - lv)) := ⟨_, rfl⟩
    have f3 : ∀ a k, ¬ (a = 527 ∧ (k = 17 ∨ k = 18)) → I3 a k = I2 a k := fun a k q => by rw [e3]; unfold up2; rw [if_neg (by omega), if_neg (by omega)]
    have h18 : I3 527 18 = nI (1 - lv) := by rw [e3, up2_s]
    have hX3 : mXG I3 (1 - lv) R.2.1 (lnM R.2.1) := hX.to fun a k q => f3 a k (by omega)
    have m3 : mT I3 (1 - lv) R.2.1 := hX3.mT hsd h18
    obtain ⟨I4, p1, p2, p3⟩ := M_begins_ok (X := X) (J := J2) (tx := tx) (sp := sp) (bt := bt) (tt := tt) (T := R.2.1) hsd h18 m3.2.2.2.2.1 hBB.1.2.2.1 (fun k hk => m3.2.2.2.2.2.2.2.2.2.2.2.2.2.1 k hk)
    have k1 := M_keepsRow_ok (X := X) (I := I4) (J := J2) (tx := tx) (sp := sp) (bt := bt) (tt := tt)
    obtain ⟨I5, e5⟩ : ∃ I5, I5 = up2 (up2 (cpN I4 567 568 152) 527 61 (nI 0)) 527 71 (nI 0) := ⟨_, rfl⟩
    have f5 : ∀ a k, ¬ (a = 527 ∧ (k = 61 ∨ k = 71)) → a ≠ 567 → I5 a k = I4 a k := fun a k q1 q2 => by
      rw [e5]
      unfold up2; rw [if_neg (by omega), if_neg (by omega)]
      exact if_neg (fun z => q2 z.1)
    obtain ⟨I6, q1, q2, q3⟩ := hd_219 (X := X) (J := J2) (tx := tx) (sp := sp) (bt := bt) (tt := tt) 3 0 I5 rfl (fun k hk => absurd hk (Nat.not_lt_zero _))
    have f6 : ∀ a k, ¬ (a = 527 ∧ (k = 59 ∨ k = 61 ∨ k = 71)) → a ≠ 567 → a ≠ 568 → a ≠ 575 → I6 a k = I3 a k := fun a k y1 y2 y3 y4 => by
      rw [q3 a k y4, f5 a k (by omega) y2, p3 a k y3 (by omega)]
    refine ⟨I6, J2, 1 - lv, run _ ?_, ⟨⟨m3.to fun a k q => f6 a k (by omega) (by omega) (by omega) (by omega), fun k hk => ?_⟩, fun k hk => ?_, ⟨?_, fun u k hu => absurd hu (Nat.not_lt_zero _)⟩, fun s hs => ⟨?_, fun q hq => by cases hq⟩, ⟨?_, fun k hk => absurd hk (Nat.not_lt_zero _)⟩, ⟨?_, fun k hk => absurd hk (Nat.not_lt_zero _)⟩, ?_, fun i hi => ?_⟩, fun a j ha => ?_⟩
    · have e13 : up2 I2 527 17 (nG 1) 527 13 = nI 0 := by rw [up2_k (by decide)]; exact h13
      have e15 : up2 I2 527 17 (nG 1) 527 15 = nI 0 := by rw [up2_k (by decide)]; exact w1
      have e19 : up2 I2 527 17 (nG 1) 527 19 = nI (1 - lv) := by rw [up2_k (by decide)]; exact w19
      rw [e_M_read_134, L0, bndE gM13 h13, if_neg (by decide), bndE gM15 w1, if_neg (by decide), show (-1 : Int32) = nG 1 from rfl, e_M_read_164, L0, pM17, bnd_some, bndE gM13 e13, if_neg (by decide), bndE gM15 e15, if_neg (by decide), bndE gM19 e19, pM18, bnd_some, ← e3, bndV p1, bndV k1, pM61, bnd_some, pM71, bnd_some, ← e5, q1]
    · refine ⟨fun q => ?_, fun bs e q => ?_⟩
      · rw [f6 _ _ (by omega) (by decide) (by decide) (by decide), f6 _ _ (by omega) (by decide) (by decide) (by decide), f3 _ _ (by omega), f3 _ _ (by omega)]
        exact (wL k hk).1 q
      · obtain ⟨q0, ff, m, n1, n2, n3, n4⟩ := (wL k hk).2 bs e q
        have n5 := n4.R (by omega) (by omega)
        exact ⟨q0, ff, m, by rw [f6 _ _ (by omega) (by decide) (by decide) (by decide), f3 _ _ (by omega)]; exact n1, by rw [f6 _ _ (by omega) (by decide) (by decide) (by decide), f3 _ _ (by omega)]; exact n2, n3, n5.ag ⟨fun a j y1 y2 y3 => by rw [f6 _ _ (by omega) (by omega) (by omega) (by omega), f3 _ _ (by omega)], fun a j y1 y2 y3 => by rw [f6 _ _ (by omega) (by omega) (by omega) (by omega), f3 _ _ (by omega)]⟩⟩
    · rw [q3 _ _ (by decide), e5, up2_o (by decide), up2_o (by decide)]
      show (if 567 = 567 ∧ k < 152 then I4 568 k else _) = _
      rw [if_pos ⟨rfl, hk⟩]; exact p2 k hk
    · rw [q3 _ _ (by decide), e5, up2_k (by decide), up2_s]
    · rw [q2 s hs]; rfl
    · rw [q3 _ _ (by decide), e5, up2_s]
    · rw [f6 _ _ (by decide) (by decide) (by decide) (by decide), f3 _ _ (by decide)]; exact h2
    · rw [f6 _ _ (by decide) (by decide) (by decide) (by decide), e3, up2_k (by decide), up2_s]
    · rw [G _ _ (by decide) (by decide)]; exact h.2.2.2.2.2.2.2 i hi
    · exact lo I6 (fun a k q => by rw [f6 a k (by omega) (by omega) (by omega) (by omega), f3 a k (by omega)]) a j ha
end
