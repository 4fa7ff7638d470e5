/-! PROMISE 4: READ, THE SECOND SIDE: POSTS -/
section
variable {I : Nat → Nat → Int32} {J : Nat → Nat → Int64} {tx sp sd : Nat} {bt tt : Value} {X : pG} {b : Nat → Nat} {n c : Nat} {s w : Nat × Nat} {L : List (Nat × Nat × Nat)} {T : Nat → Nat → Nat}
theorem nmS_f {K : Nat → Nat} {s : Nat × Nat} (h : ¬ (s.1 = 0 ∧ K s.2 = 1)) : ∀ m, nmS K m s = s
  | 0 => rfl
  | _ + 1 => if_neg h
theorem pst_n {K N : Nat → Nat} {q S : Nat} (h : K q ≠ 1) : ∀ m, pst K N L m q S w = (S, w)
  | 0 => rfl
  | _ + 1 => by unfold pst; rw [if_neg h]
theorem mus_adv {K : Nat → Nat} (h1 : s.1 = 0) (h2 : K s.2 = 1) : mus K 1 s = adv s.2 := by unfold mus; rw [if_pos h1, if_pos h2]
theorem or_w : ∀ S, S < 32 → ∀ i, i < 5 → nI S ||| ((1 : Int32) <<< (nI i &&& (31 : Int32))) = nI (S ||| 2 ^ i) := by decide +kernel
theorem po_lp (hn : n ≤ 2000) (h8 : ∀ j, j < n → b j < 256) (hf : ∀ y a, fnd L 1 y = some a → a < 5) {x1 : Int32} : ∀ (m : Nat) (s w : Nat × Nat) (S : Nat) (I : Nat → Nat → Int32) (w3 w4 : Value), S < 32 → (s.1 = 0 → 401 ≤ s.2 + m) → MS I J b n c s w L →
    ∃ (I2 : Nat → Nat → Int32) (S2 : Nat) (v3 v4 : Value), Sm X k_M_tellPost 7 [.ref 527, .int x1, .int (nI S), w3, w4] [] (HH I J tx sp bt tt) = Sm X k_M_tellPost 75 [.ref 527, .int x1, .int (nI S2), v3, v4] [] (HH I2 J tx sp bt tt) ∧ S2 < 32 ∧ ((nmS (tk b n) m s).1 = 0 → S2 = (pst (tk b n) (tnm b n) L m s.2 S w).1) ∧ MS I2 J b n c (nmS (tk b n) m s) (pst (tk b n) (tnm b n) L m s.2 S w).2 L ∧ fmP I I2 := by
  have l1 : (1 : Int32) = nI 1 := Int32.toBitVec_inj.mp rfl
  have l3 : (3 : Int32) = nI 3 := Int32.toBitVec_inj.mp rfl
  intro m
  induction m with
  | zero =>
    intro s w S I w3 w4 hS hm h
    have c0 : s.1 ≠ 0 := fun z => by have := hm z; have := h.2.1.2.2.1; omega
    refine ⟨I, S, w3, w4, ?_, hS, fun _ => rfl, h, fun _ _ _ => rfl⟩
    rw [e_M_tellPost_7, L0, bndE gM13 h.2.1.1, if_neg (fun z => c0 ((nI_eq (by have := h.2.1.2.1; omega) (by decide)).mp z))]
  | succ m ih =>
    intro s w S I w3 w4 hS hm h
    by_cases c0 : s.1 = 0
    · have his := M_is_ok (k := 1) (X := X) (J := J) (tx := tx) (sp := sp) (bt := bt) (tt := tt) h8 h.1 h.2.1 (by decide)
      have h13 := h.2.1.1
      rw [c0] at h13
      by_cases ck : tk b n s.2 = 1
      · have es : nmS (tk b n) (m + 1) s = nmS (tk b n) m (adv s.2) := if_pos ⟨c0, ck⟩
        have go : ∀ (I2 : Nat → Nat → Int32) (S2 : Nat) (w2 : Nat × Nat) (v3 v4 : Value), Sm X k_M_tellPost 7 [.ref 527, .int x1, .int (nI S), w3, w4] [] (HH I J tx sp bt tt) = Sm X k_M_tellPost 7 [.ref 527, .int x1, .int (nI S2), v3, v4] [] (HH I2 J tx sp bt tt) → S2 < 32 → ((adv s.2).1 = 0 → pst (tk b n) (tnm b n) L (m + 1) s.2 S w = pst (tk b n) (tnm b n) L m (s.2 + 1) S2 w2) → MS I2 J b n c (adv s.2) w2 L → fmP I I2 →
            ∃ (I2 : Nat → Nat → Int32) (S2 : Nat) (v3 v4 : Value), Sm X k_M_tellPost 7 [.ref 527, .int x1, .int (nI S), w3, w4] [] (HH I J tx sp bt tt) = Sm X k_M_tellPost 75 [.ref 527, .int x1, .int (nI S2), v3, v4] [] (HH I2 J tx sp bt tt) ∧ S2 < 32 ∧ ((nmS (tk b n) (m + 1) s).1 = 0 → S2 = (pst (tk b n) (tnm b n) L (m + 1) s.2 S w).1) ∧ MS I2 J b n c (nmS (tk b n) (m + 1) s) (pst (tk b n) (tnm b n) L (m + 1) s.2 S w).2 L ∧ fmP I I2 := by
          intro I2 S2 w2 v3 v4 e1 hS2 e2 h2 f2
          obtain ⟨I3, S3, u3, u4, g1, g2, g3, g4, g5⟩ := ih (adv s.2) w2 S2 I2 v3 v4 hS2 (fun z => by rw [(adv_0 z).2]; have := hm c0; show 401 ≤ s.2 + 1 + m; omega) h2
          by_cases z : (adv s.2).1 = 0
          · have ea : (adv s.2).2 = s.2 + 1 := by rw [(adv_0 z).2]
            rw [ea] at g3 g4
            rw [es, e2 z]
            exact ⟨I3, S3, u3, u4, e1.trans g1, g2, g3, g4, f2.trans g5⟩
          · have en : nmS (tk b n) m (adv s.2) = adv s.2 := nmS_f (fun q => z q.1) m
            rw [en] at g3 g4
            rw [es, en]
            exact ⟨I3, S3, u3, u4, e1.trans g1, g2, fun q => absurd q z, g4.any z, f2.trans g5⟩
        obtain ⟨q, q1, q2, q3⟩ := h.t_
        obtain ⟨eq, hsc⟩ := q3 c0
        have hpl := h.2.1.2.2.1
        obtain ⟨w3', w4'⟩ := h.2.2.1 c0
        obtain ⟨I1, x4, k1, k2, k3, k4, k5⟩ := M_known_ok (so := 1) (X := X) (J := J) (tx := tx) (sp := sp) (bt := bt) (tt := tt) hn h8 (by decide) h
        have k13 := k2.2.1.1
        rw [mus_adv c0 ck] at k2 k3 k4 k13
        have pe : pst (tk b n) (tnm b n) L (m + 1) s.2 S w = (match fnd L 1 (tnm b n s.2) with
          | none => pst (tk b n) (tnm b n) L m (s.2 + 1) S (wrK w 4 s.2)
          | some j => pst (tk b n) (tnm b n) L m (s.2 + 1) (S ||| 2 ^ j) (if S / 2 ^ j % 2 = 1 then wrK w 3 s.2 else w)) := by
          show (if tk b n s.2 = 1 then _ else _) = _
          rw [if_pos ck]
          cases fnd L 1 (tnm b n s.2) <;> rfl
        have hb : bI (decide (s.1 = 0 ∧ tk b n s.2 = 1)) = nI 1 := by rw [decide_eq_true ⟨c0, ck⟩]; rfl
        rw [hb] at his
        by_cases z : (adv s.2).1 = 0
        · rw [z] at k13
          have xe := k3 z
          cases e : fnd L 1 (tnm b n s.2) with
          | none =>
            rw [e] at xe pe
            have eF : ckF (tnm b n) L w 1 s.2 = wrK w 4 s.2 := by unfold ckF; rw [e, if_pos rfl]
            rw [eF] at k2
            refine go I1 S (wrK w 4 s.2) (.int (nI q)) (.int x4) ?_ hS (fun _ => pe) k2 k5
            rw [e_M_tellPost_7, L0, bndE gM13 h13, if_pos rfl, l1, bndI his]
            dsimp only
            rw [if_neg (by decide), bndE gM11 q2, bndI k1]
            dsimp only
            rw [bndE gM13 k13, if_neg (by decide), if_pos (by rw [xe]; show nG 1 < nI 0; decide)]
          | some i =>
            rw [e] at xe pe
            have hi := hf _ _ e
            have xe : x4 = nI i := xe
            have eF : ckF (tnm b n) L w 1 s.2 = w := by unfold ckF; rw [e, if_neg (by intro y; cases y)]
            rw [eF] at k2
            have nb : ¬ (nI i < nI 0) := nI_nlt (Nat.zero_le _) (by omega)
            have ow := or_w S hS i hi
            have ob := bt_un S (by omega) i (by omega)
            by_cases cb : S / 2 ^ i % 2 = 1
            · obtain ⟨v1, v2⟩ := k2.2.2.1 z
              obtain ⟨I2, f1, f2, f3⟩ := M_wrong_ok (k := 3) (q := q) (X := X) (J := J) (tx := tx) (sp := sp) (bt := bt) (tt := tt) hn k2.1 k2.2.1 z v1 ⟨q1, hsc⟩ (by decide) (fun y => Or.inl (by rw [eq]; exact w4' y))
              refine go I2 (S ||| 2 ^ i) (wrK w 3 s.2) (.int (nI q)) (.int x4) ?_ (or_lt32 hS hi) (fun _ => by rw [pe]; dsimp only; rw [if_pos cb]) ?_ (fun a j y => by rw [f3 a j (by omega), k5 a j y])
              · rw [e_M_tellPost_7, L0, bndE gM13 h13, if_pos rfl, l1, bndI his]
                dsimp only
                rw [if_neg (by decide), bndE gM11 q2, bndI k1]
                dsimp only
                rw [bndE gM13 k13, if_neg (by decide), xe, if_neg nb, ← l1, if_pos (ob.mpr cb), l3, bndV f1, ow]
              · refine k2.wr f3 (fun _ => ⟨by rw [← eq]; exact f2, fun y => ?_⟩)
                rw [(adv_0 z).2]
                have hb := wB_wr (k := 3) (q := s.2) (w := w) (m := s.2) (fun y => Nat.le_of_lt (w4' y)) (Nat.le_refl _)
                exact Nat.lt_succ_of_le (hb y)
            · refine go I1 (S ||| 2 ^ i) w (.int (nI q)) (.int x4) ?_ (or_lt32 hS hi) (fun _ => by rw [pe]; dsimp only; rw [if_neg cb]) k2 k5
              rw [e_M_tellPost_7, L0, bndE gM13 h13, if_pos rfl, l1, bndI his]
              dsimp only
              rw [if_neg (by decide), bndE gM11 q2, bndI k1]
              dsimp only
              rw [bndE gM13 k13, if_neg (by decide), xe, if_neg nb, ← l1, if_neg (fun y => cb (ob.mp y)), ow]
        · refine go I1 S w (.int (nI q)) (.int x4) ?_ hS (fun y => absurd y z) (k2.any z) k5
          rw [e_M_tellPost_7, L0, bndE gM13 h13, if_pos rfl, l1, bndI his]
          dsimp only
          rw [if_neg (by decide), bndE gM11 q2, bndI k1]
          dsimp only
          rw [bndE gM13 k13, if_pos (nI_lt (by omega) (by have := k2.2.1.2.1; omega))]
      · have hb : bI (decide (s.1 = 0 ∧ tk b n s.2 = 1)) = nI 0 := by rw [decide_eq_false (fun y => ck y.2)]; rfl
        rw [hb] at his
        rw [nmS_f (fun y => ck y.2) (m + 1), pst_n ck (m + 1)]
        refine ⟨I, S, w3, w4, ?_, hS, fun _ => rfl, h, fun _ _ _ => rfl⟩
        rw [e_M_tellPost_7, L0, bndE gM13 h13, if_pos rfl, l1, bndI his]
        dsimp only
        rw [if_pos rfl]
    · rw [nmS_f (fun y => c0 y.1) (m + 1)]
      refine ⟨I, S, w3, w4, ?_, hS, fun y => absurd y c0, h.any c0, fun _ _ _ => rfl⟩
      rw [e_M_tellPost_7, L0, bndE gM13 h.2.1.1, if_neg (fun z => c0 ((nI_eq (by have := h.2.1.2.1; omega) (by decide)).mp z))]
theorem M_tellPost_ok {p cc : Nat} (hn : n ≤ 2000) (h8 : ∀ j, j < n → b j < 256) (hsd : sd < 2) (h19 : I 527 19 = nI sd) (hc : T 3 0 = cc) (hc6 : cc < 6) (hL : L.length < 24) (hx : mXG I sd T (lnM T)) (hf : ∀ y a, fnd L 1 y = some a → a < 5) (h : MS I J b n c (0, p) w L) :
    ∃ I2 J2, Call X k_M_tellPost [.ref 527] (HH I J tx sp bt tt) = some (.retAddr 0, HH I2 J2 tx sp bt tt) ∧ psM I2 b n c (mus (tk b n) 4 (nmS (tk b n) 401 (mus (tk b n) 1 (0, p)))) ∧ ((mus (tk b n) 4 (nmS (tk b n) 401 (mus (tk b n) 1 (0, p)))).1 = 0 → MS I2 J2 b n c (mus (tk b n) 4 (nmS (tk b n) 401 (mus (tk b n) 1 (0, p)))) (pst (tk b n) (tnm b n) L 401 (p + 1) 0 (ckN (tnm b n) L w p)).2 (L ++ [(tnm b n p, 3, cc)]) ∧ mXG I2 sd (up2 (up2 T 16 cc (pst (tk b n) (tnm b n) L 401 (p + 1) 0 (ckN (tnm b n) L w p)).1) 3 0 (cc + 1)) (lnM (up2 (up2 T 16 cc (pst (tk b n) (tnm b n) L 401 (p + 1) 0 (ckN (tnm b n) L w p)).1) 3 0 (cc + 1)))) ∧ fTl sd I I2 ∧ ∀ a k, a ≠ 535 → J2 a k = J a k := by
  have l4 : (4 : Int32) = nI 4 := Int32.toBitVec_inj.mp rfl
  have l3 : (3 : Int32) = nI 3 := Int32.toBitVec_inj.mp rfl
  have l6 : (6 : Int32) = nI 6 := Int32.toBitVec_inj.mp rfl
  have l1 : (1 : Int32) = nI 1 := Int32.toBitVec_inj.mp rfl
  have hcI : ∀ I3 : Nat → Nat → Int32, mXG I3 sd T (lnM T) → I3 551 sd = nI cc := fun I3 q => by
    have := q 3 (by decide) 0 (by show 0 < 1; decide)
    rw [hc] at this
    have this : I3 551 (1 * sd + 0) = nI cc := this
    rw [Nat.one_mul, Nat.add_zero] at this; exact this
  obtain ⟨I1, x0, n1, n2, n3, n4⟩ := M_named_ok (X := X) (J := J) (tx := tx) (sp := sp) (bt := bt) (tt := tt) hn h8 h
  obtain ⟨I3, S, v3, v4, g1, g2, g3, g4, g5⟩ := po_lp (x1 := x0) (X := X) (tx := tx) (sp := sp) (bt := bt) (tt := tt) hn h8 hf 401 _ _ 0 I1 (.retAddr 0) (.retAddr 0) (by decide) (fun z => by rw [(mus_0 z).2.2.2]; show 401 ≤ p + 1 + 401; omega) n2
  obtain ⟨I4, m1, m2, m3⟩ := MS.must (k := 4) (X := X) (tx := tx) (sp := sp) (bt := bt) (tt := tt) h8 g4 (by decide)
  have fr : fmP I I4 := (n4.trans g5).trans m3
  have q19 : I4 527 19 = nI sd := by rw [fr _ _ (by decide)]; exact h19
  have hx4 : mXG I4 sd T (lnM T) := hx.fm fr
  have u4 := hcI I4 hx4
  have ix : nI 6 * nI sd + nI cc = nI (6 * sd + cc) := by rw [nI_mul, nI_add]
  have h13 := m2.2.1.1
  have hff := m2.2.1.2.1
  have run : ∀ Q : pRes, Sm X k_M_tellPost 75 [.ref 527, .int x0, .int (nI S), v3, v4] [] (HH I3 J tx sp bt tt) = Q → Call X k_M_tellPost [.ref 527] (HH I J tx sp bt tt) = Q := fun Q hQ => by
    rw [C_M_tellPost, e_M_tellPost_0, bndI n1]
    dsimp only
    rw [L0, g1]
    exact hQ
  by_cases z : (mus (tk b n) 4 (nmS (tk b n) 401 (mus (tk b n) 1 (0, p)))).1 = 0
  · obtain ⟨a1, a2, a3, a4⟩ := mus_0 z
    have eS := g3 a1
    have z1 : (mus (tk b n) 1 (0, p)).1 = 0 := by
      rcases Nat.eq_zero_or_pos (mus (tk b n) 1 (0, p)).1 with y | y
      · exact y
      · rw [nmS_f (fun t => by omega)] at a1; exact a1
    obtain ⟨k1, k2, k3, k4⟩ := mus_0 z1
    have k2 : tk b n p = 1 := k2
    have k4 : mus (tk b n) 1 (0, p) = (0, p + 1) := k4
    have x0e : x0 = nI p := n3 z1
    have hpc : p ≤ c := (h.2.1.2.2.2.1 rfl).2
    have hp4 : p ≤ 400 := h.2.1.2.2.1
    have e2 : (mus (tk b n) 1 (0, p)).2 = p + 1 := by rw [k4]
    rw [e2] at eS
    rw [z] at h13
    have t5 := m2.put (a0 := 552) (k0 := 6 * sd + cc) (x := nI S) (by decide)
    obtain ⟨I6, J6, r1, r2, r3, r4⟩ := M_notes_ok (so := 3) (q := p) (a := cc) (X := X) (J := J) (tx := tx) (sp := sp) (bt := bt) (tt := tt) (by decide) ⟨hp4, hpc⟩ k2 hL t5
    have q19a : up2 I4 552 (6 * sd + cc) (nI S) 527 19 = nI sd := by rw [up2_o (by decide)]; exact q19
    have u5 : up2 I4 552 (6 * sd + cc) (nI S) 551 sd = nI cc := by rw [up2_o (by decide)]; exact u4
    have q19b : I6 527 19 = nI sd := by rw [r3 _ _ (by decide) (by decide) (by decide)]; exact q19a
    have u6 : I6 551 sd = nI cc := by rw [r3 _ _ (by omega) (by decide) (by decide)]; exact u5
    have r2 := r2.put (a0 := 551) (k0 := sd) (x := nI (cc + 1)) (by decide)
    refine ⟨up2 I6 551 sd (nI (cc + 1)), J6, run _ ?_, r2.2.1, fun _ => ⟨?_, ?_⟩, (((fmP.T fr).trans (fTl_put (by decide) (by show 6 * sd ≤ 6 * sd + cc ∧ 6 * sd + cc < 6 * sd + 6; omega))).trans (fTl_no r3)).trans (fTl_put (by decide) (by show 1 * sd ≤ sd ∧ sd < 1 * sd + 1; omega)), r4⟩
    · rw [x0e, e_M_tellPost_75, L0, l4, bndV m1, bndE gM13 h13, if_neg (by decide), gM38, bnd_some, bndE gM19 q19, gM37, bnd_some, bndE gM19 q19, bndE (aM37 hsd) u4, l6, ix, sM38 (by omega), bnd_some, gM37, bnd_some, bndE gM19 q19a, bndE (aM37 hsd) u5, l3, bndV r1, gM37, bnd_some, bndE gM19 q19b, bndE (aM37 hsd) u6, l1, nI_add, sM37 hsd, bnd_some]
    · rw [k4] at r2 ⊢
      exact r2
    · rw [← eS]
      have x1 := mXG_put (x0 := 16) (k0 := cc) (v := S) hx4 (by decide) (len2 := fun x => if x = 16 then cc + 1 else lnM T x) (fun x hx => by
        by_cases e : x = 16
        · right; refine ⟨e, by rw [if_pos e]; exact Nat.le_refl _, ?_⟩
          rw [e]; show cc ≤ T 3 0; omega
        · left; rw [if_neg e]; exact Nat.le_refl _)
      have x1 : mXG (up2 I4 552 (6 * sd + cc) (nI S)) sd (up2 T 16 cc S) (fun x => if x = 16 then cc + 1 else lnM T x) := x1
      have xl := mXG_put (x0 := 3) (k0 := 0) (v := cc + 1) (x1.to (I2 := I6) fun a k q => r3 a k (by omega) (by omega) (by omega)) (by decide) (len2 := lnM (up2 (up2 T 16 cc S) 3 0 (cc + 1))) (fun x hx => by
        left
        have e1 : (up2 (up2 T 16 cc S) 3 0 (cc + 1)) 3 0 = cc + 1 := up2_s
        by_cases e : x = 16
        · rw [if_pos e, e]; show (up2 (up2 T 16 cc S) 3 0 (cc + 1)) 3 0 ≤ cc + 1; rw [e1]; exact Nat.le_refl _
        · rw [if_neg e]
          have ne : ∀ y, y ≠ 3 → y ≠ 16 → (up2 (up2 T 16 cc S) 3 0 (cc + 1)) y 0 = T y 0 := fun y q q0 => by rw [up2_o q, up2_o q0]
          unfold lnM
          rw [ne 0 (by decide) (by decide), ne 1 (by decide) (by decide), ne 2 (by decide) (by decide)]
          by_cases y1 : x < 6
          · rw [if_pos y1, if_pos y1]; exact Nat.le_refl _
          rw [if_neg y1, if_neg y1]
          by_cases y2 : x = 6
          · rw [if_pos y2, if_pos y2]; exact Nat.le_refl _
          rw [if_neg y2, if_neg y2]
          by_cases y3 : x < 10
          · rw [if_pos y3, if_pos y3]; exact Nat.le_refl _
          rw [if_neg y3, if_neg y3]
          by_cases y4 : x = 10
          · rw [if_pos y4, if_pos y4]; exact Nat.le_refl _
          rw [if_neg y4, if_neg y4]
          by_cases y5 : x = 11
          · rw [if_pos y5, if_pos y5]; exact Nat.le_refl _
          rw [if_neg y5, if_neg y5]
          by_cases y6 : x < 15
          · rw [if_pos y6, if_pos y6]; exact Nat.le_refl _
          rw [if_neg y6, if_neg y6]
          by_cases y7 : x = 15
          · rw [if_pos y7, if_pos y7]; exact Nat.le_refl _
          · exact absurd y7 (by omega))
      have xl : mXG (up2 I6 551 (1 * sd + 0) (nI (cc + 1))) sd (up2 (up2 T 16 cc S) 3 0 (cc + 1)) (lnM (up2 (up2 T 16 cc S) 3 0 (cc + 1))) := xl
      rw [Nat.one_mul, Nat.add_zero] at xl
      exact xl
  · refine ⟨I4, J, run _ ?_, m2.2.1, fun y => absurd y z, fmP.T fr, fun _ _ _ => rfl⟩
    rw [e_M_tellPost_75, L0, l4, bndV m1, bndE gM13 h13, if_pos (nI_lt (by omega) (by omega))]
end
