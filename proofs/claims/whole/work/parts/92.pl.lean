/-! PROMISES 28, 29, 30: FROM, LIKELIEST, WHOSE -/
theorem bitN {p : Nat → Prop} [DecidablePred p] {j : Nat} : ∀ n, j < n → sumN (fun a => if p a then 2 ^ a else 0) n / 2 ^ j % 2 = if p j then 1 else 0
  | 0, h => absurd h (Nat.not_lt_zero _)
  | n + 1, h => by
    have hlt := sumN_pow_lt (f := fun a => if p a then 2 ^ a else 0) n (fun k _ => by split <;> first | exact Nat.le_refl _ | exact Nat.zero_le _)
    show (sumN (fun a => if p a then 2 ^ a else 0) n + if p n then 2 ^ n else 0) / 2 ^ j % 2 = _
    rcases Nat.lt_or_ge j n with q | q
    · have ih := bitN (p := p) n q
      by_cases hc : p n
      · rw [if_pos hc, show (2 : Nat) ^ n = 2 ^ j * (2 * 2 ^ (n - j - 1)) by rw [← Nat.pow_succ', ← Nat.pow_add]; congr 1; omega, Nat.add_mul_div_left _ _ (Nat.two_pow_pos j), Nat.add_mul_mod_self_left]
        exact ih
      · rw [if_neg hc, Nat.add_zero]; exact ih
    · have e : j = n := by omega
      subst e
      by_cases hc : p j
      · rw [if_pos hc, if_pos hc, Nat.add_div_right _ (Nat.two_pow_pos j), Nat.div_eq_of_lt hlt]
      · rw [if_neg hc, if_neg hc, Nat.add_zero, Nat.div_eq_of_lt hlt]
theorem or_add {s j : Nat} (h : s < 2 ^ j) : s ||| 1 * 2 ^ j = s + 2 ^ j := by
  have := Nat.two_pow_add_eq_or_of_lt h 1
  rw [Nat.mul_one] at this
  rw [Nat.one_mul, Nat.or_comm, ← this, Nat.add_comm]
section
variable {α : Type} {t e : α} {a b : Nat}
theorem qLltP [h : Decidable (lN a < lN b)] (h1 : a < b) (hb : b < 9223372036854775808) : (@ite α (lN a < lN b) h t e) = t := if_pos ((pk_lLT (by omega) (by omega)).mpr h1)
theorem qLltN [h : Decidable (lN a < lN b)] (h1 : b ≤ a) (ha : a < 9223372036854775808) : (@ite α (lN a < lN b) h t e) = e := if_neg fun q => by
  have := (pk_lLT (by omega) (by omega)).mp q
  omega
end
def wtN (T : Nat → Nat → Nat) (tf : Nat → Nat) (i j : Nat) : Nat := T 10 (7 * i + tf j)
def prC (T : Nat → Nat → Nat) (tf : Nat → Nat) (i : Nat) : Nat → Nat
  | 0 => 1
  | j + 1 => prC T tf i j * if j < 6 then wtN T tf i j else min 1 (wtN T tf i j)
def posB (T : Nat → Nat → Nat) (tf : Nat → Nat) (i : Nat) : Nat → Bool
  | 0 => true
  | j + 1 => posB T tf i j && decide (0 < wtN T tf i j)
def fromN (T : Nat → Nat → Nat) (tf : Nat → Nat) (k n : Nat) : Nat := sumN (fun i => if posB T tf i k = true then 2 ^ i else 0) n
def likJ (T : Nat → Nat → Nat) (tf : Nat → Nat) (k : Nat) : Nat → Nat
  | 0 => 0
  | j + 1 => if posB T tf j k = true ∧ (likJ T tf k j = 0 ∨ prC T tf (likJ T tf k j - 1) k * allN T j ^ k < prC T tf j k * allN T (likJ T tf k j - 1) ^ k) then j + 1 else likJ T tf k j
def whoJ (T : Nat → Nat → Nat) (tf : Nat → Nat) (r : Nat → Int32) (k : Nat) : Nat → Nat
  | 0 => 0
  | j + 1 => if posB T tf j k = true then whoJ T tf r k j ||| lodN (T 2 0) r (nI j) else whoJ T tf r k j
section
variable {T : Nat → Nat → Nat} {tf : Nat → Nat} {i k : Nat}
theorem prC_pos : ∀ k, 0 < prC T tf i k ↔ posB T tf i k = true
  | 0 => by unfold prC posB; decide
  | k + 1 => by
    have ih := prC_pos k
    unfold prC posB
    rw [Bool.and_eq_true, decide_eq_true_eq, ← ih]
    constructor
    · intro h
      refine ⟨Nat.pos_of_ne_zero fun z => ?_, Nat.pos_of_ne_zero fun z => ?_⟩
      · rw [z, Nat.zero_mul] at h; exact absurd h (Nat.lt_irrefl _)
      · rw [z] at h
        have e : (if k < 6 then 0 else min 1 0) = 0 := by split <;> rfl
        rw [e, Nat.mul_zero] at h; exact absurd h (Nat.lt_irrefl _)
    · rintro ⟨h1, h2⟩
      refine Nat.mul_pos h1 ?_
      split <;> omega
theorem prC_le (hB : tB T) (hi : i < 5) : ∀ k, (∀ j, j < k → tf j < 7) → prC T tf i k ≤ 9 ^ (min k 6)
  | 0, _ => by show 1 ≤ 9 ^ (min 0 6); decide
  | k + 1, h => by
    have ih := prC_le hB hi k (fun j hj => h j (by omega))
    have hw : wtN T tf i k ≤ 9 := wS_le hB hi (h k (by omega))
    unfold prC
    by_cases h6 : k < 6
    · rw [if_pos h6, show min (k + 1) 6 = k + 1 by omega, Nat.pow_succ]
      rw [show min k 6 = k by omega] at ih
      exact Nat.mul_le_mul ih hw
    · rw [if_neg h6, show min (k + 1) 6 = 6 by omega]
      rw [show min k 6 = 6 by omega] at ih
      have := Nat.mul_le_mul ih (Nat.min_le_left 1 (wtN T tf i k))
      omega
end
section
variable {I : Nat → Nat → Int32} {J : Nat → Nat → Int64} {tx sp lv : Nat} {bt tt : Value} {X : pG} {T : Nat → Nat → Nat} {LW : Nat → Option Lw} {r : Nat → Int32} {hn : Nat} {H : Nat → Nat → Int32} {hd : Nat → Option (Nat → Int32)} {tn : Nat} {tf : Nat → Nat} {bn : Nat} {bf : Nat → Nat} {pl : Int32}
theorem D_weightsOf_lp {i k : Nat} (h : RC I J tx sp bt T LW r hn H hd tn tf bn bf pl) (hw : wI T r hn H hd tn tf bn bf) (hi : i < T 1 0) (hk : k ≤ tn) : ∀ (n j : Nat) (w4 w6 w7 : Value), j + n = k → Sm X k_D_weightsOf 5 [.ref 0, .int (nI i), .int (nI k), .long (lN (prC T tf i j)), w4, .int (nI j), w6, w7] [] (HH I J tx sp bt tt) = some (.long (lN (prC T tf i k)), HH I J tx sp bt tt) := by
  intro n
  have ht := h.tx_
  have hi5 := hw.B.2.1
  have h7 := hw.B.1
  have h20 := hw.2.2.2.1.1
  induction n with
  | zero =>
    intro j w4 w6 w7 hj
    have hj : j = k := hj
    subst hj
    rw [e_D_weightsOf_5]; (try simp only [L1, L6]); simp (disch := omega) only [L1, L6, gD14, gD6, gD13, aD13, ↓qLtP, ↓qLtN, ↓qEqP, ↓qEqN, ↓qLtGN, ↓qLtNG, ↓qLtGGP, ↓qLtGGN, ↓qEqNG, ↓qEqGN, ↓qEqGGP, ↓qEqGGN, bnd_some, pAI_s, pAV_some, pAJ_some, pAR_some, iPos, iNeg, pNar10, pNar11, cnd_t, cnd_f, ltN, eqN, ltGN, ltNG, ltGG, eqNG, eqGN, eqGG, addNG, addGN, subNG, subGN, divN, remN, remN2, nI_add, nI_mul, pk_sub, subNn, if_true, if_false, nG_]
  | succ n ih =>
    intro j w4 w6 w7 hj
    have htf := hw.2.2.2.1.2 j (by omega)
    have hw9 : T 10 (7 * i + tf j) ≤ 9 := wS_le hw.B (show i < 5 by omega) (by omega)
    by_cases h6 : j < 6
    · have es : prC T tf i j * T 10 (7 * i + tf j) = prC T tf i (j + 1) := by
        show _ = prC T tf i j * if j < 6 then _ else _
        rw [if_pos h6]; rfl
      refine Eq.trans ?_ (ih (j + 1) (.retAddr 0) (.long (lN (T 10 (7 * i + tf j)))) (.retAddr 0) (by omega))
      rw [e_D_weightsOf_5]; (try simp only [L1, L6]); simp (disch := omega) only [L1, L6, gD14, gD6, gD13, aD13, ↓qLtP, ↓qLtN, ↓qEqP, ↓qEqN, ↓qLtGN, ↓qLtNG, ↓qLtGGP, ↓qLtGGN, ↓qEqNG, ↓qEqGN, ↓qEqGGP, ↓qEqGGN, bnd_some, pAI_s, pAV_some, pAJ_some, pAR_some, iPos, iNeg, pNar10, pNar11, cnd_t, cnd_f, ltN, eqN, ltGN, ltNG, ltGG, eqNG, eqGN, eqGG, addNG, addGN, subNG, subGN, divN, remN, remN2, nI_add, nI_mul, pk_sub, subNn, if_true, if_false, nG_, h.tn_, h.tf_, Tx_weightOf_ok ht h.Te, ↓qCgtP, ↓qCgtN, ↓qCeqP, ↓qCeqN, ↓qLeqP, ↓qLeqN, LL0, LL1, lremN, lremN2, ldivN, lmulN, laddN, nI_lN, lN_i, es]
    · have es : prC T tf i j * min 1 (T 10 (7 * i + tf j)) = prC T tf i (j + 1) := by
        show _ = prC T tf i j * if j < 6 then _ else _
        rw [if_neg h6]; rfl
      refine Eq.trans ?_ (ih (j + 1) (.retAddr 0) (.long (lN (T 10 (7 * i + tf j)))) (.retAddr 0) (by omega))
      by_cases h1 : 1 < T 10 (7 * i + tf j)
      · rw [Nat.min_eq_left (by omega)] at es
        rw [e_D_weightsOf_5]; (try simp only [L1, L6]); simp (disch := omega) only [L1, L6, gD14, gD6, gD13, aD13, ↓qLtP, ↓qLtN, ↓qEqP, ↓qEqN, ↓qLtGN, ↓qLtNG, ↓qLtGGP, ↓qLtGGN, ↓qEqNG, ↓qEqGN, ↓qEqGGP, ↓qEqGGN, bnd_some, pAI_s, pAV_some, pAJ_some, pAR_some, iPos, iNeg, pNar10, pNar11, cnd_t, cnd_f, ltN, eqN, ltGN, ltNG, ltGG, eqNG, eqGN, eqGG, addNG, addGN, subNG, subGN, divN, remN, remN2, nI_add, nI_mul, pk_sub, subNn, if_true, if_false, nG_, h.tn_, h.tf_, Tx_weightOf_ok ht h.Te, ↓qCgtP, ↓qCgtN, ↓qCeqP, ↓qCeqN, ↓qLeqP, ↓qLeqN, LL0, LL1, lremN, lremN2, ldivN, lmulN, laddN, nI_lN, lN_i, ↓qLltP, ↓qLltN, qLltP, qLltN, es]
      · rw [Nat.min_eq_right (by omega)] at es
        rw [e_D_weightsOf_5]; (try simp only [L1, L6]); simp (disch := omega) only [L1, L6, gD14, gD6, gD13, aD13, ↓qLtP, ↓qLtN, ↓qEqP, ↓qEqN, ↓qLtGN, ↓qLtNG, ↓qLtGGP, ↓qLtGGN, ↓qEqNG, ↓qEqGN, ↓qEqGGP, ↓qEqGGN, bnd_some, pAI_s, pAV_some, pAJ_some, pAR_some, iPos, iNeg, pNar10, pNar11, cnd_t, cnd_f, ltN, eqN, ltGN, ltNG, ltGG, eqNG, eqGN, eqGG, addNG, addGN, subNG, subGN, divN, remN, remN2, nI_add, nI_mul, pk_sub, subNn, if_true, if_false, nG_, h.tn_, h.tf_, Tx_weightOf_ok ht h.Te, ↓qCgtP, ↓qCgtN, ↓qCeqP, ↓qCeqN, ↓qLeqP, ↓qLeqN, LL0, LL1, lremN, lremN2, ldivN, lmulN, laddN, nI_lN, lN_i, ↓qLltP, ↓qLltN, qLltP, qLltN, es]
theorem D_weightsOf_ok {i k : Nat} (h : RC I J tx sp bt T LW r hn H hd tn tf bn bf pl) (hw : wI T r hn H hd tn tf bn bf) (hi : i < T 1 0) (hk : k ≤ tn) : Call X k_D_weightsOf [.ref 0, .int (nI i), .int (nI k)] (HH I J tx sp bt tt) = some (.long (lN (prC T tf i k)), HH I J tx sp bt tt) := by
  rw [C_D_weightsOf, e_D_weightsOf_0, LL1, L0]
  exact D_weightsOf_lp h hw hi hk k 0 _ _ _ (Nat.zero_add _)
theorem D_allWeightsOf_lp {i k : Nat} (h : RC I J tx sp bt T LW r hn H hd tn tf bn bf pl) (hw : wI T r hn H hd tn tf bn bf) (hi : i < T 1 0) (hk : k ≤ 6) : ∀ (n j : Nat) (w4 : Value), j + n = k → Sm X k_D_allWeightsOf 5 [.ref 0, .int (nI i), .int (nI k), .long (lN (allN T i ^ j)), w4, .int (nI j)] [] (HH I J tx sp bt tt) = some (.long (lN (allN T i ^ k)), HH I J tx sp bt tt) := by
  intro n
  have ht := h.tx_
  have hi5 := hw.B.2.1
  have hall : I (tx + 6) i = nI (allN T i) := h.Te.all hi
  have hal := allN_le hw.B (i := i) (by omega)
  induction n with
  | zero =>
    intro j w4 hj
    have hj : j = k := hj
    subst hj
    rw [e_D_allWeightsOf_5]; (try simp only [L1, L6]); simp (disch := omega) only [L1, L6, gD6, gT11 ht, aT11 ht, ↓qLtP, ↓qLtN, ↓qEqP, ↓qEqN, ↓qLtGN, ↓qLtNG, ↓qLtGGP, ↓qLtGGN, ↓qEqNG, ↓qEqGN, ↓qEqGGP, ↓qEqGGN, bnd_some, pAI_s, pAV_some, pAJ_some, pAR_some, iPos, iNeg, pNar10, pNar11, cnd_t, cnd_f, ltN, eqN, ltGN, ltNG, ltGG, eqNG, eqGN, eqGG, addNG, addGN, subNG, subGN, divN, remN, remN2, nI_add, nI_mul, pk_sub, subNn, if_true, if_false, nG_]
  | succ n ih =>
    intro j w4 hj
    have es : allN T i ^ j * allN T i = allN T i ^ (j + 1) := (Nat.pow_succ _ _).symm
    refine Eq.trans ?_ (ih (j + 1) (.retAddr 0) (by omega))
    rw [e_D_allWeightsOf_5]; (try simp only [L1, L6]); simp (disch := omega) only [L1, L6, gD6, gT11 ht, aT11 ht, ↓qLtP, ↓qLtN, ↓qEqP, ↓qEqN, ↓qLtGN, ↓qLtNG, ↓qLtGGP, ↓qLtGGN, ↓qEqNG, ↓qEqGN, ↓qEqGGP, ↓qEqGGN, bnd_some, pAI_s, pAV_some, pAJ_some, pAR_some, iPos, iNeg, pNar10, pNar11, cnd_t, cnd_f, ltN, eqN, ltGN, ltNG, ltGG, eqNG, eqGN, eqGG, addNG, addGN, subNG, subGN, divN, remN, remN2, nI_add, nI_mul, pk_sub, subNn, if_true, if_false, nG_, hall, ↓qCgtP, ↓qCgtN, ↓qCeqP, ↓qCeqN, ↓qLeqP, ↓qLeqN, LL0, LL1, lremN, lremN2, ldivN, lmulN, laddN, nI_lN, lN_i, es]
theorem D_allWeightsOf_ok {i k : Nat} (h : RC I J tx sp bt T LW r hn H hd tn tf bn bf pl) (hw : wI T r hn H hd tn tf bn bf) (hi : i < T 1 0) (hk : k ≤ 6) : Call X k_D_allWeightsOf [.ref 0, .int (nI i), .int (nI k)] (HH I J tx sp bt tt) = some (.long (lN (allN T i ^ k)), HH I J tx sp bt tt) := by
  rw [C_D_allWeightsOf, e_D_allWeightsOf_0, LL1, L0, show (1 : Nat) = allN T i ^ 0 from rfl]
  exact D_allWeightsOf_lp h hw hi hk k 0 _ (Nat.zero_add _)
theorem M_productIn_lp {i k : Nat} {bk : Bool} (h : RM I J lv T LW r hn H hd tn tf bn bf pl) (hw : wI T r hn H hd tn tf bn bf) (hi : i < T 1 0) (hk : k ≤ 6) (hkt : k ≤ tn) : ∀ (n j : Nat) (w5 : Value), j + n = k → Sm X k_M_productIn 6 [.ref 527, .int (nI i), .int (nI k), .int (bI bk), .long (lN (if bk = true then allN T i ^ j else prC T tf i j)), w5, .int (nI j)] [] (HH I J tx sp bt tt) = some (.long (lN (if bk = true then allN T i ^ k else prC T tf i k)), HH I J tx sp bt tt) := by
  intro n
  have hi5 := hw.B.2.1
  have h7 := hw.B.1
  have h20 := hw.2.2.2.1.1
  have hal := allN_le hw.B (i := i) (by omega)
  induction n with
  | zero =>
    intro j w5 hj
    have hj : j = k := hj
    subst hj
    rw [e_M_productIn_6]; (try simp only [L0, L1]); simp (disch := omega) only [L0, L1, gM72, aM72, ↓qLtP, ↓qLtN, ↓qEqP, ↓qEqN, ↓qLtGN, ↓qLtNG, ↓qLtGGP, ↓qLtGGN, ↓qEqNG, ↓qEqGN, ↓qEqGGP, ↓qEqGGN, bnd_some, pAI_s, pAV_some, pAJ_some, pAR_some, iPos, iNeg, pNar10, pNar11, cnd_t, cnd_f, ltN, eqN, ltGN, ltNG, ltGG, eqNG, eqGN, eqGG, addNG, addGN, subNG, subGN, divN, remN, remN2, nI_add, nI_mul, pk_sub, subNn, if_true, if_false, nG_]
  | succ n ih =>
    intro j w5 hj
    have htf := hw.2.2.2.1.2 j (by omega)
    have hw9 : T 10 (7 * i + tf j) ≤ 9 := wS_le hw.B (show i < 5 by omega) (by omega)
    refine Eq.trans ?_ (ih (j + 1) (.retAddr 0) (by omega))
    cases bk
    · have es : prC T tf i j * T 10 (7 * i + tf j) = prC T tf i (j + 1) := by
        show _ = prC T tf i j * if j < 6 then _ else _
        rw [if_pos (by omega)]; rfl
      rw [if_neg (by decide), if_neg (by decide), bI_f]
      rw [e_M_productIn_6]; (try simp only [L0, L1]); simp (disch := omega) only [L0, L1, gM72, aM72, ↓qLtP, ↓qLtN, ↓qEqP, ↓qEqN, ↓qLtGN, ↓qLtNG, ↓qLtGGP, ↓qLtGGN, ↓qEqNG, ↓qEqGN, ↓qEqGGP, ↓qEqGGN, bnd_some, pAI_s, pAV_some, pAJ_some, pAR_some, iPos, iNeg, pNar10, pNar11, cnd_t, cnd_f, ltN, eqN, ltGN, ltNG, ltGG, eqNG, eqGN, eqGG, addNG, addGN, subNG, subGN, divN, remN, remN2, nI_add, nI_mul, pk_sub, subNn, if_true, if_false, nG_, h.tf_, M_weightIn_ok h.Te, ↓qCgtP, ↓qCgtN, ↓qCeqP, ↓qCeqN, ↓qLeqP, ↓qLeqN, LL0, LL1, lremN, lremN2, ldivN, lmulN, laddN, nI_lN, lN_i, es]
    · have es : allN T i ^ j * allN T i = allN T i ^ (j + 1) := (Nat.pow_succ _ _).symm
      rw [if_pos rfl, if_pos rfl, bI_t]
      rw [e_M_productIn_6]; (try simp only [L0, L1]); simp (disch := omega) only [L0, L1, gM72, aM72, ↓qLtP, ↓qLtN, ↓qEqP, ↓qEqN, ↓qLtGN, ↓qLtNG, ↓qLtGGP, ↓qLtGGN, ↓qEqNG, ↓qEqGN, ↓qEqGGP, ↓qEqGGN, bnd_some, pAI_s, pAV_some, pAJ_some, pAR_some, iPos, iNeg, pNar10, pNar11, cnd_t, cnd_f, ltN, eqN, ltGN, ltNG, ltGG, eqNG, eqGN, eqGG, addNG, addGN, subNG, subGN, divN, remN, remN2, nI_add, nI_mul, pk_sub, subNn, if_true, if_false, nG_, M_weightsOf_all h.Te hw.B, ↓qCgtP, ↓qCgtN, ↓qCeqP, ↓qCeqN, ↓qLeqP, ↓qLeqN, LL0, LL1, lremN, lremN2, ldivN, lmulN, laddN, nI_lN, lN_i, es]
theorem M_productIn_ok {i k : Nat} {bk : Bool} (h : RM I J lv T LW r hn H hd tn tf bn bf pl) (hw : wI T r hn H hd tn tf bn bf) (hi : i < T 1 0) (hk : k ≤ 6) (hkt : k ≤ tn) : Call X k_M_productIn [.ref 527, .int (nI i), .int (nI k), .int (bI bk)] (HH I J tx sp bt tt) = some (.long (lN (if bk = true then allN T i ^ k else prC T tf i k)), HH I J tx sp bt tt) := by
  rw [C_M_productIn, e_M_productIn_0, LL1, L0]
  have := M_productIn_lp (X := X) (tx := tx) (sp := sp) (bt := bt) (tt := tt) (bk := bk) h hw hi hk hkt k 0 (.retAddr 0) (Nat.zero_add _)
  rw [show (if bk = true then allN T i ^ 0 else prC T tf i 0) = 1 by cases bk <;> rfl] at this
  exact this
theorem fromN_lt {k n : Nat} : fromN T tf k n < 2 ^ n := sumN_pow_lt n (fun k _ => by split <;> first | exact Nat.le_refl _ | exact Nat.zero_le _)
theorem fromN_s {k n : Nat} : fromN T tf k (n + 1) = fromN T tf k n + if posB T tf n k = true then 2 ^ n else 0 := rfl
theorem D_innsOf_lp {k : Nat} (h : RC I J tx sp bt T LW r hn H hd tn tf bn bf pl) (hw : wI T r hn H hd tn tf bn bf) (hk : k ≤ tn) : ∀ (n j : Nat), j + n = T 1 0 → Sm X k_D_innsOf 4 [.ref 0, .int (nI k), .int (nI (fromN T tf k j)), .int (nI j)] [] (HH I J tx sp bt tt) = some (.int (nI (fromN T tf k (T 1 0))), HH I J tx sp bt tt) := by
  intro n
  have ht := h.tx_
  have hi5 := hw.B.2.1
  have h7 := hw.B.1
  have h20 := hw.2.2.2.1.1
  induction n with
  | zero =>
    intro j hj
    have hj : j = T 1 0 := hj
    subst hj
    rw [e_D_innsOf_4]; (try simp only [L0, L1, L31]); simp (disch := omega) only [L0, L1, L31, gD6, gT1 ht, ↓qLtP, ↓qLtN, ↓qEqP, ↓qEqN, ↓qLtGN, ↓qLtNG, ↓qLtGGP, ↓qLtGGN, ↓qEqNG, ↓qEqGN, ↓qEqGGP, ↓qEqGGN, bnd_some, pAI_s, pAV_some, pAJ_some, pAR_some, iPos, iNeg, pNar10, pNar11, cnd_t, cnd_f, ltN, eqN, ltGN, ltNG, ltGG, eqNG, eqGN, eqGG, addNG, addGN, subNG, subGN, divN, remN, remN2, nI_add, nI_mul, pk_sub, subNn, if_true, if_false, nG_, h.Te.inn]
  | succ n ih =>
    intro j hj
    have hp : (2 : Nat) ^ j ≤ 2 ^ 5 := Nat.pow_le_pow_right (by decide) (by omega)
    have hlt := @fromN_lt T tf k j
    have hor := or_add hlt
    have es := @fromN_s T tf k j
    have hle := prC_le hw.B (i := j) (tf := tf) (show j < 5 by omega) k (fun q hq => by have := hw.2.2.2.1.2 q (by omega); omega)
    have h96 : (9 : Nat) ^ (min k 6) ≤ 9 ^ 6 := Nat.pow_le_pow_right (by decide) (Nat.min_le_right _ _)
    have hpos := prC_pos (T := T) (tf := tf) (i := j) k
    have hwo := D_weightsOf_ok (X := X) (tt := tt) h hw (show j < T 1 0 by omega) hk
    refine Eq.trans ?_ (ih (j + 1) (by omega))
    by_cases hc : posB T tf j k = true
    · rw [if_pos hc] at es
      have hq := hpos.mpr hc
      rw [es, ← hor]
      rw [e_D_innsOf_4]; (try simp only [L0, L1, L31]); simp (disch := omega) only [L0, L1, L31, gD6, gT1 ht, ↓qLtP, ↓qLtN, ↓qEqP, ↓qEqN, ↓qLtGN, ↓qLtNG, ↓qLtGGP, ↓qLtGGN, ↓qEqNG, ↓qEqGN, ↓qEqGGP, ↓qEqGGN, bnd_some, pAI_s, pAV_some, pAJ_some, pAR_some, iPos, iNeg, pNar10, pNar11, cnd_t, cnd_f, ltN, eqN, ltGN, ltNG, ltGG, eqNG, eqGN, eqGG, addNG, addGN, subNG, subGN, divN, remN, remN2, nI_add, nI_mul, pk_sub, subNn, if_true, if_false, nG_, h.Te.inn, hwo, ↓qCgtP, ↓qCgtN, ↓qCeqP, ↓qCeqN, ↓qLeqP, ↓qLeqN, LL0, LL1, lremN, lremN2, ldivN, lmulN, laddN, nI_lN, lN_i, qCgtP, qCgtN, shlN, orN]
    · rw [if_neg hc] at es
      have hq : prC T tf j k = 0 := by
        rcases Nat.eq_zero_or_pos (prC T tf j k) with z | z
        · exact z
        · exact absurd (hpos.mp z) hc
      rw [es]
      rw [e_D_innsOf_4]; (try simp only [L0, L1, L31]); simp (disch := omega) only [L0, L1, L31, gD6, gT1 ht, ↓qLtP, ↓qLtN, ↓qEqP, ↓qEqN, ↓qLtGN, ↓qLtNG, ↓qLtGGP, ↓qLtGGN, ↓qEqNG, ↓qEqGN, ↓qEqGGP, ↓qEqGGN, bnd_some, pAI_s, pAV_some, pAJ_some, pAR_some, iPos, iNeg, pNar10, pNar11, cnd_t, cnd_f, ltN, eqN, ltGN, ltNG, ltGG, eqNG, eqGN, eqGG, addNG, addGN, subNG, subGN, divN, remN, remN2, nI_add, nI_mul, pk_sub, subNn, if_true, if_false, nG_, h.Te.inn, hwo, hq, ↓qCgtP, ↓qCgtN, ↓qCeqP, ↓qCeqN, ↓qLeqP, ↓qLeqN, LL0, LL1, lremN, lremN2, ldivN, lmulN, laddN, nI_lN, lN_i, qCgtP, qCgtN, Nat.add_zero]
theorem M_fromBy_23_ok {k i x2 : Nat} (h : RM I J lv T LW r hn H hd tn tf bn bf pl) (hw : wI T r hn H hd tn tf bn bf) (hk : k ≤ tn) (hi : i < T 1 0) : ∀ (n j : Nat), j + n = k → Sm X k_M_fromBy 23 [.ref 527, .int (nI k), .int (nI x2), .int (nI i), .int (nI (posB T tf i j).toNat), .int (nI j)] [] (HH I J tx sp bt tt) = Sm X k_M_fromBy 23 [.ref 527, .int (nI k), .int (nI x2), .int (nI i), .int (nI (posB T tf i k).toNat), .int (nI k)] [] (HH I J tx sp bt tt) := by
  intro n
  have hi5 := hw.B.2.1
  have h7 := hw.B.1
  have h20 := hw.2.2.2.1.1
  induction n with
  | zero =>
    intro j hj
    have hj : j = k := hj
    rw [hj]
  | succ n ih =>
    intro j hj
    have htf := hw.2.2.2.1.2 j (by omega)
    have hw9 : T 10 (7 * i + tf j) ≤ 9 := wS_le hw.B (show i < 5 by omega) (by omega)
    have es : posB T tf i (j + 1) = (posB T tf i j && decide (0 < T 10 (7 * i + tf j))) := rfl
    refine Eq.trans ?_ (ih (j + 1) (by omega))
    rw [es]
    by_cases hz : T 10 (7 * i + tf j) = 0
    · rw [decide_eq_false (by omega), Bool.and_false, Bool.toNat_false]
      rw [e_M_fromBy_23]; (try simp only [L0, L1, L31]); simp (disch := omega) only [L0, L1, L31, gM72, aM72, ↓qLtP, ↓qLtN, ↓qEqP, ↓qEqN, ↓qLtGN, ↓qLtNG, ↓qLtGGP, ↓qLtGGN, ↓qEqNG, ↓qEqGN, ↓qEqGGP, ↓qEqGGN, bnd_some, pAI_s, pAV_some, pAJ_some, pAR_some, iPos, iNeg, pNar10, pNar11, cnd_t, cnd_f, ltN, eqN, ltGN, ltNG, ltGG, eqNG, eqGN, eqGG, addNG, addGN, subNG, subGN, divN, remN, remN2, nI_add, nI_mul, pk_sub, subNn, if_true, if_false, nG_, h.tf_, M_weightIn_ok h.Te, hz]
    · rw [decide_eq_true (by omega), Bool.and_true]
      rw [e_M_fromBy_23]; (try simp only [L0, L1, L31]); simp (disch := omega) only [L0, L1, L31, gM72, aM72, ↓qLtP, ↓qLtN, ↓qEqP, ↓qEqN, ↓qLtGN, ↓qLtNG, ↓qLtGGP, ↓qLtGGN, ↓qEqNG, ↓qEqGN, ↓qEqGGP, ↓qEqGGN, bnd_some, pAI_s, pAV_some, pAJ_some, pAR_some, iPos, iNeg, pNar10, pNar11, cnd_t, cnd_f, ltN, eqN, ltGN, ltNG, ltGG, eqNG, eqGN, eqGG, addNG, addGN, subNG, subGN, divN, remN, remN2, nI_add, nI_mul, pk_sub, subNn, if_true, if_false, nG_, h.tf_, M_weightIn_ok h.Te]
theorem M_fromBy_lp {k : Nat} (h : RM I J lv T LW r hn H hd tn tf bn bf pl) (hw : wI T r hn H hd tn tf bn bf) (hk : k ≤ tn) : ∀ (n j : Nat) (w4 w5 : Value), j + n = T 1 0 → Sm X k_M_fromBy 4 [.ref 527, .int (nI k), .int (nI (fromN T tf k j)), .int (nI j), w4, w5] [] (HH I J tx sp bt tt) = some (.int (nI (fromN T tf k (T 1 0))), HH I J tx sp bt tt) := by
  intro n
  have hi5 := hw.B.2.1
  have h7 := hw.B.1
  have h20 := hw.2.2.2.1.1
  have hlt := h.Te.lt
  induction n with
  | zero =>
    intro j w4 w5 hj
    have hj : j = T 1 0 := hj
    subst hj
    rw [e_M_fromBy_4]; (try simp only [L0, L1]); simp (disch := omega) only [L0, L1, gM26, aM26, gM18, ↓qLtP, ↓qLtN, ↓qEqP, ↓qEqN, ↓qLtGN, ↓qLtNG, ↓qLtGGP, ↓qLtGGN, ↓qEqNG, ↓qEqGN, ↓qEqGGP, ↓qEqGGN, bnd_some, pAI_s, pAV_some, pAJ_some, pAR_some, iPos, iNeg, pNar10, pNar11, cnd_t, cnd_f, ltN, eqN, ltGN, ltNG, ltGG, eqNG, eqGN, eqGG, addNG, addGN, subNG, subGN, divN, remN, remN2, nI_add, nI_mul, pk_sub, subNn, if_true, if_false, nG_, h.Te.live, h.Te.inn]
  | succ n ih =>
    intro j w4 w5 hj
    have hp : (2 : Nat) ^ j ≤ 2 ^ 5 := Nat.pow_le_pow_right (by decide) (by omega)
    have hltj := @fromN_lt T tf k j
    have hor := or_add hltj
    have es := @fromN_s T tf k j
    have e23 := M_fromBy_23_ok (X := X) (tx := tx) (sp := sp) (bt := bt) (tt := tt) (x2 := fromN T tf k j) h hw hk (show j < T 1 0 by omega) k 0 (Nat.zero_add _)
    have b0 : Sm X k_M_fromBy 4 [.ref 527, .int (nI k), .int (nI (fromN T tf k j)), .int (nI j), w4, w5] [] (HH I J tx sp bt tt) = Sm X k_M_fromBy 23 [.ref 527, .int (nI k), .int (nI (fromN T tf k j)), .int (nI j), .int (nI 1), .int (nI 0)] [] (HH I J tx sp bt tt) := by
      rw [e_M_fromBy_4]; (try simp only [L0, L1]); simp (disch := omega) only [L0, L1, gM26, aM26, gM18, ↓qLtP, ↓qLtN, ↓qEqP, ↓qEqN, ↓qLtGN, ↓qLtNG, ↓qLtGGP, ↓qLtGGN, ↓qEqNG, ↓qEqGN, ↓qEqGGP, ↓qEqGGN, bnd_some, pAI_s, pAV_some, pAJ_some, pAR_some, iPos, iNeg, pNar10, pNar11, cnd_t, cnd_f, ltN, eqN, ltGN, ltNG, ltGG, eqNG, eqGN, eqGG, addNG, addGN, subNG, subGN, divN, remN, remN2, nI_add, nI_mul, pk_sub, subNn, if_true, if_false, nG_, h.Te.live, h.Te.inn]
    refine b0.trans (Eq.trans e23 ?_)
    cases hc : posB T tf j k
    · rw [hc, if_neg (by decide)] at es
      refine Eq.trans ?_ (ih (j + 1) (.int (nI 0)) (.int (nI k)) (by omega))
      rw [es, Bool.toNat_false]
      rw [e_M_fromBy_23]; (try simp only [L0, L1, L31]); simp (disch := omega) only [L0, L1, L31, gM72, aM72, ↓qLtP, ↓qLtN, ↓qEqP, ↓qEqN, ↓qLtGN, ↓qLtNG, ↓qLtGGP, ↓qLtGGN, ↓qEqNG, ↓qEqGN, ↓qEqGGP, ↓qEqGGN, bnd_some, pAI_s, pAV_some, pAJ_some, pAR_some, iPos, iNeg, pNar10, pNar11, cnd_t, cnd_f, ltN, eqN, ltGN, ltNG, ltGG, eqNG, eqGN, eqGG, addNG, addGN, subNG, subGN, divN, remN, remN2, nI_add, nI_mul, pk_sub, subNn, if_true, if_false, nG_, Nat.add_zero]
    · rw [hc, if_pos rfl] at es
      refine Eq.trans ?_ (ih (j + 1) (.int (nI 1)) (.int (nI k)) (by omega))
      rw [es, ← hor, Bool.toNat_true]
      rw [e_M_fromBy_23]; (try simp only [L0, L1, L31]); simp (disch := omega) only [L0, L1, L31, gM72, aM72, ↓qLtP, ↓qLtN, ↓qEqP, ↓qEqN, ↓qLtGN, ↓qLtNG, ↓qLtGGP, ↓qLtGGN, ↓qEqNG, ↓qEqGN, ↓qEqGGP, ↓qEqGGN, bnd_some, pAI_s, pAV_some, pAJ_some, pAR_some, iPos, iNeg, pNar10, pNar11, cnd_t, cnd_f, ltN, eqN, ltGN, ltNG, ltGG, eqNG, eqGN, eqGG, addNG, addGN, subNG, subGN, divN, remN, remN2, nI_add, nI_mul, pk_sub, subNn, if_true, if_false, nG_, shlN, orN]
end
