/-! NUMBERS AS nI, AND STEPS OF THE MACHINE, FOR simp WITH omega -/
theorem L0 : (0 : Int32) = nI 0 := Int32.toBitVec_inj.mp rfl
theorem L1 : (1 : Int32) = nI 1 := Int32.toBitVec_inj.mp rfl
theorem L2 : (2 : Int32) = nI 2 := Int32.toBitVec_inj.mp rfl
theorem L3 : (3 : Int32) = nI 3 := Int32.toBitVec_inj.mp rfl
theorem L4 : (4 : Int32) = nI 4 := Int32.toBitVec_inj.mp rfl
theorem L5 : (5 : Int32) = nI 5 := Int32.toBitVec_inj.mp rfl
theorem L6 : (6 : Int32) = nI 6 := Int32.toBitVec_inj.mp rfl
theorem L7 : (7 : Int32) = nI 7 := Int32.toBitVec_inj.mp rfl
theorem L8 : (8 : Int32) = nI 8 := Int32.toBitVec_inj.mp rfl
theorem L9 : (9 : Int32) = nI 9 := Int32.toBitVec_inj.mp rfl
theorem L10 : (10 : Int32) = nI 10 := Int32.toBitVec_inj.mp rfl
theorem L11 : (11 : Int32) = nI 11 := Int32.toBitVec_inj.mp rfl
theorem L12 : (12 : Int32) = nI 12 := Int32.toBitVec_inj.mp rfl
theorem L13 : (13 : Int32) = nI 13 := Int32.toBitVec_inj.mp rfl
theorem L14 : (14 : Int32) = nI 14 := Int32.toBitVec_inj.mp rfl
theorem L15 : (15 : Int32) = nI 15 := Int32.toBitVec_inj.mp rfl
theorem L16 : (16 : Int32) = nI 16 := Int32.toBitVec_inj.mp rfl
theorem L17 : (17 : Int32) = nI 17 := Int32.toBitVec_inj.mp rfl
theorem L18 : (18 : Int32) = nI 18 := Int32.toBitVec_inj.mp rfl
theorem L19 : (19 : Int32) = nI 19 := Int32.toBitVec_inj.mp rfl
theorem L20 : (20 : Int32) = nI 20 := Int32.toBitVec_inj.mp rfl
theorem L21 : (21 : Int32) = nI 21 := Int32.toBitVec_inj.mp rfl
theorem L22 : (22 : Int32) = nI 22 := Int32.toBitVec_inj.mp rfl
theorem L23 : (23 : Int32) = nI 23 := Int32.toBitVec_inj.mp rfl
theorem L24 : (24 : Int32) = nI 24 := Int32.toBitVec_inj.mp rfl
theorem L25 : (25 : Int32) = nI 25 := Int32.toBitVec_inj.mp rfl
theorem L26 : (26 : Int32) = nI 26 := Int32.toBitVec_inj.mp rfl
theorem L27 : (27 : Int32) = nI 27 := Int32.toBitVec_inj.mp rfl
theorem L28 : (28 : Int32) = nI 28 := Int32.toBitVec_inj.mp rfl
theorem L29 : (29 : Int32) = nI 29 := Int32.toBitVec_inj.mp rfl
theorem L30 : (30 : Int32) = nI 30 := Int32.toBitVec_inj.mp rfl
theorem L31 : (31 : Int32) = nI 31 := Int32.toBitVec_inj.mp rfl
theorem L32 : (32 : Int32) = nI 32 := Int32.toBitVec_inj.mp rfl
theorem L33 : (33 : Int32) = nI 33 := Int32.toBitVec_inj.mp rfl
theorem L34 : (34 : Int32) = nI 34 := Int32.toBitVec_inj.mp rfl
theorem L35 : (35 : Int32) = nI 35 := Int32.toBitVec_inj.mp rfl
theorem L36 : (36 : Int32) = nI 36 := Int32.toBitVec_inj.mp rfl
theorem L40 : (40 : Int32) = nI 40 := Int32.toBitVec_inj.mp rfl
theorem L41 : (41 : Int32) = nI 41 := Int32.toBitVec_inj.mp rfl
theorem L42 : (42 : Int32) = nI 42 := Int32.toBitVec_inj.mp rfl
theorem L43 : (43 : Int32) = nI 43 := Int32.toBitVec_inj.mp rfl
theorem L45 : (45 : Int32) = nI 45 := Int32.toBitVec_inj.mp rfl
theorem L47 : (47 : Int32) = nI 47 := Int32.toBitVec_inj.mp rfl
theorem L48 : (48 : Int32) = nI 48 := Int32.toBitVec_inj.mp rfl
theorem L49 : (49 : Int32) = nI 49 := Int32.toBitVec_inj.mp rfl
theorem L50 : (50 : Int32) = nI 50 := Int32.toBitVec_inj.mp rfl
theorem L53 : (53 : Int32) = nI 53 := Int32.toBitVec_inj.mp rfl
theorem L54 : (54 : Int32) = nI 54 := Int32.toBitVec_inj.mp rfl
theorem L57 : (57 : Int32) = nI 57 := Int32.toBitVec_inj.mp rfl
theorem L58 : (58 : Int32) = nI 58 := Int32.toBitVec_inj.mp rfl
theorem L59 : (59 : Int32) = nI 59 := Int32.toBitVec_inj.mp rfl
theorem L60 : (60 : Int32) = nI 60 := Int32.toBitVec_inj.mp rfl
theorem L61 : (61 : Int32) = nI 61 := Int32.toBitVec_inj.mp rfl
theorem L63 : (63 : Int32) = nI 63 := Int32.toBitVec_inj.mp rfl
theorem L64 : (64 : Int32) = nI 64 := Int32.toBitVec_inj.mp rfl
theorem L97 : (97 : Int32) = nI 97 := Int32.toBitVec_inj.mp rfl
theorem L99 : (99 : Int32) = nI 99 := Int32.toBitVec_inj.mp rfl
theorem L100 : (100 : Int32) = nI 100 := Int32.toBitVec_inj.mp rfl
theorem L110 : (110 : Int32) = nI 110 := Int32.toBitVec_inj.mp rfl
theorem L122 : (122 : Int32) = nI 122 := Int32.toBitVec_inj.mp rfl
theorem L130 : (130 : Int32) = nI 130 := Int32.toBitVec_inj.mp rfl
theorem L152 : (152 : Int32) = nI 152 := Int32.toBitVec_inj.mp rfl
theorem L200 : (200 : Int32) = nI 200 := Int32.toBitVec_inj.mp rfl
theorem L201 : (201 : Int32) = nI 201 := Int32.toBitVec_inj.mp rfl
theorem L203 : (203 : Int32) = nI 203 := Int32.toBitVec_inj.mp rfl
theorem L205 : (205 : Int32) = nI 205 := Int32.toBitVec_inj.mp rfl
theorem L206 : (206 : Int32) = nI 206 := Int32.toBitVec_inj.mp rfl
theorem L207 : (207 : Int32) = nI 207 := Int32.toBitVec_inj.mp rfl
theorem L208 : (208 : Int32) = nI 208 := Int32.toBitVec_inj.mp rfl
theorem L210 : (210 : Int32) = nI 210 := Int32.toBitVec_inj.mp rfl
theorem L211 : (211 : Int32) = nI 211 := Int32.toBitVec_inj.mp rfl
theorem L212 : (212 : Int32) = nI 212 := Int32.toBitVec_inj.mp rfl
theorem L213 : (213 : Int32) = nI 213 := Int32.toBitVec_inj.mp rfl
theorem L214 : (214 : Int32) = nI 214 := Int32.toBitVec_inj.mp rfl
theorem L215 : (215 : Int32) = nI 215 := Int32.toBitVec_inj.mp rfl
theorem L216 : (216 : Int32) = nI 216 := Int32.toBitVec_inj.mp rfl
theorem L222 : (222 : Int32) = nI 222 := Int32.toBitVec_inj.mp rfl
theorem L255 : (255 : Int32) = nI 255 := Int32.toBitVec_inj.mp rfl
theorem L400 : (400 : Int32) = nI 400 := Int32.toBitVec_inj.mp rfl
theorem L401 : (401 : Int32) = nI 401 := Int32.toBitVec_inj.mp rfl
theorem L420 : (420 : Int32) = nI 420 := Int32.toBitVec_inj.mp rfl
theorem L999 : (999 : Int32) = nI 999 := Int32.toBitVec_inj.mp rfl
theorem L1000 : (1000 : Int32) = nI 1000 := Int32.toBitVec_inj.mp rfl
theorem L1980 : (1980 : Int32) = nI 1980 := Int32.toBitVec_inj.mp rfl
theorem L2000 : (2000 : Int32) = nI 2000 := Int32.toBitVec_inj.mp rfl
theorem L5928 : (5928 : Int32) = nI 5928 := Int32.toBitVec_inj.mp rfl
theorem L9999 : (9999 : Int32) = nI 9999 := Int32.toBitVec_inj.mp rfl
theorem L12345 : (12345 : Int32) = nI 12345 := Int32.toBitVec_inj.mp rfl
theorem L32767 : (32767 : Int32) = nI 32767 := Int32.toBitVec_inj.mp rfl
def nG (k : Nat) : Int32 := -(nI k)
theorem nG_ (k : Nat) : -(nI k) = nG k := Int32.toBitVec_inj.mp rfl
theorem nG_toInt {k : Nat} (h : k < 2 ^ 31) : (nG k).toInt = -(k : Int) := by
  unfold nG
  rw [Int32.toInt_neg, nI_toInt h]
  exact Int.bmod_eq_of_le (by omega) (by omega)
theorem ltN {a b : Nat} (ha : a < 2147483648) (hb : b < 2147483648) : (nI a < nI b) = (a < b) := propext (nI_ltI ha hb)
theorem eqN {a b : Nat} (ha : a < 2147483648) (hb : b < 2147483648) : (nI a = nI b) = (a = b) := propext (nI_eq ha hb)
theorem ltGN {a b : Nat} (ha : 0 < a ∧ a < 2147483648) (hb : b < 2147483648) : (nG a < nI b) = True := by
  refine eq_true ?_
  rw [Int32.lt_iff_toInt_lt, nG_toInt (by omega), nI_toInt (by omega)]; omega
theorem ltNG {a b : Nat} (ha : a < 2147483648) (hb : b < 2147483648) : (nI a < nG b) = False := by
  refine eq_false ?_
  rw [Int32.lt_iff_toInt_lt, nG_toInt (by omega), nI_toInt (by omega)]; omega
theorem ltGG {a b : Nat} (ha : a < 2147483648) (hb : b < 2147483648) : (nG a < nG b) = (b < a) := by
  rw [Int32.lt_iff_toInt_lt, nG_toInt (by omega), nG_toInt (by omega)]; exact propext ⟨fun h => by omega, fun h => by omega⟩
theorem eqNG {a b : Nat} (ha : a < 2147483648) (hb : 0 < b ∧ b < 2147483648) : (nI a = nG b) = False := by
  refine eq_false ?_
  rw [← Int32.toInt_inj, nG_toInt (by omega), nI_toInt (by omega)]; omega
theorem eqGN {a b : Nat} (ha : a < 2147483648) (hb : 0 < b ∧ b < 2147483648) : (nG b = nI a) = False := by
  refine eq_false ?_
  rw [← Int32.toInt_inj, nG_toInt (by omega), nI_toInt (by omega)]; omega
theorem eqGG {a b : Nat} (ha : a < 2147483648) (hb : b < 2147483648) : (nG a = nG b) = (a = b) := by
  rw [← Int32.toInt_inj, nG_toInt (by omega), nG_toInt (by omega)]; exact propext ⟨fun h => by omega, fun h => by omega⟩
theorem addNG {a b : Nat} (h : b ≤ a) : nI a + nG b = nI (a - b) := by
  unfold nG; rw [← Int32.sub_eq_add_neg, pk_sub h]
theorem addGN {a b : Nat} (h : b ≤ a) : nG b + nI a = nI (a - b) := by
  rw [Int32.add_comm, addNG h]
theorem subNG {a b : Nat} : nI a - nG b = nI (a + b) := by
  unfold nG; rw [Int32.sub_eq_add_neg, Int32.neg_neg, nI_add]
theorem subGN {a b : Nat} (h : a ≤ b) : nG a - nG b = nI (b - a) := by
  unfold nG; rw [Int32.sub_eq_add_neg, Int32.neg_neg, Int32.add_comm, ← Int32.sub_eq_add_neg, pk_sub h]
theorem subNn {a b : Nat} (h : a < b) : nI a - nI b = nG (b - a) := by
  unfold nG; rw [← pk_sub (Nat.le_of_lt h), Int32.neg_sub]
theorem divN {a d : Nat} (ha : a < 2147483648) (h : 0 < d ∧ d < 2147483648) : nI a / nI d = nI (a / d) := pk_div ha h.1 h.2
theorem remN {a d : Nat} (ha : a < 2147483648) (h : 0 < d ∧ d < 2147483648) : nI a - nI a / nI d * nI d = nI (a % d) := pk_rem ha h.1 h.2
theorem remN2 {a d : Nat} : nI a - nI (a / d * d) = nI (a % d) := by
  rw [pk_sub (Nat.div_mul_le_self a d), show a - a / d * d = a % d from by have := Nat.div_add_mod a d; rw [Nat.mul_comm] at this; omega]
theorem bvN (a : Nat) : (nI a).toBitVec = BitVec.ofNat 32 a := rfl
theorem andN (a b : Nat) : nI a &&& nI b = nI (a &&& b) := by
  apply Int32.toBitVec_inj.mp
  rw [Int32.toBitVec_and, bvN, bvN, bvN]
  apply BitVec.eq_of_toNat_eq
  simp only [BitVec.toNat_and, BitVec.toNat_ofNat, Nat.and_mod_two_pow]
theorem orN (a b : Nat) : nI a ||| nI b = nI (a ||| b) := by
  apply Int32.toBitVec_inj.mp
  rw [Int32.toBitVec_or, bvN, bvN, bvN]
  apply BitVec.eq_of_toNat_eq
  simp only [BitVec.toNat_or, BitVec.toNat_ofNat, Nat.or_mod_two_pow]
theorem xorN (a b : Nat) : nI a ^^^ nI b = nI (a ^^^ b) := by
  apply Int32.toBitVec_inj.mp
  rw [Int32.toBitVec_xor, bvN, bvN, bvN]
  apply BitVec.eq_of_toNat_eq
  simp only [BitVec.toNat_xor, BitVec.toNat_ofNat, Nat.xor_mod_two_pow]
theorem smod_N {j : Nat} (h : j < 32) : ((nI j &&& nI 31).toBitVec.smod 32).toNat = j := by
  revert j; decide
theorem shlN {a j : Nat} (h : j < 32) (h2 : a * 2 ^ j < 4294967296) : nI a <<< (nI j &&& nI 31) = nI (a * 2 ^ j) := pk_shlN _ j (smod_N h) h2
theorem shrN {a j : Nat} (ha : a < 2147483648) (h : j < 32) : nI a >>> (nI j &&& nI 31) = nI (a / 2 ^ j) := pk_shrN ha _ j (smod_N h)
theorem iPos {α : Type} {c : Prop} [h : Decidable c] {t e : α} (hc : c) : (@ite α c h t e) = t := if_pos hc
theorem iNeg {α : Type} {c : Prop} [h : Decidable c] {t e : α} (hc : ¬ c) : (@ite α c h t e) = e := if_neg hc
section
variable {α : Type} {t e : α} {a b : Nat}
theorem qLtP [h : Decidable (nI a < nI b)] (h1 : a < b) (hb : b < 2147483648) : (@ite α (nI a < nI b) h t e) = t := if_pos (nI_lt h1 (by omega))
theorem qLtN [h : Decidable (nI a < nI b)] (h1 : b ≤ a) (ha : a < 2147483648) : (@ite α (nI a < nI b) h t e) = e := if_neg (nI_nlt h1 (by omega))
theorem qEqP [h : Decidable (nI a = nI b)] (h1 : a = b) : (@ite α (nI a = nI b) h t e) = t := if_pos (by rw [h1])
theorem qEqN [h : Decidable (nI a = nI b)] (h1 : a ≠ b) (ha : a < 2147483648) (hb : b < 2147483648) : (@ite α (nI a = nI b) h t e) = e := if_neg (fun q => h1 ((nI_eq (by omega) (by omega)).mp q))
theorem qLtGN [h : Decidable (nG a < nI b)] (h1 : 0 < a ∧ a < 2147483648) (hb : b < 2147483648) : (@ite α (nG a < nI b) h t e) = t := if_pos (by rw [ltGN h1 hb]; trivial)
theorem qLtNG [h : Decidable (nI a < nG b)] (h1 : a < 2147483648) (hb : b < 2147483648) : (@ite α (nI a < nG b) h t e) = e := if_neg (by rw [ltNG h1 hb]; exact id)
theorem qLtGGP [h : Decidable (nG a < nG b)] (h1 : b < a) (ha : a < 2147483648) : (@ite α (nG a < nG b) h t e) = t := if_pos (by rw [ltGG ha (by omega)]; exact h1)
theorem qLtGGN [h : Decidable (nG a < nG b)] (h1 : a ≤ b) (hb : b < 2147483648) : (@ite α (nG a < nG b) h t e) = e := if_neg (by rw [ltGG (by omega) hb]; omega)
theorem qEqNG [h : Decidable (nI a = nG b)] (h1 : a < 2147483648) (hb : 0 < b ∧ b < 2147483648) : (@ite α (nI a = nG b) h t e) = e := if_neg (by rw [eqNG h1 hb]; exact id)
theorem qEqGN [h : Decidable (nG b = nI a)] (h1 : a < 2147483648) (hb : 0 < b ∧ b < 2147483648) : (@ite α (nG b = nI a) h t e) = e := if_neg (by rw [eqGN h1 hb]; exact id)
theorem qEqGGP [h : Decidable (nG a = nG b)] (h1 : a = b) : (@ite α (nG a = nG b) h t e) = t := if_pos (by rw [h1])
theorem qEqGGN [h : Decidable (nG a = nG b)] (h1 : a ≠ b) (ha : a < 2147483648) (hb : b < 2147483648) : (@ite α (nG a = nG b) h t e) = e := if_neg (by rw [eqGG ha hb]; exact h1)
end
theorem pAV_some {v : Value} {h : pHeap} : pAV (some (v, h)) = some h := Eq.trans rfl rfl
theorem pAJ_some {x : Int64} {h : pHeap} : pAJ (some (.long x, h)) = some (x, h) := Eq.trans rfl rfl
theorem pAR_some {x : Nat} {h : pHeap} : pAR (some (.ref x, h)) = some (x, h) := Eq.trans rfl rfl
theorem pAI_s {x : Int32} {h : pHeap} : pAI (some (.int x, h)) = some (x, h) := Eq.trans rfl rfl
theorem bnd_some {α β : Type} (a : α) (f : α → Option β) : (some a).bind f = f a := Eq.trans rfl rfl
theorem cnd_t {α : Type} {a b : α} : (bif true then a else b) = a := Eq.trans rfl rfl
theorem cnd_f {α : Type} {a b : α} : (bif false then a else b) = b := Eq.trans rfl rfl
theorem pNar10 : pNar 1 (nI 0) = true := Eq.trans rfl rfl
theorem pNar11 : pNar 1 (nI 1) = true := Eq.trans rfl rfl
theorem up2_hit {α : Type} {f : Nat → Nat → α} {o k a b : Nat} {x : α} (h : a = o ∧ b = k) : up2 f o k x a b = x := if_pos h
theorem up2_mo {α : Type} {f : Nat → Nat → α} {o k a b : Nat} {x : α} (h : a ≠ o) : up2 f o k x a b = f a b := up2_o h
theorem up2_mk {α : Type} {f : Nat → Nat → α} {o k a b : Nat} {x : α} (h : b ≠ k) : up2 f o k x a b = f a b := up2_k h
def up1 {α : Type} (f : Nat → α) (k : Nat) (x : α) : Nat → α := fun b => if b = k then x else f b
theorem up1_hit {α : Type} {f : Nat → α} {k b : Nat} {x : α} (h : b = k) : up1 f k x b = x := if_pos h
theorem up1_mk {α : Type} {f : Nat → α} {k b : Nat} {x : α} (h : b ≠ k) : up1 f k x b = f b := if_neg h
theorem up2_row {α : Type} {f : Nat → Nat → α} {o k : Nat} {x : α} : up2 f o k x o = up1 (f o) k x := by
  funext b; unfold up2 up1; simp
theorem up2_rne {α : Type} {f : Nat → Nat → α} {o k a : Nat} {x : α} (h : a ≠ o) : up2 f o k x a = f a := by
  funext b; exact up2_o h

