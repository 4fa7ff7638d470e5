/-! WHAT TEXTS AND STATES SAY, ONE BY ONE -/
section
variable {I : Nat → Nat → Int32} {lv t s G : Nat} {T : Nat → Nat → Nat} {r : Nat → Int32}
theorem mT.lt (h : mT I lv T) : lv < 2 := h.1
theorem mT.live (h : mT I lv T) : I 527 18 = nI lv := h.2.1
theorem mT.th (h : mT I lv T) : I 538 lv = nI (T 0 0) := h.2.2.1
theorem mT.inn (h : mT I lv T) : I 540 lv = nI (T 1 0) := h.2.2.2.1
theorem mT.gu (h : mT I lv T) : I 545 lv = nI (T 2 0) := h.2.2.2.2.1
theorem mT.po (h : mT I lv T) : I 551 lv = nI (T 3 0) := h.2.2.2.2.2.1
theorem mT.fi (h : mT I lv T) : I 553 lv = nI (T 4 0) := h.2.2.2.2.2.2.1
theorem mT.se (h : mT I lv T) : I 554 lv = nI (T 5 0) := h.2.2.2.2.2.2.2.1
theorem mT.tar (h : mT I lv T) {k : Nat} (hk : k < T 0 0) : I 539 (7 * lv + k) = nI (T 6 k) := h.2.2.2.2.2.2.2.2.1 k hk
theorem mT.pri (h : mT I lv T) {k : Nat} (hk : k < T 1 0) : I 541 (5 * lv + k) = nI (T 7 k) := h.2.2.2.2.2.2.2.2.2.1 k hk
theorem mT.bed (h : mT I lv T) {k : Nat} (hk : k < T 1 0) : I 542 (5 * lv + k) = nI (T 8 k) := h.2.2.2.2.2.2.2.2.2.2.1 k hk
theorem mT.che (h : mT I lv T) {k : Nat} (hk : k < T 1 0) : I 543 (5 * lv + k) = nI (T 9 k) := h.2.2.2.2.2.2.2.2.2.2.2.1 k hk
theorem mT.wei (h : mT I lv T) {k : Nat} (hk : k < 35) : I 544 (35 * lv + k) = nI (T 10 k) := h.2.2.2.2.2.2.2.2.2.2.2.2.1 k hk
theorem mT.coi (h : mT I lv T) {k : Nat} (hk : k < T 2 0) : I 546 (6 * lv + k) = nI (T 12 k) := h.2.2.2.2.2.2.2.2.2.2.2.2.2.1 k hk
theorem mT.hon (h : mT I lv T) {k : Nat} (hk : k < T 2 0) : I 547 (6 * lv + k) = nI (T 13 k) := h.2.2.2.2.2.2.2.2.2.2.2.2.2.2.1 k hk
theorem mT.deg (h : mT I lv T) {k : Nat} (hk : k < T 2 0) : I 548 (6 * lv + k) = nI (T 14 k) := h.2.2.2.2.2.2.2.2.2.2.2.2.2.2.2.1 k hk
theorem mT.twi (h : mT I lv T) {k : Nat} (hk : k < 6) : I 549 (6 * lv + k) = nI (T 15 k) - 1 := h.2.2.2.2.2.2.2.2.2.2.2.2.2.2.2.2.1 k hk
theorem mT.wat (h : mT I lv T) {k : Nat} (hk : k < T 3 0) : I 552 (6 * lv + k) = nI (T 16 k) := h.2.2.2.2.2.2.2.2.2.2.2.2.2.2.2.2.2 k hk
theorem cT.th (h : cT I t T) : I t 0 = nI (T 0 0) := h.1
theorem cT.inn (h : cT I t T) : I t 1 = nI (T 1 0) := h.2.1
theorem cT.gu (h : cT I t T) : I t 2 = nI (T 2 0) := h.2.2.1
theorem cT.po (h : cT I t T) : I t 3 = nI (T 3 0) := h.2.2.2.1
theorem cT.fi (h : cT I t T) : I t 4 = nI (T 4 0) := h.2.2.2.2.1
theorem cT.se (h : cT I t T) : I t 5 = nI (T 5 0) := h.2.2.2.2.2.1
theorem cT.tar (h : cT I t T) {k : Nat} (hk : k < T 0 0) : I (t + 1) k = nI (T 6 k) := h.2.2.2.2.2.2.1 k hk
theorem cT.pri (h : cT I t T) {k : Nat} (hk : k < T 1 0) : I (t + 2) k = nI (T 7 k) := h.2.2.2.2.2.2.2.1 k hk
theorem cT.bed (h : cT I t T) {k : Nat} (hk : k < T 1 0) : I (t + 3) k = nI (T 8 k) := h.2.2.2.2.2.2.2.2.1 k hk
theorem cT.che (h : cT I t T) {k : Nat} (hk : k < T 1 0) : I (t + 4) k = nI (T 9 k) := h.2.2.2.2.2.2.2.2.2.1 k hk
theorem cT.wei (h : cT I t T) {k : Nat} (hk : k < 35) : I (t + 5) k = nI (T 10 k) := h.2.2.2.2.2.2.2.2.2.2.1 k hk
theorem cT.all (h : cT I t T) {i : Nat} (hk : i < T 1 0) : I (t + 6) i = nI (sumN (fun k => T 10 (7 * i + k)) (T 0 0)) := h.2.2.2.2.2.2.2.2.2.2.2.1 i hk
theorem cT.coi (h : cT I t T) {k : Nat} (hk : k < T 2 0) : I (t + 7) k = nI (T 12 k) := h.2.2.2.2.2.2.2.2.2.2.2.2.1 k hk
theorem cT.hon (h : cT I t T) {k : Nat} (hk : k < T 2 0) : I (t + 8) k = nI (T 13 k) := h.2.2.2.2.2.2.2.2.2.2.2.2.2.1 k hk
theorem cT.deg (h : cT I t T) {k : Nat} (hk : k < T 2 0) : I (t + 9) k = nI (T 14 k) := h.2.2.2.2.2.2.2.2.2.2.2.2.2.2.1 k hk
theorem cT.twi (h : cT I t T) {k : Nat} (hk : k < 6) : I (t + 10) k = nI (T 15 k) - 1 := h.2.2.2.2.2.2.2.2.2.2.2.2.2.2.2.1 k hk
theorem cT.wat (h : cT I t T) {k : Nat} (hk : k < T 3 0) : I (t + 11) k = nI (T 16 k) := h.2.2.2.2.2.2.2.2.2.2.2.2.2.2.2.2 k hk
theorem cS.nig (h : cS I s G r) : I s 0 = r 58 := h.1
theorem cS.cus (h : cS I s G r) : I s 1 = r 59 := h.2.1
theorem cS.pin (h : cS I s G r) : I s 2 = r 60 := h.2.2.1
theorem cS.coi (h : cS I s G r) {a : Nat} (ha : a < G) : I (s + 1) a = r a := h.2.2.2.1 a ha
theorem cS.lod (h : cS I s G r) {a : Nat} (ha : a < 6) : I (s + 2) a = r (6 + a) := h.2.2.2.2.1 a ha
theorem cS.dre (h : cS I s G r) {a : Nat} (ha : a < 6) : I (s + 3) a = encD (r (12 + a)) (r (18 + a)) (r (24 + a)) := h.2.2.2.2.2.1 a ha
theorem cS.kep (h : cS I s G r) {a j : Nat} (ha : a < 6) (hj : nI j < r (30 + a)) (h5 : j < 5) : I (s + 4) (5 * a + j) = encD (r (61 + 15 * a + 3 * j)) (r (62 + 15 * a + 3 * j)) (r (63 + 15 * a + 3 * j)) := h.2.2.2.2.2.2.1 a j ha hj h5
theorem cS.cnt (h : cS I s G r) {a : Nat} (ha : a < 6) : I (s + 5) a = r (30 + a) := h.2.2.2.2.2.2.2.1 a ha
theorem cS.dec (h : cS I s G r) {a : Nat} (ha : a < 6) : I (s + 6) a = r (36 + a) := h.2.2.2.2.2.2.2.2.1 a ha
theorem cS.see (h : cS I s G r) {a : Nat} (ha : a < 6) : I (s + 7) a = r (42 + a) := h.2.2.2.2.2.2.2.2.2.1 a ha
theorem cS.lth (h : cS I s G r) {i : Nat} (hi : i < 5) : I (s + 8) i = r (48 + i) := h.2.2.2.2.2.2.2.2.2.2.1 i hi
theorem cS.lby (h : cS I s G r) {i : Nat} (hi : i < 5) : I (s + 9) i = r (53 + i) := h.2.2.2.2.2.2.2.2.2.2.2 i hi
end
