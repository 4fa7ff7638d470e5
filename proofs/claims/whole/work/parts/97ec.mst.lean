/-! THE LAW: THE LAST FOUR PROMISES -/
theorem ST_swaps {X : pG} {x : Int32} : STA X k_D_swaps k_M_swaps [.int x] := by
  rintro I J tx sp bt tt ⟨lv, T, LW, r, hn, H, hd, tn, tf, bn, bf, pl, hC, hM, hw⟩
  exact PR_step (P_swaps (X := X) (LW := LW) (pl := pl) (x := x) hw) hC hM hw
theorem ST_lodging {X : pG} {x : Int32} : STA X k_D_lodging k_M_lodging [.int x] := by
  rintro I J tx sp bt tt ⟨lv, T, LW, r, hn, H, hd, tn, tf, bn, bf, pl, hC, hM, hw⟩
  exact PR_step (P_lodging (X := X) (LW := LW) (pl := pl) (x := x) hw) hC hM hw
theorem ST_lodgingAt {X : pG} {x y : Int32} : STA X k_D_lodgingAt k_M_lodgingAt [.int x, .int y] := by
  rintro I J tx sp bt tt ⟨lv, T, LW, r, hn, H, hd, tn, tf, bn, bf, pl, hC, hM, hw⟩
  exact PR_step (P_lodgingAt (X := X) (LW := LW) (pl := pl) (x := x) (y := y) hw) hC hM hw
theorem ST_read {xs : List Int32} : STA (pRO xs) k_D_read k_M_read [] := by
  rintro I J tx sp bt tt ⟨lv, T, LW, r, hn, H, hd, tn, tf, bn, bf, pl, hC, hM, hw⟩
  have hV : ∀ p, tk bf bn p = 2 → tv bf bn p < 10000 := fun p hp => tv_lt hp
  have hend := rnS_end (K := tk bf bn) (V := tv bf bn) (N := tnm bf bn) hV 401 0 g0p (Nat.zero_le _) (by decide) g0p_A (fun _ => g0p_Z)
  have hrd : rnS (tk bf bn) (tv bf bn) (tnm bf bn) 401 0 g0p = rdR bf bn := rfl
  rw [hrd] at hend
  have hw0 : wI T r hn H hd tn tf 0 bf := ⟨hw.1, hw.2.1, hw.2.2.1, hw.2.2.2.1, Nat.zero_le _, fun k hk => absurd hk (Nat.not_lt_zero _)⟩
  by_cases hf : (rdR bf bn).1.1 = 0
  · by_cases hz : (rdR bf bn).2.2.2.1.1 = 0
    · have hBB := gZ.B hend.2.2.1 (hend.2.2.2 hz)
      refine PR_step (T' := (rdR bf bn).2.1) (LW' := (rdR bf bn).2.2.2.2) (r' := row0 (rdR bf bn).2.1) (hn' := 0) (H' := H) (hd' := fun _ => none) (tn' := 0) (tf' := tf) (bn' := 0) (bf' := bf) (pl' := nG 1) ⟨nI 0, fun I J tx sp bt tt h => (D_read_ok (xs := xs) h hw).2.2 hf hz, fun I J tx sp bt tt lv h => (M_read_ok (X := pRO xs) (tx := tx) (sp := sp) (bt := bt) (tt := tt) h hw).2.2 hf hz⟩ hC hM ⟨⟨hBB.1, hBB.2, row0_I hBB.1⟩, ⟨Nat.zero_le _, fun k hk => absurd hk (Nat.not_lt_zero _)⟩, (fun s q z => by cases z), ⟨Nat.zero_le _, fun k hk => absurd hk (Nat.not_lt_zero _)⟩, Nat.zero_le _, fun k hk => absurd hk (Nat.not_lt_zero _)⟩
    · exact PR_step ⟨nI (rdR bf bn).2.2.2.1.1, fun I J tx sp bt tt h => (D_read_ok (xs := xs) h hw).2.1 hf hz, fun I J tx sp bt tt lv h => (M_read_ok (X := pRO xs) (tx := tx) (sp := sp) (bt := bt) (tt := tt) h hw).2.1 hf hz⟩ hC hM hw0
  · exact PR_step ⟨nI (rdR bf bn).1.1, fun I J tx sp bt tt h => (D_read_ok (xs := xs) h hw).1 hf, fun I J tx sp bt tt lv h => (M_read_ok (X := pRO xs) (tx := tx) (sp := sp) (bt := bt) (tt := tt) h hw).1 hf⟩ hC hM hw0
theorem law_runs {xs : List Int32} (hL : xs.length ≤ 3072) : LG xs 0 := law_all ST_read (fun _ => ST_swaps) (fun _ => ST_lodging) (fun _ _ => ST_lodgingAt) hL xs.length 0 (by omega) (by omega)
