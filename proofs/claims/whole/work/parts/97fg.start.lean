/-! THE START WORLD -/
set_option maxRecDepth 100000 in
theorem D_call {xs : List Int32} : Call (pRO xs) k_D_init [.ref 0] [(11, pDefs.getD 11 [])] = some (.retAddr 0, hZ.take 527) := by
  have hr : pRecv (pRO xs) k_D_init [.ref 0] [(11, pDefs.getD 11 [])] = true := pRecv_X pX0_le (by decide +kernel)
  rw [c_D_init, hr]
  show Sm (pRO xs) k_D_init 0 [.ref 0, .retAddr 0] [] [(11, pDefs.getD 11 [])] = _
  rw [D_to134]
  exact Sem_of (sem_X pX0_le _ _ _ _ _ _ _ _ k_D134)
set_option maxRecDepth 100000 in
theorem z_eq {n : Nat} {f g : Nat → Int32} (h : (List.range n).all (fun k => f k == g k) = true) : ∀ k, k < n → f k = g k := fun k hk => by
  have := List.all_eq_true.mp h k (List.mem_range.mpr hk)
  exact eq_of_beq this
set_option maxRecDepth 100000 in
theorem RC_start : RC iZ jZ 16 37 (.ref 16) T0p (fun _ => none) (row0 T0p) 0 (fun _ _ => 0) (fun _ => none) 0 (fun _ => 0) 0 (fun _ => 0) (nG 1) := by
  have nn : ∀ {P : Prop} {k : Nat}, k < 0 → P := fun h => absurd h (Nat.not_lt_zero _)
  refine ⟨⟨by decide, by decide, by decide, rfl⟩, ⟨⟨by decide, by decide, by decide, by decide, by decide, by decide, fun k hk => nn hk, fun k hk => nn hk, fun k hk => nn hk, fun k hk => nn hk, z_eq (f := iZ 21) (g := fun k => nI (T0p 10 k)) (by decide +kernel), fun k hk => nn hk, fun k hk => nn hk, fun k hk => nn hk, fun k hk => nn hk, z_eq (f := iZ 26) (g := fun k => nI (T0p 15 k) - 1) (by decide +kernel), fun k hk => nn hk⟩, fun k hk => ?_, ⟨by decide, by decide, by decide, fun k hk => nn hk, z_eq (f := iZ 61) (g := fun a => row0 T0p (6 + a)) (by decide +kernel), z_eq (f := iZ 62) (g := fun a => encD (row0 T0p (12 + a)) (row0 T0p (18 + a)) (row0 T0p (24 + a))) (by decide +kernel), fun a j ha hj => ?_, z_eq (f := iZ 64) (g := fun a => row0 T0p (30 + a)) (by decide +kernel), z_eq (f := iZ 65) (g := fun a => row0 T0p (36 + a)) (by decide +kernel), z_eq (f := iZ 66) (g := fun a => row0 T0p (42 + a)) (by decide +kernel), z_eq (f := iZ 67) (g := fun a => row0 T0p (48 + a)) (by decide +kernel), z_eq (f := iZ 68) (g := fun a => row0 T0p (53 + a)) (by decide +kernel)⟩, by decide⟩, ⟨0, by decide, by decide, by decide, fun k hk => nn hk⟩, fun s hs => ⟨z_eq (n := 3) (f := iZ 2) (g := fun _ => bI false) (by decide +kernel) s hs, fun q hq => by cases hq⟩, ⟨by decide, fun k hk => nn hk⟩, ⟨by decide, fun k hk => nn hk⟩, by decide, fun i hi => rfl⟩
  · have hd := lwD_ok k hk
    rcases (show k = 0 ∨ k = 1 ∨ k = 2 by omega) with e | e | e <;> subst e
    · exact ⟨2, by decide, by decide +kernel, hd, ⟨exprA_1 (by show iZ 29 0 = nI 1; decide +kernel), by show iZ 29 1 = nG 15; decide +kernel, rfl⟩⟩
    · exact ⟨4, by decide, by decide +kernel, hd, ⟨exprA_push (exprA_push (exprA_1 (by show iZ 32 0 = nG 2; decide +kernel)) (fun _ _ => rfl) (by show iZ 32 1 = nG 3; decide +kernel)) (fun _ _ => rfl) (by show iZ 32 2 = nG 12; decide +kernel), by show iZ 32 3 = nG 15; decide +kernel, rfl⟩⟩
    · exact ⟨2, by decide, by decide +kernel, hd, ⟨exprA_1 (by show iZ 35 0 = nI 50; decide +kernel), by show iZ 35 1 = nG 15; decide +kernel, rfl⟩⟩
  · intro _
    rw [row0_0 (by omega)] at hj
    exact absurd hj (nI_nlt (Nat.zero_le _) (by omega))
set_option maxRecDepth 100000 in
theorem wI_start : wI T0p (row0 T0p) 0 (fun _ _ => 0) (fun _ => none) 0 (fun _ => 0) 0 (fun _ => 0) := by
  have hB := gZ.B g0p_A g0p_Z
  have nn : ∀ {P : Prop} {k : Nat}, k < 0 → P := fun h => absurd h (Nat.not_lt_zero _)
  exact ⟨⟨hB.1, hB.2, row0_I hB.1⟩, ⟨Nat.zero_le _, fun k hk => nn hk⟩, (fun s q z => by cases z), ⟨Nat.zero_le _, fun k hk => nn hk⟩, Nat.zero_le _, fun k hk => nn hk⟩
