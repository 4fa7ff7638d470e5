/-! THE CLASS'S SMALL HELPERS OF DREAMS -/
section
variable {X : pG} {h : pHeap} {th un tw : Nat}
theorem D_dreamOf_ok (h1 : th < 7) : Call X k_D_dreamOf [.int (nI th), .int (nI un), .int (nI tw)] h = some (.int (encD (nI th) (nI un) (nI tw)), h) := by
  rw [c_D_dreamOf, e_D_dreamOf_0, encD_nat h1, show (200 : Int32) = nI 200 from rfl, show (2 : Int32) = nI 2 from rfl, nI_mul, nI_mul, nI_add, nI_add]
theorem D_thingOf_n (h1 : th < 7) (h2 : un ≤ 99) (h3 : tw ≤ 1) : Call X k_D_thingOf [.int (encD (nI th) (nI un) (nI tw))] h = some (.int (nI th), h) := by
  rw [c_D_thingOf, e_D_thingOf_0, encD_nat h1, if_neg (nI_ne2 (by omega)), if_neg (by decide), show (200 : Int32) = nI 200 from rfl, pk_div (by omega) (by omega) (by omega), show (th * 200 + un * 2 + tw) / 200 = th by omega]
theorem D_unitsOf_n (h1 : th < 7) (h2 : un ≤ 99) (h3 : tw ≤ 1) : Call X k_D_unitsOf [.int (encD (nI th) (nI un) (nI tw))] h = some (.int (nI un), h) := by
  rw [c_D_unitsOf, e_D_unitsOf_0, encD_nat h1, if_neg (nI_ne2 (by omega)), if_neg (by decide), if_neg (by decide), show (200 : Int32) = nI 200 from rfl, show (2 : Int32) = nI 2 from rfl, pk_rem (by omega) (by omega) (by omega), pk_div (by omega) (by omega) (by omega), show (th * 200 + un * 2 + tw) % 200 / 2 = un by omega]
theorem D_twiceOf_n (h1 : th < 7) (h2 : un ≤ 99) (h3 : tw ≤ 1) : Call X k_D_twiceOf [.int (encD (nI th) (nI un) (nI tw))] h = some (.int (nI tw), h) := by
  rw [c_D_twiceOf, e_D_twiceOf_0, encD_nat h1, if_neg (nI_ne2 (by omega)), if_neg (by decide), show (2 : Int32) = nI 2 from rfl, pk_rem (by omega) (by omega) (by omega), show (th * 200 + un * 2 + tw) % 2 = tw by omega]
end
