-- LEVEL 2, THE CALL ADD
section AE
variable {N : Nat} {S : kS} {W : sW}
theorem zI_inj2 {a b : Nat} (ha : a < 2147483648) (hb : b < 2147483648) (h : zI (a : Nat) = zI (b : Nat)) : a = b := by
  rw [zI_eq (by omega) (by omega) (by omega) (by omega)] at h
  omega
end AE
