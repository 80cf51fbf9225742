-- LEVEL 2, FILTERS: WHAT THEY SAY; THE REFERENCE
def vAs (H : sH) (e a v : Nat) (x : Nat × Nat × Nat) : Bool := decide (x.1 = e) && (decide (x.2.1 = a) && decide (hKey H a v ≤ hKey H a x.2.2))
def tGe (H : sH) (T : sT) (e a v : Nat) : Bool := decide (0 < (tVs T).countP (vAs H e a v))
def pVal (H : sH) (T : sT) (e : Nat) (p : Nat × Int × Int) (f : Nat → Bool) : Bool :=
  if p.1 = 0 then decide (0 < tMt H T e p.2.1.toNat p.2.2.toNat) else if p.1 = 1 then tGe H T e p.2.1.toNat p.2.2.toNat else if p.1 = 2 then decide (0 < tCnt T e p.2.1.toNat) else if p.1 = 3 then hUp H 8 (tKl T e) p.2.1
  else if p.1 = 4 then f p.2.1.toNat && f p.2.2.toNat else if p.1 = 5 then f p.2.1.toNat || f p.2.2.toNat else !f p.2.1.toNat
def pG (P : List (Nat × Int × Int)) (i : Nat) : Nat × Int × Int := P.getD i (0, 0, 0)
theorem pG_at {P : List (Nat × Int × Int)} {i : Nat} (h : i < P.length) : pG P i = P[i] := by
  unfold pG
  rw [List.getD_eq_getElem?_getD, List.getElem?_eq_getElem h]
  rfl
/-- the truth of the parts below k, one after the other -/
def pTs (H : sH) (T : sT) (e : Nat) (P : List (Nat × Int × Int)) : Nat → Nat → Bool
  | 0 => fun _ => false
  | k + 1 => upf (pTs H T e P k) k (pVal H T e (pG P k) (pTs H T e P k))
theorem pTs_st {H : sH} {T : sT} {e : Nat} {P : List (Nat × Int × Int)} {k i : Nat} (hi : i < k) : ∀ d, pTs H T e P (k + d) i = pTs H T e P k i
  | 0 => rfl
  | d + 1 => by
    show upf (pTs H T e P (k + d)) (k + d) _ i = _
    rw [upf_o _ _ (by omega)]
    exact pTs_st hi d
section UA
variable {N : Nat} {S : kS} {W : sW} {T : sT} {H : sH}
theorem pTs_s {e : Nat} {P : List (Nat × Int × Int)} {k : Nat} (hk : k < P.length) : pTs H T e P (k + 1) = upf (pTs H T e P k) k (pVal H T e P[k] (pTs H T e P k)) := by
  show upf (pTs H T e P k) k (pVal H T e (pG P k) (pTs H T e P k)) = _
  rw [pG_at hk]
/-- the one filter at an entry -/
def wFt (W : sW) (T : sT) (e : Nat) : Bool := pTs (wH W) T e (wP W) (wP W).length ((wK W).getD 0 0)
end UA
