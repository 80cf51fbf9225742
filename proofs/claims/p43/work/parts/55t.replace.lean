-- LEVEL 2, CALLS THAT CHANGE VALUES: WHAT THEY NEED; REPLACE
section OB
variable {N : Nat} {S : kS} {W : sW}
def pre3 (N : Nat) (x y z w : Int32) (S : kS) (k : Nat → kS → Option ((Int32 ⊕ Nat) × kS)) : Option ((Int32 ⊕ Nat) × kS) :=
  bx (pX9_masterAt N x S) fun v101 S102 => gn v101 4 <| bx (pX9_needChangeable N v101 y S102) fun _ S105 => bx (pX9_needAttribute N z S105) fun _ S108 => bx (pX9_needValue N w S108) fun _ S111 => bx (pX9_needRoom N S111) fun _ S114 => bx (pX9_needWrite N v101 y S114) fun _ S117 => k v101 S117
end OB
