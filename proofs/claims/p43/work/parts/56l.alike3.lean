-- LEVEL 2, THE CALL ARE ALIKE, ALL OF IT
theorem zB_eq (a b : Bool) : (zB a = zB b) = (a = b) := by cases a <;> cases b <;> simp [zB]
section OS
variable {N : Nat} {S : kS} {W : sW} {T U : sT}
theorem tVs_nd (h : wOk W) (K : kRel S W) {m : Nat} (hm : m < 4) : (tVs (wTr W m)).Nodup := vRs_nodup (tR_vRs (kRel_t h K hm).1)
end OS
