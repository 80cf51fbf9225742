-- ===== the law's follows =====
noncomputable def pL_follows_518 (N : Nat) (x22 : Int32) (x24 : Int32) (x26 : Int32) (S : kS) (L : lS) (C : Nat) (D : Nat) : Option (Int32 × kS × lS) :=
    if x26 = (0 : Int32) then (
      zlB 600 22500 C D (0 : Int32) S L)
    else (
      if x22 = x24 then (
        lbb 11 435 600 22500 C D (pL_calls N (13 : Int32) x24 (0 : Int32) (0 : Int32) (0 : Int32) S L) fun v101 S102 L103 C104 D105 =>
        if v101 = (-9 : Int32) then (
          zlB 600 22500 C104 D105 (1 : Int32) S102 L103)
        else (
          zlB 600 22500 C104 D105 (0 : Int32) S102 L103))
      else (
        zlB 600 22500 C D (0 : Int32) S L))
noncomputable def pL_follows_512 (N : Nat) (k_176 : Int32 → Int32 → Int32 → Int32 → Int32 → Int32 → Int32 → Int32 → Int32 → Int32 → Int32 → kS → lS → Nat → Nat → Option (Int32 × kS × lS)) (x1 : Int32) (x16 : Int32) (x17 : Int32) (x18 : Int32) (x19 : Int32) (x21 : Int32) (x22 : Int32) (x23 : Int32) (x24 : Int32) (x26 : Int32) (S : kS) (L : lS) (C : Nat) (D : Nat) : Option (Int32 × kS × lS) :=
    k_176 x1 x16 x17 x18 x19 x21 x22 x23 x24 (0 : Int32) x26 S L C D
noncomputable def pL_follows_506 (N : Nat) (k_333 : Int32 → Int32 → Int32 → Int32 → Int32 → Int32 → Int32 → Int32 → Int32 → Int32 → Int32 → Int32 → Int32 → Int32 → kS → lS → Nat → Nat → Option (Int32 × kS × lS)) (x1 : Int32) (x16 : Int32) (x17 : Int32) (x18 : Int32) (x19 : Int32) (x21 : Int32) (x22 : Int32) (x23 : Int32) (x24 : Int32) (x25 : Int32) (x26 : Int32) (x27 : Int32) (x28 : Int32) (x29 : Int32) (S : kS) (L : lS) (C : Nat) (D : Nat) : Option (Int32 × kS × lS) :=
    nm (x29 + (-1 : Int32)) fun y101 =>
    k_333 x1 x16 x17 x18 x19 x21 x22 x23 x24 x25 x26 x27 x28 y101 S L C D
noncomputable def pL_follows_497 (N : Nat) (k_363 : Int32 → Int32 → Int32 → Int32 → Int32 → Int32 → Int32 → Int32 → Int32 → Int32 → Int32 → Int32 → Int32 → Int32 → Int32 → kS → lS → Nat → Nat → Option (Int32 × kS × lS)) (t0 : Int32) (t1 : Int32) (x1 : Int32) (x16 : Int32) (x17 : Int32) (x18 : Int32) (x19 : Int32) (x21 : Int32) (x22 : Int32) (x24 : Int32) (x25 : Int32) (x26 : Int32) (x27 : Int32) (x28 : Int32) (x29 : Int32) (x30 : Int32) (S : kS) (L : lS) (C : Nat) (D : Nat) : Option (Int32 × kS × lS) :=
    nm (t1 + t0) fun y101 =>
    nm (x30 + (1 : Int32)) fun y102 =>
    k_363 x1 x16 x17 x18 x19 x21 x22 y101 x24 x25 x26 x27 x28 x29 y102 S L C D
noncomputable def pL_follows_484 (N : Nat) (k_363 : Int32 → Int32 → Int32 → Int32 → Int32 → Int32 → Int32 → Int32 → Int32 → Int32 → Int32 → Int32 → Int32 → Int32 → Int32 → kS → lS → Nat → Nat → Option (Int32 × kS × lS)) (t0 : Int32) (t1 : Int32) (x1 : Int32) (x16 : Int32) (x17 : Int32) (x18 : Int32) (x19 : Int32) (x21 : Int32) (x22 : Int32) (x23 : Int32) (x24 : Int32) (x25 : Int32) (x26 : Int32) (x27 : Int32) (x28 : Int32) (x29 : Int32) (x30 : Int32) (x31 : Int32) (S : kS) (L : lS) (C : Nat) (D : Nat) : Option (Int32 × kS × lS) :=
    gd t1 64 <| slv (uI L 12 t1.toNatClampNeg t0) fun L101 =>
    if x31 = (0 : Int32) then (
      pL_follows_497 N k_363 (0 : Int32) x23 x1 x16 x17 x18 x19 x21 x22 x24 x25 x26 x27 x28 x29 x30 S L101 C D)
    else (
      pL_follows_497 N k_363 (1 : Int32) x23 x1 x16 x17 x18 x19 x21 x22 x24 x25 x26 x27 x28 x29 x30 S L101 C D)
noncomputable def pL_follows_460 (N : Nat) (k_363 : Int32 → Int32 → Int32 → Int32 → Int32 → Int32 → Int32 → Int32 → Int32 → Int32 → Int32 → Int32 → Int32 → Int32 → Int32 → kS → lS → Nat → Nat → Option (Int32 × kS × lS)) (t0 : Int32) (x1 : Int32) (x16 : Int32) (x17 : Int32) (x18 : Int32) (x19 : Int32) (x21 : Int32) (x22 : Int32) (x23 : Int32) (x24 : Int32) (x25 : Int32) (x26 : Int32) (x27 : Int32) (x28 : Int32) (x29 : Int32) (x30 : Int32) (x31 : Int32) (S : kS) (L : lS) (C : Nat) (D : Nat) : Option (Int32 × kS × lS) :=
    if x31 = (0 : Int32) then (
      gd (63 : Int32) 64 <|
      pL_follows_484 N k_363 (aI L 12 (63 : Int32).toNatClampNeg) t0 x1 x16 x17 x18 x19 x21 x22 x23 x24 x25 x26 x27 x28 x29 x30 x31 S L C D)
    else (
      pL_follows_484 N k_363 (((x27 / (100 : Int32)) * (100 : Int32)) + x30) t0 x1 x16 x17 x18 x19 x21 x22 x23 x24 x25 x26 x27 x28 x29 x30 x31 S L C D)
noncomputable def pL_follows_444 (N : Nat) (k_363 : Int32 → Int32 → Int32 → Int32 → Int32 → Int32 → Int32 → Int32 → Int32 → Int32 → Int32 → Int32 → Int32 → Int32 → Int32 → kS → lS → Nat → Nat → Option (Int32 × kS × lS)) (t0 : Int32) (x1 : Int32) (x16 : Int32) (x17 : Int32) (x18 : Int32) (x19 : Int32) (x21 : Int32) (x22 : Int32) (x23 : Int32) (x24 : Int32) (x25 : Int32) (x26 : Int32) (x27 : Int32) (x28 : Int32) (x29 : Int32) (x30 : Int32) (S : kS) (L : lS) (C : Nat) (D : Nat) : Option (Int32 × kS × lS) :=
    if t0 = (0 : Int32) then (
      pL_follows_460 N k_363 (63 : Int32) x1 x16 x17 x18 x19 x21 x22 x23 x24 x25 x26 x27 x28 x29 x30 t0 S L C D)
    else (
      pL_follows_460 N k_363 x23 x1 x16 x17 x18 x19 x21 x22 x23 x24 x25 x26 x27 x28 x29 x30 t0 S L C D)
noncomputable def pL_follows_388 (N : Nat) (k_363 : Int32 → Int32 → Int32 → Int32 → Int32 → Int32 → Int32 → Int32 → Int32 → Int32 → Int32 → Int32 → Int32 → Int32 → Int32 → kS → lS → Nat → Nat → Option (Int32 × kS × lS)) (x1 : Int32) (x16 : Int32) (x17 : Int32) (x18 : Int32) (x19 : Int32) (x21 : Int32) (x22 : Int32) (x23 : Int32) (x24 : Int32) (x25 : Int32) (x26 : Int32) (x27 : Int32) (x28 : Int32) (x29 : Int32) (x30 : Int32) (S : kS) (L : lS) (C : Nat) (D : Nat) : Option (Int32 × kS × lS) :=
    gd ((3 : Int32) * x30) 36 <|
    if (aI L 9 ((3 : Int32) * x30).toNatClampNeg) = (1 : Int32) then (
      lba (pL_place N x30 L) fun v101 L102 =>
      if v101 = x28 then (
        lba (pL_shown N (x27 / (100 : Int32)) x30 L102) fun v103 L104 =>
        if v103 = x29 then (
          pL_follows_444 N k_363 (1 : Int32) x1 x16 x17 x18 x19 x21 x22 x23 x24 x25 x26 x27 x28 x29 x30 S L104 C D)
        else (
          pL_follows_444 N k_363 (0 : Int32) x1 x16 x17 x18 x19 x21 x22 x23 x24 x25 x26 x27 x28 x29 x30 S L104 C D))
      else (
        pL_follows_444 N k_363 (0 : Int32) x1 x16 x17 x18 x19 x21 x22 x23 x24 x25 x26 x27 x28 x29 x30 S L102 C D))
    else (
      pL_follows_444 N k_363 (0 : Int32) x1 x16 x17 x18 x19 x21 x22 x23 x24 x25 x26 x27 x28 x29 x30 S L C D)
noncomputable def pL_follows_363 (N : Nat) (k_506 : Int32 → Int32 → Int32 → Int32 → Int32 → Int32 → Int32 → Int32 → Int32 → Int32 → Int32 → Int32 → Int32 → Int32 → kS → lS → Nat → Nat → Option (Int32 × kS × lS)) : Nat → Int32 → Int32 → Int32 → Int32 → Int32 → Int32 → Int32 → Int32 → Int32 → Int32 → Int32 → Int32 → Int32 → Int32 → Int32 → kS → lS → Nat → Nat → Option (Int32 × kS × lS)
  | 0 => fun _ _ _ _ _ _ _ _ _ _ _ _ _ _ _ _ _ _ _ => none
  | n_363 + 1 => fun x1 x16 x17 x18 x19 x21 x22 x23 x24 x25 x26 x27 x28 x29 x30 S L C D =>
    gd (0 : Int32) 20 <|
    if (aI L 0 (0 : Int32).toNatClampNeg) ≤ x30 then (
      k_506 x1 x16 x17 x18 x19 x21 x22 x23 x24 x25 x26 x27 x28 x29 S L C D)
    else (
      if x29 < (100 : Int32) then (
        pL_follows_388 N (pL_follows_363 N k_506 n_363) x1 x16 x17 x18 x19 x21 x22 x23 x24 x25 x26 x27 x28 x29 x30 S L C D)
      else (
        if x29 = ((100 : Int32) + x30) then (
          pL_follows_388 N (pL_follows_363 N k_506 n_363) x1 x16 x17 x18 x19 x21 x22 x23 x24 x25 x26 x27 x28 x29 x30 S L C D)
        else (
          pL_follows_444 N (pL_follows_363 N k_506 n_363) (0 : Int32) x1 x16 x17 x18 x19 x21 x22 x23 x24 x25 x26 x27 x28 x29 x30 S L C D)))
noncomputable def pL_follows_360 (N : Nat) (k_333 : Int32 → Int32 → Int32 → Int32 → Int32 → Int32 → Int32 → Int32 → Int32 → Int32 → Int32 → Int32 → Int32 → Int32 → kS → lS → Nat → Nat → Option (Int32 × kS × lS)) (x1 : Int32) (x16 : Int32) (x17 : Int32) (x18 : Int32) (x19 : Int32) (x21 : Int32) (x22 : Int32) (x23 : Int32) (x24 : Int32) (x25 : Int32) (x26 : Int32) (x27 : Int32) (x28 : Int32) (x29 : Int32) (S : kS) (L : lS) (C : Nat) (D : Nat) : Option (Int32 × kS × lS) :=
    pL_follows_363 N (pL_follows_506 N k_333) N x1 x16 x17 x18 x19 x21 x22 x23 x24 x25 x26 x27 x28 x29 (1 : Int32) S L C D
noncomputable def pL_follows_333 (N : Nat) (k_512 : Int32 → Int32 → Int32 → Int32 → Int32 → Int32 → Int32 → Int32 → Int32 → Int32 → kS → lS → Nat → Nat → Option (Int32 × kS × lS)) : Nat → Int32 → Int32 → Int32 → Int32 → Int32 → Int32 → Int32 → Int32 → Int32 → Int32 → Int32 → Int32 → Int32 → Int32 → kS → lS → Nat → Nat → Option (Int32 × kS × lS)
  | 0 => fun _ _ _ _ _ _ _ _ _ _ _ _ _ _ _ _ _ _ => none
  | n_333 + 1 => fun x1 x16 x17 x18 x19 x21 x22 x23 x24 x25 x26 x27 x28 x29 S L C D =>
    if x29 < (0 : Int32) then (
      k_512 x1 x16 x17 x18 x19 x21 x22 x23 x24 x26 S L C D)
    else (
      if x27 < (0 : Int32) then (
        k_512 x1 x16 x17 x18 x19 x21 x22 x23 x24 x26 S L C D)
      else (
        if x21 = (2 : Int32) then (
          pL_follows_360 N (pL_follows_333 N k_512 n_333) x1 x16 x17 x18 x19 x21 x22 x23 x24 x25 x26 x27 x28 x29 S L C D)
        else (
          if x21 = (1 : Int32) then (
            if x25 = (0 : Int32) then (
              k_512 x1 x16 x17 x18 x19 x21 x22 x23 x24 x26 S L C D)
            else (
              pL_follows_360 N (pL_follows_333 N k_512 n_333) x1 x16 x17 x18 x19 x21 x22 x23 x24 x25 x26 x27 x28 x29 S L C D))
          else (
            k_512 x1 x16 x17 x18 x19 x21 x22 x23 x24 x26 S L C D))))
noncomputable def pL_follows_328 (N : Nat) (k_176 : Int32 → Int32 → Int32 → Int32 → Int32 → Int32 → Int32 → Int32 → Int32 → Int32 → Int32 → kS → lS → Nat → Nat → Option (Int32 × kS × lS)) (x1 : Int32) (x16 : Int32) (x17 : Int32) (x18 : Int32) (x19 : Int32) (x21 : Int32) (x22 : Int32) (x23 : Int32) (x24 : Int32) (x25 : Int32) (x26 : Int32) (x27 : Int32) (x28 : Int32) (S : kS) (L : lS) (C : Nat) (D : Nat) : Option (Int32 × kS × lS) :=
    pL_follows_333 N (pL_follows_512 N k_176) N x1 x16 x17 x18 x19 x21 x22 x23 x24 x25 x26 x27 x28 (147 : Int32) S L C D
noncomputable def pL_follows_323 (N : Nat) (k_176 : Int32 → Int32 → Int32 → Int32 → Int32 → Int32 → Int32 → Int32 → Int32 → Int32 → Int32 → kS → lS → Nat → Nat → Option (Int32 × kS × lS)) (t0 : Int32) (x1 : Int32) (x16 : Int32) (x17 : Int32) (x18 : Int32) (x19 : Int32) (x21 : Int32) (x22 : Int32) (x23 : Int32) (x24 : Int32) (x25 : Int32) (x27 : Int32) (x28 : Int32) (S : kS) (L : lS) (C : Nat) (D : Nat) : Option (Int32 × kS × lS) :=
    nm (x24 + (1 : Int32)) fun y101 =>
    pL_follows_328 N k_176 x1 x16 x17 x18 x19 x21 x22 x23 y101 x25 t0 x27 x28 S L C D
noncomputable def pL_follows_243 (N : Nat) (k_176 : Int32 → Int32 → Int32 → Int32 → Int32 → Int32 → Int32 → Int32 → Int32 → Int32 → Int32 → kS → lS → Nat → Nat → Option (Int32 × kS × lS)) (x1 : Int32) (x16 : Int32) (x17 : Int32) (x18 : Int32) (x19 : Int32) (x21 : Int32) (x22 : Int32) (x23 : Int32) (x24 : Int32) (x25 : Int32) (x26 : Int32) (x27 : Int32) (x28 : Int32) (S : kS) (L : lS) (C : Nat) (D : Nat) : Option (Int32 × kS × lS) :=
    lba (pL_fits N x16 x17 x18 x19 x28 L) fun v101 L102 =>
    if v101 = (0 : Int32) then (
      pL_follows_328 N k_176 x1 x16 x17 x18 x19 x21 x22 x23 x24 x25 x26 x27 x28 S L102 C D)
    else (
      gd ((4 : Int32) + x1) 20 <|
      lba (pL_may N (x27 / (100 : Int32)) (aI L102 0 ((4 : Int32) + x1).toNatClampNeg) x28 (0 : Int32) L102) fun v103 L104 =>
      if v103 = (0 : Int32) then (
        pL_follows_328 N k_176 x1 x16 x17 x18 x19 x21 x22 x23 x24 x25 x26 x27 x28 S L104 C D)
      else (
        lbb 11 435 600 22500 C D (pL_calls N (13 : Int32) x24 (0 : Int32) (0 : Int32) (0 : Int32) S L104) fun v105 S106 L107 C108 D109 =>
        if v105 = x27 then (
          pL_follows_323 N k_176 (1 : Int32) x1 x16 x17 x18 x19 x21 x22 x23 x24 x25 x27 x28 S106 L107 C108 D109)
        else (
          pL_follows_323 N k_176 (0 : Int32) x1 x16 x17 x18 x19 x21 x22 x23 x24 x25 x27 x28 S106 L107 C108 D109)))
noncomputable def pL_follows_176 (N : Nat) (k_518 : Int32 → Int32 → Int32 → kS → lS → Nat → Nat → Option (Int32 × kS × lS)) : Nat → Int32 → Int32 → Int32 → Int32 → Int32 → Int32 → Int32 → Int32 → Int32 → Int32 → Int32 → kS → lS → Nat → Nat → Option (Int32 × kS × lS)
  | 0 => fun _ _ _ _ _ _ _ _ _ _ _ _ _ _ _ => none
  | n_176 + 1 => fun x1 x16 x17 x18 x19 x21 x22 x23 x24 x25 x26 S L C D =>
    if x23 ≤ (0 : Int32) then (
      k_518 x22 x24 x26 S L C D)
    else (
      if x26 = (0 : Int32) then (
        k_518 x22 x24 x26 S L C D)
      else (
        nm (x23 + (-1 : Int32)) fun y101 =>
        gd y101 64 <|
        lba (pL_arrives N (aI L 12 y101.toNatClampNeg) L) fun v102 L103 =>
        nm (v102 - v102 / (100 : Int32) * (100 : Int32)) fun y104 =>
        if v102 < (0 : Int32) then (
          pL_follows_328 N (pL_follows_176 N k_518 n_176) x1 x16 x17 x18 x19 x21 x22 y101 x24 x25 x26 v102 y104 S L103 C D)
        else (
          if x25 = (0 : Int32) then (
            pL_follows_243 N (pL_follows_176 N k_518 n_176) x1 x16 x17 x18 x19 x21 x22 y101 x24 x25 x26 v102 y104 S L103 C D)
          else (
            if x21 = (1 : Int32) then (
              pL_follows_328 N (pL_follows_176 N k_518 n_176) x1 x16 x17 x18 x19 x21 x22 y101 x24 x25 x26 v102 y104 S L103 C D)
            else (
              pL_follows_243 N (pL_follows_176 N k_518 n_176) x1 x16 x17 x18 x19 x21 x22 y101 x24 x25 x26 v102 y104 S L103 C D)))))
noncomputable def pL_follows_153 (N : Nat) (x1 : Int32) (x16 : Int32) (x17 : Int32) (x18 : Int32) (x19 : Int32) (x20 : Int32) (x21 : Int32) (x22 : Int32) (S : kS) (L : lS) (C : Nat) (D : Nat) : Option (Int32 × kS × lS) :=
    gd (0 : Int32) 64 <| slv (uI L 12 (0 : Int32).toNatClampNeg (((100 : Int32) * x1) + x20)) fun L101 =>
    pL_follows_176 N (pL_follows_518 N) N x1 x16 x17 x18 x19 x21 x22 (1 : Int32) (0 : Int32) (1 : Int32) (1 : Int32) S L101 C D
noncomputable def pL_follows_135 (N : Nat) (k_153 : Int32 → Int32 → Int32 → Int32 → Int32 → Int32 → Int32 → Int32 → kS → lS → Nat → Nat → Option (Int32 × kS × lS)) : Nat → Int32 → Int32 → Int32 → Int32 → Int32 → Int32 → Int32 → Int32 → Int32 → kS → lS → Nat → Nat → Option (Int32 × kS × lS)
  | 0 => fun _ _ _ _ _ _ _ _ _ _ _ _ _ => none
  | n_135 + 1 => fun x1 x16 x17 x18 x19 x20 x21 x22 x23 S L C D =>
    if (4 : Int32) ≤ x23 then (
      k_153 x1 x16 x17 x18 x19 x20 x21 x22 S L C D)
    else (
      gd x23 4 <| slv (uI L 11 x23.toNatClampNeg (0 : Int32)) fun L101 =>
      nm (x23 + (1 : Int32)) fun y102 =>
      pL_follows_135 N k_153 n_135 x1 x16 x17 x18 x19 x20 x21 x22 y102 S L101 C D)
noncomputable def pL_follows_65 (N : Nat) (t0 : Int32) (x1 : Int32) (x2 : Int32) (x16 : Int32) (x17 : Int32) (x18 : Int32) (x19 : Int32) (S : kS) (L : lS) (C : Nat) (D : Nat) : Option (Int32 × kS × lS) :=
    lba (pL_low N (x2 >>> ((13 : Int32) &&& 31)) (3 : Int32) L) fun v101 L102 =>
    lbb 12 72 600 22500 C D (pL_draws N x16 x17 x18 x19 S L102) fun v103 S104 L105 C106 D107 =>
    if v103 = (0 : Int32) then (
      zlB 600 22500 C106 D107 (0 : Int32) S104 L105)
    else (
      lbb 11 435 600 22500 C106 D107 (pL_calls N (11 : Int32) x1 t0 v101 (0 : Int32) S104 L105) fun v108 S109 L110 C111 D112 =>
      gd ((3 : Int32) * t0) 36 <|
      if (aI L110 9 ((3 : Int32) * t0).toNatClampNeg) = (1 : Int32) then (
        pL_follows_135 N (pL_follows_153 N) N x1 x16 x17 x18 x19 t0 v101 v108 (0 : Int32) S109 L110 C111 D112)
      else (
        if v108 = (-9 : Int32) then (
          zlB 600 22500 C111 D112 (1 : Int32) S109 L110)
        else (
          zlB 600 22500 C111 D112 (0 : Int32) S109 L110)))
noncomputable def pL_follows (N : Nat) (x1 : Int32) (x2 : Int32) (S : kS) (L : lS) : Option (Int32 × kS × lS) :=
    lba (pL_low N x2 (7 : Int32) L) fun v101 L102 =>
    gd (2 : Int32) 20 <|
    lba (pL_low N (x2 >>> ((3 : Int32) &&& 31)) (aI L102 0 (2 : Int32).toNatClampNeg) L102) fun v103 L104 =>
    lba (pL_low N (x2 >>> ((5 : Int32) &&& 31)) (5 : Int32) L104) fun v105 L106 =>
    gd (3 : Int32) 20 <|
    lba (pL_low N (x2 >>> ((7 : Int32) &&& 31)) (aI L106 0 (3 : Int32).toNatClampNeg) L106) fun v107 L108 =>
    lba (pL_low N (x2 >>> ((9 : Int32) &&& 31)) (2 : Int32) L108) fun v109 L110 =>
    if v109 = (0 : Int32) then (
      pL_follows_65 N (0 : Int32) x1 x2 v101 v103 v105 v107 S L110 0 0)
    else (
      gd (0 : Int32) 20 <|
      lba (pL_low N (x2 >>> ((11 : Int32) &&& 31)) (aI L110 0 (0 : Int32).toNatClampNeg) L110) fun v111 L112 =>
      pL_follows_65 N v111 x1 x2 v101 v103 v105 v107 S L112 0 0)
theorem fL_follows : lFnS yL_follows (.code yL_follows cL_follows 32 (some .boolean)) 16 289 := ⟨kT_247, kT_248, kT_172, rfl, by decide +kernel⟩
set_option maxRecDepth 100000 in
set_option maxHeartbeats 4000000 in
theorem c_L_follows (l : Launch) (hlt : l.stackTraces = false) (N : Nat) (x1 : Int32) (x2 : Int32) : lMet l yL_follows (.code yL_follows cL_follows 32 (some .boolean)) 10 373 600 22500 (fun ca a => [.ref (ca 0), .int x1, .int x2, .ref (a 0), .ref (a 1), .ref (a 2), .ref (a 3), .ref (a 4), .ref (a 5), .ref (a 6), .ref (a 7), .ref (a 8), .ref (a 9), .ref (a 10), .ref (a 11), .ref (a 12)]) qI (pL_follows N x1 x2) := by
  refine l_start hlt (by decide +kernel) rfl (fun ca a => [(0, .ref (ca 0)), (1, .int x1), (2, .int x2), (3, .ref (a 0)), (4, .ref (a 1)), (5, .ref (a 2)), (6, .ref (a 3)), (7, .ref (a 4)), (8, .ref (a 5)), (9, .ref (a 6)), (10, .ref (a 7)), (11, .ref (a 8)), (12, .ref (a 9)), (13, .ref (a 10)), (14, .ref (a 11)), (15, .ref (a 12))]) (fun _ _ => Nat.le_of_ble_eq_true rfl) (fun _ _ => rfl) ?_
  intro dC dI g a sz Si Li r Sf Lf hpf p e s m args below meth c X hr H locs I ls hl
  have hx := X.1
  have hb := X.2.1
  have hCD : (0 : Nat) ≤ 600 ∧ (0 : Nat) ≤ 22500 := ⟨Nat.zero_le _, Nat.zero_le _⟩
  unfold pL_follows at hpf
  have hC_518 : ∀ (x22 : Int32) (x24 : Int32) (x26 : Int32) (S : kS) (L : lS) (C D : Nat) (hCD : C ≤ 600 ∧ D ≤ 22500) (H : Heap) (locs : List Loc), lV dC dI g a (lFr g a Si Li sz) s Si S L H locs → ∀ ls : Array Slot, lv_has ls 32 [(0, .ref (g.2.1 0)), (22, .int x22), (24, .int x24), (26, .int x26)] → pL_follows_518 N x22 x24 x26 S L C D = some (r, Sf, Lf) → W p l e (lRm 10 373 600 22500) s m args below meth c H locs C D (MQ below (lQ dC dI g a sz Si Li (qI r) Sf Lf) args s 600 22500 (lFr g a Si Li sz)) (F0 m 518 ls []) := by
    intro x22 x24 x26 S L C D hCD H locs I ls hl hpf
    unfold pL_follows_518 at hpf
    refine lv_iload hx hb dL_follows_518 (lv_at hl 3 rfl) ?_
    refine b_if_eq hx hb 550 520 dL_follows_520 (by decide) hpf (fun hpf => ?_) (fun hpf => ?_)
    · refine lv_iconst (v := (0 : Int32)) hx hb dL_follows_550 (by decide) ?_
      exact l_retzB X I hr 551 dL_follows_551 hpf
    refine lv_iload hx hb dL_follows_523 (lv_at hl 1 rfl) ?_
    refine lv_iload hx hb dL_follows_525 (lv_at hl 2 rfl) ?_
    refine b_icmp_ne hx hb 550 527 dL_follows_527 (by decide) hpf (fun hpf => ?_) (fun hpf => ?_)
    · refine lv_iconst (v := (0 : Int32)) hx hb dL_follows_550 (by decide) ?_
      exact l_retzB X I hr 551 dL_follows_551 hpf
    refine lv_aload_n hx hb dL_follows_530 rfl (lv_at hl 0 rfl) ?_
    refine lv_bipush (v := (13 : Int32)) hx hb dL_follows_531 (by decide) ?_
    refine lv_iload hx hb dL_follows_533 (lv_at hl 2 rfl) ?_
    refine lv_iconst (v := (0 : Int32)) hx hb dL_follows_535 (by decide) ?_
    refine lv_iconst (v := (0 : Int32)) hx hb dL_follows_536 (by decide) ?_
    refine lv_iconst (v := (0 : Int32)) hx hb dL_follows_537 (by decide) ?_
    refine l_cBW (rest := []) (As := [.ref (g.2.1 0), .int (13 : Int32), .int x24, .int (0 : Int32), .int (0 : Int32), .int (0 : Int32)]) X I fL_calls (c_L_calls l hlt N (13 : Int32) x24 (0 : Int32) (0 : Int32) (0 : Int32)) rfl ⟨Nat.le_of_ble_eq_true rfl, Nat.le_of_ble_eq_true rfl⟩ 538 dL_follows_538 rfl hl.1 rfl (Nat.le_of_ble_eq_true rfl) ⟨Nat.le_refl _, Nat.le_refl _⟩ hpf (fun v101 S102 L103 C104 D105 hCD H locs I hpf => ?_)
    refine lv_bipush (v := (-9 : Int32)) hx hb dL_follows_541 (by decide) ?_
    refine b_icmp_ne hx hb 550 543 dL_follows_543 (by decide) hpf (fun hpf => ?_) (fun hpf => ?_)
    · refine lv_iconst (v := (0 : Int32)) hx hb dL_follows_550 (by decide) ?_
      exact l_retzB X I hr 551 dL_follows_551 hpf
    refine lv_iconst (v := (1 : Int32)) hx hb dL_follows_546 (by decide) ?_
    refine lv_goto (tgt := 551) hx hb dL_follows_547 (by decide) ?_
    exact l_retzB X I hr 551 dL_follows_551 hpf
  have hC_176 : ∀ (n_176 : Nat), ∀ (x1 : Int32) (x16 : Int32) (x17 : Int32) (x18 : Int32) (x19 : Int32) (x21 : Int32) (x22 : Int32) (x23 : Int32) (x24 : Int32) (x25 : Int32) (x26 : Int32) (S : kS) (L : lS) (C D : Nat) (hCD : C ≤ 600 ∧ D ≤ 22500) (H : Heap) (locs : List Loc), lV dC dI g a (lFr g a Si Li sz) s Si S L H locs → ∀ ls : Array Slot, lv_has ls 32 [(0, .ref (g.2.1 0)), (1, .int x1), (3, .ref (a 0)), (4, .ref (a 1)), (5, .ref (a 2)), (6, .ref (a 3)), (7, .ref (a 4)), (8, .ref (a 5)), (9, .ref (a 6)), (10, .ref (a 7)), (11, .ref (a 8)), (12, .ref (a 9)), (13, .ref (a 10)), (14, .ref (a 11)), (15, .ref (a 12)), (16, .int x16), (17, .int x17), (18, .int x18), (19, .int x19), (21, .int x21), (22, .int x22), (23, .int x23), (24, .int x24), (25, .int x25), (26, .int x26)] → pL_follows_176 N (pL_follows_518 N) n_176 x1 x16 x17 x18 x19 x21 x22 x23 x24 x25 x26 S L C D = some (r, Sf, Lf) → W p l e (lRm 10 373 600 22500) s m args below meth c H locs C D (MQ below (lQ dC dI g a sz Si Li (qI r) Sf Lf) args s 600 22500 (lFr g a Si Li sz)) (F0 m 176 ls []) := by
    intro n_176
    induction n_176 with
    | zero =>
      intro x1 x16 x17 x18 x19 x21 x22 x23 x24 x25 x26 S L C D hCD H locs I ls hl hpf
      rw [pL_follows_176] at hpf
      cases hpf
    | succ n_176 ih_176 =>
      have hC_512 : ∀ (x1 : Int32) (x16 : Int32) (x17 : Int32) (x18 : Int32) (x19 : Int32) (x21 : Int32) (x22 : Int32) (x23 : Int32) (x24 : Int32) (x26 : Int32) (S : kS) (L : lS) (C D : Nat) (hCD : C ≤ 600 ∧ D ≤ 22500) (H : Heap) (locs : List Loc), lV dC dI g a (lFr g a Si Li sz) s Si S L H locs → ∀ ls : Array Slot, lv_has ls 32 [(0, .ref (g.2.1 0)), (1, .int x1), (3, .ref (a 0)), (4, .ref (a 1)), (5, .ref (a 2)), (6, .ref (a 3)), (7, .ref (a 4)), (8, .ref (a 5)), (9, .ref (a 6)), (10, .ref (a 7)), (11, .ref (a 8)), (12, .ref (a 9)), (13, .ref (a 10)), (14, .ref (a 11)), (15, .ref (a 12)), (16, .int x16), (17, .int x17), (18, .int x18), (19, .int x19), (21, .int x21), (22, .int x22), (23, .int x23), (24, .int x24), (26, .int x26)] → pL_follows_512 N (pL_follows_176 N (pL_follows_518 N) n_176) x1 x16 x17 x18 x19 x21 x22 x23 x24 x26 S L C D = some (r, Sf, Lf) → W p l e (lRm 10 373 600 22500) s m args below meth c H locs C D (MQ below (lQ dC dI g a sz Si Li (qI r) Sf Lf) args s 600 22500 (lFr g a Si Li sz)) (F0 m 512 ls []) := by
        intro x1 x16 x17 x18 x19 x21 x22 x23 x24 x26 S L C D hCD H locs I ls hl hpf
        unfold pL_follows_512 at hpf
        refine lv_iconst (v := (0 : Int32)) hx hb dL_follows_512 (by decide) ?_
        refine lv_istore (lv' := [(25, .int (0 : Int32)), (0, .ref (g.2.1 0)), (1, .int x1), (3, .ref (a 0)), (4, .ref (a 1)), (5, .ref (a 2)), (6, .ref (a 3)), (7, .ref (a 4)), (8, .ref (a 5)), (9, .ref (a 6)), (10, .ref (a 7)), (11, .ref (a 8)), (12, .ref (a 9)), (13, .ref (a 10)), (14, .ref (a 11)), (15, .ref (a 12)), (16, .int x16), (17, .int x17), (18, .int x18), (19, .int x19), (21, .int x21), (22, .int x22), (23, .int x23), (24, .int x24), (26, .int x26)]) hx hb dL_follows_513 hl (by decide) rfl (fun ls hl => ?_)
        refine lv_goto (tgt := 176) hx hb dL_follows_515 (by decide) ?_
        exact ih_176 x1 x16 x17 x18 x19 x21 x22 x23 x24 (0 : Int32) x26 S L C D hCD H locs I ls (lv_sub hl [1, 2, 3, 4, 5, 6, 7, 8, 9, 10, 11, 12, 13, 14, 15, 16, 17, 18, 19, 20, 21, 22, 23, 0, 24] rfl) hpf
      have hC_333 : ∀ (n_333 : Nat), ∀ (x1 : Int32) (x16 : Int32) (x17 : Int32) (x18 : Int32) (x19 : Int32) (x21 : Int32) (x22 : Int32) (x23 : Int32) (x24 : Int32) (x25 : Int32) (x26 : Int32) (x27 : Int32) (x28 : Int32) (x29 : Int32) (S : kS) (L : lS) (C D : Nat) (hCD : C ≤ 600 ∧ D ≤ 22500) (H : Heap) (locs : List Loc), lV dC dI g a (lFr g a Si Li sz) s Si S L H locs → ∀ ls : Array Slot, lv_has ls 32 [(0, .ref (g.2.1 0)), (1, .int x1), (3, .ref (a 0)), (4, .ref (a 1)), (5, .ref (a 2)), (6, .ref (a 3)), (7, .ref (a 4)), (8, .ref (a 5)), (9, .ref (a 6)), (10, .ref (a 7)), (11, .ref (a 8)), (12, .ref (a 9)), (13, .ref (a 10)), (14, .ref (a 11)), (15, .ref (a 12)), (16, .int x16), (17, .int x17), (18, .int x18), (19, .int x19), (21, .int x21), (22, .int x22), (23, .int x23), (24, .int x24), (25, .int x25), (26, .int x26), (27, .int x27), (28, .int x28), (29, .int x29)] → pL_follows_333 N (pL_follows_512 N (pL_follows_176 N (pL_follows_518 N) n_176)) n_333 x1 x16 x17 x18 x19 x21 x22 x23 x24 x25 x26 x27 x28 x29 S L C D = some (r, Sf, Lf) → W p l e (lRm 10 373 600 22500) s m args below meth c H locs C D (MQ below (lQ dC dI g a sz Si Li (qI r) Sf Lf) args s 600 22500 (lFr g a Si Li sz)) (F0 m 333 ls []) := by
        intro n_333
        induction n_333 with
        | zero =>
          intro x1 x16 x17 x18 x19 x21 x22 x23 x24 x25 x26 x27 x28 x29 S L C D hCD H locs I ls hl hpf
          rw [pL_follows_333] at hpf
          cases hpf
        | succ n_333 ih_333 =>
          have hC_506 : ∀ (x1 : Int32) (x16 : Int32) (x17 : Int32) (x18 : Int32) (x19 : Int32) (x21 : Int32) (x22 : Int32) (x23 : Int32) (x24 : Int32) (x25 : Int32) (x26 : Int32) (x27 : Int32) (x28 : Int32) (x29 : Int32) (S : kS) (L : lS) (C D : Nat) (hCD : C ≤ 600 ∧ D ≤ 22500) (H : Heap) (locs : List Loc), lV dC dI g a (lFr g a Si Li sz) s Si S L H locs → ∀ ls : Array Slot, lv_has ls 32 [(0, .ref (g.2.1 0)), (1, .int x1), (3, .ref (a 0)), (4, .ref (a 1)), (5, .ref (a 2)), (6, .ref (a 3)), (7, .ref (a 4)), (8, .ref (a 5)), (9, .ref (a 6)), (10, .ref (a 7)), (11, .ref (a 8)), (12, .ref (a 9)), (13, .ref (a 10)), (14, .ref (a 11)), (15, .ref (a 12)), (16, .int x16), (17, .int x17), (18, .int x18), (19, .int x19), (21, .int x21), (22, .int x22), (23, .int x23), (24, .int x24), (25, .int x25), (26, .int x26), (27, .int x27), (28, .int x28), (29, .int x29)] → pL_follows_506 N (pL_follows_333 N (pL_follows_512 N (pL_follows_176 N (pL_follows_518 N) n_176)) n_333) x1 x16 x17 x18 x19 x21 x22 x23 x24 x25 x26 x27 x28 x29 S L C D = some (r, Sf, Lf) → W p l e (lRm 10 373 600 22500) s m args below meth c H locs C D (MQ below (lQ dC dI g a sz Si Li (qI r) Sf Lf) args s 600 22500 (lFr g a Si Li sz)) (F0 m 506 ls []) := by
            intro x1 x16 x17 x18 x19 x21 x22 x23 x24 x25 x26 x27 x28 x29 S L C D hCD H locs I ls hl hpf
            unfold pL_follows_506 at hpf
            refine m_iinc (w := (-1 : Int32)) hx hb (fun y101 => [(29, .int y101), (0, .ref (g.2.1 0)), (1, .int x1), (3, .ref (a 0)), (4, .ref (a 1)), (5, .ref (a 2)), (6, .ref (a 3)), (7, .ref (a 4)), (8, .ref (a 5)), (9, .ref (a 6)), (10, .ref (a 7)), (11, .ref (a 8)), (12, .ref (a 9)), (13, .ref (a 10)), (14, .ref (a 11)), (15, .ref (a 12)), (16, .int x16), (17, .int x17), (18, .int x18), (19, .int x19), (21, .int x21), (22, .int x22), (23, .int x23), (24, .int x24), (25, .int x25), (26, .int x26), (27, .int x27), (28, .int x28)]) 506 dL_follows_506 hl (k := 27) rfl (by decide) (by decide) (fun _ => rfl) hpf (fun y101 ls hl hpf => ?_)
            refine lv_goto (tgt := 333) hx hb dL_follows_509 (by decide) ?_
            exact ih_333 x1 x16 x17 x18 x19 x21 x22 x23 x24 x25 x26 x27 x28 y101 S L C D hCD H locs I ls (lv_sub hl [1, 2, 3, 4, 5, 6, 7, 8, 9, 10, 11, 12, 13, 14, 15, 16, 17, 18, 19, 20, 21, 22, 23, 24, 25, 26, 27, 0] rfl) hpf
          have hC_363 : ∀ (n_363 : Nat), ∀ (x1 : Int32) (x16 : Int32) (x17 : Int32) (x18 : Int32) (x19 : Int32) (x21 : Int32) (x22 : Int32) (x23 : Int32) (x24 : Int32) (x25 : Int32) (x26 : Int32) (x27 : Int32) (x28 : Int32) (x29 : Int32) (x30 : Int32) (S : kS) (L : lS) (C D : Nat) (hCD : C ≤ 600 ∧ D ≤ 22500) (H : Heap) (locs : List Loc), lV dC dI g a (lFr g a Si Li sz) s Si S L H locs → ∀ ls : Array Slot, lv_has ls 32 [(0, .ref (g.2.1 0)), (1, .int x1), (3, .ref (a 0)), (4, .ref (a 1)), (5, .ref (a 2)), (6, .ref (a 3)), (7, .ref (a 4)), (8, .ref (a 5)), (9, .ref (a 6)), (10, .ref (a 7)), (11, .ref (a 8)), (12, .ref (a 9)), (13, .ref (a 10)), (14, .ref (a 11)), (15, .ref (a 12)), (16, .int x16), (17, .int x17), (18, .int x18), (19, .int x19), (21, .int x21), (22, .int x22), (23, .int x23), (24, .int x24), (25, .int x25), (26, .int x26), (27, .int x27), (28, .int x28), (29, .int x29), (30, .int x30)] → pL_follows_363 N (pL_follows_506 N (pL_follows_333 N (pL_follows_512 N (pL_follows_176 N (pL_follows_518 N) n_176)) n_333)) n_363 x1 x16 x17 x18 x19 x21 x22 x23 x24 x25 x26 x27 x28 x29 x30 S L C D = some (r, Sf, Lf) → W p l e (lRm 10 373 600 22500) s m args below meth c H locs C D (MQ below (lQ dC dI g a sz Si Li (qI r) Sf Lf) args s 600 22500 (lFr g a Si Li sz)) (F0 m 363 ls []) := by
            intro n_363
            induction n_363 with
            | zero =>
              intro x1 x16 x17 x18 x19 x21 x22 x23 x24 x25 x26 x27 x28 x29 x30 S L C D hCD H locs I ls hl hpf
              rw [pL_follows_363] at hpf
              cases hpf
            | succ n_363 ih_363 =>
              have hC_497 : ∀ (t0 : Int32) (t1 : Int32) (x1 : Int32) (x16 : Int32) (x17 : Int32) (x18 : Int32) (x19 : Int32) (x21 : Int32) (x22 : Int32) (x24 : Int32) (x25 : Int32) (x26 : Int32) (x27 : Int32) (x28 : Int32) (x29 : Int32) (x30 : Int32) (S : kS) (L : lS) (C D : Nat) (hCD : C ≤ 600 ∧ D ≤ 22500) (H : Heap) (locs : List Loc), lV dC dI g a (lFr g a Si Li sz) s Si S L H locs → ∀ ls : Array Slot, lv_has ls 32 [(0, .ref (g.2.1 0)), (1, .int x1), (3, .ref (a 0)), (4, .ref (a 1)), (5, .ref (a 2)), (6, .ref (a 3)), (7, .ref (a 4)), (8, .ref (a 5)), (9, .ref (a 6)), (10, .ref (a 7)), (11, .ref (a 8)), (12, .ref (a 9)), (13, .ref (a 10)), (14, .ref (a 11)), (15, .ref (a 12)), (16, .int x16), (17, .int x17), (18, .int x18), (19, .int x19), (21, .int x21), (22, .int x22), (24, .int x24), (25, .int x25), (26, .int x26), (27, .int x27), (28, .int x28), (29, .int x29), (30, .int x30)] → pL_follows_497 N (pL_follows_363 N (pL_follows_506 N (pL_follows_333 N (pL_follows_512 N (pL_follows_176 N (pL_follows_518 N) n_176)) n_333)) n_363) t0 t1 x1 x16 x17 x18 x19 x21 x22 x24 x25 x26 x27 x28 x29 x30 S L C D = some (r, Sf, Lf) → W p l e (lRm 10 373 600 22500) s m args below meth c H locs C D (MQ below (lQ dC dI g a sz Si Li (qI r) Sf Lf) args s 600 22500 (lFr g a Si Li sz)) (F0 m 497 ls [.int t0, .int t1]) := by
                intro t0 t1 x1 x16 x17 x18 x19 x21 x22 x24 x25 x26 x27 x28 x29 x30 S L C D hCD H locs I ls hl hpf
                unfold pL_follows_497 at hpf
                refine lv_iadd hx hb dL_follows_497 ?_
                refine m_isto hx hb (fun y101 => [(23, .int y101), (0, .ref (g.2.1 0)), (1, .int x1), (3, .ref (a 0)), (4, .ref (a 1)), (5, .ref (a 2)), (6, .ref (a 3)), (7, .ref (a 4)), (8, .ref (a 5)), (9, .ref (a 6)), (10, .ref (a 7)), (11, .ref (a 8)), (12, .ref (a 9)), (13, .ref (a 10)), (14, .ref (a 11)), (15, .ref (a 12)), (16, .int x16), (17, .int x17), (18, .int x18), (19, .int x19), (21, .int x21), (22, .int x22), (24, .int x24), (25, .int x25), (26, .int x26), (27, .int x27), (28, .int x28), (29, .int x29), (30, .int x30)]) 498 dL_follows_498 hl (by decide) (fun _ => rfl) hpf (fun y101 ls hl hpf => ?_)
                refine m_iinc (w := (1 : Int32)) hx hb (fun y102 => [(30, .int y102), (23, .int y101), (0, .ref (g.2.1 0)), (1, .int x1), (3, .ref (a 0)), (4, .ref (a 1)), (5, .ref (a 2)), (6, .ref (a 3)), (7, .ref (a 4)), (8, .ref (a 5)), (9, .ref (a 6)), (10, .ref (a 7)), (11, .ref (a 8)), (12, .ref (a 9)), (13, .ref (a 10)), (14, .ref (a 11)), (15, .ref (a 12)), (16, .int x16), (17, .int x17), (18, .int x18), (19, .int x19), (21, .int x21), (22, .int x22), (24, .int x24), (25, .int x25), (26, .int x26), (27, .int x27), (28, .int x28), (29, .int x29)]) 500 dL_follows_500 hl (k := 28) rfl (by decide) (by decide) (fun _ => rfl) hpf (fun y102 ls hl hpf => ?_)
                refine lv_goto (tgt := 363) hx hb dL_follows_503 (by decide) ?_
                exact ih_363 x1 x16 x17 x18 x19 x21 x22 y101 x24 x25 x26 x27 x28 x29 y102 S L C D hCD H locs I ls (lv_sub hl [2, 3, 4, 5, 6, 7, 8, 9, 10, 11, 12, 13, 14, 15, 16, 17, 18, 19, 20, 21, 22, 1, 23, 24, 25, 26, 27, 28, 0] rfl) hpf
              have hC_484 : ∀ (t0 : Int32) (t1 : Int32) (x1 : Int32) (x16 : Int32) (x17 : Int32) (x18 : Int32) (x19 : Int32) (x21 : Int32) (x22 : Int32) (x23 : Int32) (x24 : Int32) (x25 : Int32) (x26 : Int32) (x27 : Int32) (x28 : Int32) (x29 : Int32) (x30 : Int32) (x31 : Int32) (S : kS) (L : lS) (C D : Nat) (hCD : C ≤ 600 ∧ D ≤ 22500) (H : Heap) (locs : List Loc), lV dC dI g a (lFr g a Si Li sz) s Si S L H locs → ∀ ls : Array Slot, lv_has ls 32 [(0, .ref (g.2.1 0)), (1, .int x1), (3, .ref (a 0)), (4, .ref (a 1)), (5, .ref (a 2)), (6, .ref (a 3)), (7, .ref (a 4)), (8, .ref (a 5)), (9, .ref (a 6)), (10, .ref (a 7)), (11, .ref (a 8)), (12, .ref (a 9)), (13, .ref (a 10)), (14, .ref (a 11)), (15, .ref (a 12)), (16, .int x16), (17, .int x17), (18, .int x18), (19, .int x19), (21, .int x21), (22, .int x22), (23, .int x23), (24, .int x24), (25, .int x25), (26, .int x26), (27, .int x27), (28, .int x28), (29, .int x29), (30, .int x30), (31, .int x31)] → pL_follows_484 N (pL_follows_363 N (pL_follows_506 N (pL_follows_333 N (pL_follows_512 N (pL_follows_176 N (pL_follows_518 N) n_176)) n_333)) n_363) t0 t1 x1 x16 x17 x18 x19 x21 x22 x23 x24 x25 x26 x27 x28 x29 x30 x31 S L C D = some (r, Sf, Lf) → W p l e (lRm 10 373 600 22500) s m args below meth c H locs C D (MQ below (lQ dC dI g a sz Si Li (qI r) Sf Lf) args s 600 22500 (lFr g a Si Li sz)) (F0 m 484 ls [.int t0, .int t1, .ref (a 12)]) := by
                intro t0 t1 x1 x16 x17 x18 x19 x21 x22 x23 x24 x25 x26 x27 x28 x29 x30 x31 S L C D hCD H locs I ls hl hpf
                unfold pL_follows_484 at hpf
                refine l_iast X I lR_12 484 dL_follows_484 hpf (fun L101 H locs I hpf => ?_)
                refine lv_iload hx hb dL_follows_485 (lv_at hl 21 rfl) ?_
                refine lv_iload hx hb dL_follows_487 (lv_at hl 29 rfl) ?_
                refine b_if_eq hx hb 496 489 dL_follows_489 (by decide) hpf (fun hpf => ?_) (fun hpf => ?_)
                · refine lv_iconst (v := (0 : Int32)) hx hb dL_follows_496 (by decide) ?_
                  exact hC_497 (0 : Int32) x23 x1 x16 x17 x18 x19 x21 x22 x24 x25 x26 x27 x28 x29 x30 S L101 C D hCD H locs I ls (lv_sub hl [0, 1, 2, 3, 4, 5, 6, 7, 8, 9, 10, 11, 12, 13, 14, 15, 16, 17, 18, 19, 20, 22, 23, 24, 25, 26, 27, 28] rfl) hpf
                refine lv_iconst (v := (1 : Int32)) hx hb dL_follows_492 (by decide) ?_
                refine lv_goto (tgt := 497) hx hb dL_follows_493 (by decide) ?_
                exact hC_497 (1 : Int32) x23 x1 x16 x17 x18 x19 x21 x22 x24 x25 x26 x27 x28 x29 x30 S L101 C D hCD H locs I ls (lv_sub hl [0, 1, 2, 3, 4, 5, 6, 7, 8, 9, 10, 11, 12, 13, 14, 15, 16, 17, 18, 19, 20, 22, 23, 24, 25, 26, 27, 28] rfl) hpf
              have hC_460 : ∀ (t0 : Int32) (x1 : Int32) (x16 : Int32) (x17 : Int32) (x18 : Int32) (x19 : Int32) (x21 : Int32) (x22 : Int32) (x23 : Int32) (x24 : Int32) (x25 : Int32) (x26 : Int32) (x27 : Int32) (x28 : Int32) (x29 : Int32) (x30 : Int32) (x31 : Int32) (S : kS) (L : lS) (C D : Nat) (hCD : C ≤ 600 ∧ D ≤ 22500) (H : Heap) (locs : List Loc), lV dC dI g a (lFr g a Si Li sz) s Si S L H locs → ∀ ls : Array Slot, lv_has ls 32 [(0, .ref (g.2.1 0)), (1, .int x1), (3, .ref (a 0)), (4, .ref (a 1)), (5, .ref (a 2)), (6, .ref (a 3)), (7, .ref (a 4)), (8, .ref (a 5)), (9, .ref (a 6)), (10, .ref (a 7)), (11, .ref (a 8)), (12, .ref (a 9)), (13, .ref (a 10)), (14, .ref (a 11)), (15, .ref (a 12)), (16, .int x16), (17, .int x17), (18, .int x18), (19, .int x19), (21, .int x21), (22, .int x22), (23, .int x23), (24, .int x24), (25, .int x25), (26, .int x26), (27, .int x27), (28, .int x28), (29, .int x29), (30, .int x30), (31, .int x31)] → pL_follows_460 N (pL_follows_363 N (pL_follows_506 N (pL_follows_333 N (pL_follows_512 N (pL_follows_176 N (pL_follows_518 N) n_176)) n_333)) n_363) t0 x1 x16 x17 x18 x19 x21 x22 x23 x24 x25 x26 x27 x28 x29 x30 x31 S L C D = some (r, Sf, Lf) → W p l e (lRm 10 373 600 22500) s m args below meth c H locs C D (MQ below (lQ dC dI g a sz Si Li (qI r) Sf Lf) args s 600 22500 (lFr g a Si Li sz)) (F0 m 460 ls [.int t0, .ref (a 12)]) := by
                intro t0 x1 x16 x17 x18 x19 x21 x22 x23 x24 x25 x26 x27 x28 x29 x30 x31 S L C D hCD H locs I ls hl hpf
                unfold pL_follows_460 at hpf
                refine lv_iload hx hb dL_follows_460 (lv_at hl 29 rfl) ?_
                refine b_if_eq hx hb 479 462 dL_follows_462 (by decide) hpf (fun hpf => ?_) (fun hpf => ?_)
                · refine lv_aload hx hb dL_follows_479 (lv_at hl 14 rfl) ?_
                  refine lv_bipush (v := (63 : Int32)) hx hb dL_follows_481 (by decide) ?_
                  refine l_iald X I lR_12 483 dL_follows_483 hpf (fun hpf => ?_)
                  exact hC_484 (aI L 12 (63 : Int32).toNatClampNeg) t0 x1 x16 x17 x18 x19 x21 x22 x23 x24 x25 x26 x27 x28 x29 x30 x31 S L C D hCD H locs I ls (lv_sub hl [0, 1, 2, 3, 4, 5, 6, 7, 8, 9, 10, 11, 12, 13, 14, 15, 16, 17, 18, 19, 20, 21, 22, 23, 24, 25, 26, 27, 28, 29] rfl) hpf
                refine lv_iload hx hb dL_follows_465 (lv_at hl 25 rfl) ?_
                refine lv_bipush (v := (100 : Int32)) hx hb dL_follows_467 (by decide) ?_
                refine lv_idiv hx hb dL_follows_469 (by decide) ?_
                refine lv_bipush (v := (100 : Int32)) hx hb dL_follows_470 (by decide) ?_
                refine lv_imul hx hb dL_follows_472 ?_
                refine lv_iload hx hb dL_follows_473 (lv_at hl 28 rfl) ?_
                refine lv_iadd hx hb dL_follows_475 ?_
                refine lv_goto (tgt := 484) hx hb dL_follows_476 (by decide) ?_
                exact hC_484 (((x27 / (100 : Int32)) * (100 : Int32)) + x30) t0 x1 x16 x17 x18 x19 x21 x22 x23 x24 x25 x26 x27 x28 x29 x30 x31 S L C D hCD H locs I ls (lv_sub hl [0, 1, 2, 3, 4, 5, 6, 7, 8, 9, 10, 11, 12, 13, 14, 15, 16, 17, 18, 19, 20, 21, 22, 23, 24, 25, 26, 27, 28, 29] rfl) hpf
              have hC_444 : ∀ (t0 : Int32) (x1 : Int32) (x16 : Int32) (x17 : Int32) (x18 : Int32) (x19 : Int32) (x21 : Int32) (x22 : Int32) (x23 : Int32) (x24 : Int32) (x25 : Int32) (x26 : Int32) (x27 : Int32) (x28 : Int32) (x29 : Int32) (x30 : Int32) (S : kS) (L : lS) (C D : Nat) (hCD : C ≤ 600 ∧ D ≤ 22500) (H : Heap) (locs : List Loc), lV dC dI g a (lFr g a Si Li sz) s Si S L H locs → ∀ ls : Array Slot, lv_has ls 32 [(0, .ref (g.2.1 0)), (1, .int x1), (3, .ref (a 0)), (4, .ref (a 1)), (5, .ref (a 2)), (6, .ref (a 3)), (7, .ref (a 4)), (8, .ref (a 5)), (9, .ref (a 6)), (10, .ref (a 7)), (11, .ref (a 8)), (12, .ref (a 9)), (13, .ref (a 10)), (14, .ref (a 11)), (15, .ref (a 12)), (16, .int x16), (17, .int x17), (18, .int x18), (19, .int x19), (21, .int x21), (22, .int x22), (23, .int x23), (24, .int x24), (25, .int x25), (26, .int x26), (27, .int x27), (28, .int x28), (29, .int x29), (30, .int x30)] → pL_follows_444 N (pL_follows_363 N (pL_follows_506 N (pL_follows_333 N (pL_follows_512 N (pL_follows_176 N (pL_follows_518 N) n_176)) n_333)) n_363) t0 x1 x16 x17 x18 x19 x21 x22 x23 x24 x25 x26 x27 x28 x29 x30 S L C D = some (r, Sf, Lf) → W p l e (lRm 10 373 600 22500) s m args below meth c H locs C D (MQ below (lQ dC dI g a sz Si Li (qI r) Sf Lf) args s 600 22500 (lFr g a Si Li sz)) (F0 m 444 ls [.int t0]) := by
                intro t0 x1 x16 x17 x18 x19 x21 x22 x23 x24 x25 x26 x27 x28 x29 x30 S L C D hCD H locs I ls hl hpf
                unfold pL_follows_444 at hpf
                refine lv_istore (lv' := [(31, .int t0), (0, .ref (g.2.1 0)), (1, .int x1), (3, .ref (a 0)), (4, .ref (a 1)), (5, .ref (a 2)), (6, .ref (a 3)), (7, .ref (a 4)), (8, .ref (a 5)), (9, .ref (a 6)), (10, .ref (a 7)), (11, .ref (a 8)), (12, .ref (a 9)), (13, .ref (a 10)), (14, .ref (a 11)), (15, .ref (a 12)), (16, .int x16), (17, .int x17), (18, .int x18), (19, .int x19), (21, .int x21), (22, .int x22), (23, .int x23), (24, .int x24), (25, .int x25), (26, .int x26), (27, .int x27), (28, .int x28), (29, .int x29), (30, .int x30)]) hx hb dL_follows_444 hl (by decide) rfl (fun ls hl => ?_)
                refine lv_aload hx hb dL_follows_446 (lv_at hl 15 rfl) ?_
                refine lv_iload hx hb dL_follows_448 (lv_at hl 0 rfl) ?_
                refine b_if_eq hx hb 458 450 dL_follows_450 (by decide) hpf (fun hpf => ?_) (fun hpf => ?_)
                · refine lv_bipush (v := (63 : Int32)) hx hb dL_follows_458 (by decide) ?_
                  exact hC_460 (63 : Int32) x1 x16 x17 x18 x19 x21 x22 x23 x24 x25 x26 x27 x28 x29 x30 t0 S L C D hCD H locs I ls (lv_sub hl [1, 2, 3, 4, 5, 6, 7, 8, 9, 10, 11, 12, 13, 14, 15, 16, 17, 18, 19, 20, 21, 22, 23, 24, 25, 26, 27, 28, 29, 0] rfl) hpf
                refine lv_iload hx hb dL_follows_453 (lv_at hl 22 rfl) ?_
                refine lv_goto (tgt := 460) hx hb dL_follows_455 (by decide) ?_
                exact hC_460 x23 x1 x16 x17 x18 x19 x21 x22 x23 x24 x25 x26 x27 x28 x29 x30 t0 S L C D hCD H locs I ls (lv_sub hl [1, 2, 3, 4, 5, 6, 7, 8, 9, 10, 11, 12, 13, 14, 15, 16, 17, 18, 19, 20, 21, 22, 23, 24, 25, 26, 27, 28, 29, 0] rfl) hpf
              have hC_388 : ∀ (x1 : Int32) (x16 : Int32) (x17 : Int32) (x18 : Int32) (x19 : Int32) (x21 : Int32) (x22 : Int32) (x23 : Int32) (x24 : Int32) (x25 : Int32) (x26 : Int32) (x27 : Int32) (x28 : Int32) (x29 : Int32) (x30 : Int32) (S : kS) (L : lS) (C D : Nat) (hCD : C ≤ 600 ∧ D ≤ 22500) (H : Heap) (locs : List Loc), lV dC dI g a (lFr g a Si Li sz) s Si S L H locs → ∀ ls : Array Slot, lv_has ls 32 [(0, .ref (g.2.1 0)), (1, .int x1), (3, .ref (a 0)), (4, .ref (a 1)), (5, .ref (a 2)), (6, .ref (a 3)), (7, .ref (a 4)), (8, .ref (a 5)), (9, .ref (a 6)), (10, .ref (a 7)), (11, .ref (a 8)), (12, .ref (a 9)), (13, .ref (a 10)), (14, .ref (a 11)), (15, .ref (a 12)), (16, .int x16), (17, .int x17), (18, .int x18), (19, .int x19), (21, .int x21), (22, .int x22), (23, .int x23), (24, .int x24), (25, .int x25), (26, .int x26), (27, .int x27), (28, .int x28), (29, .int x29), (30, .int x30)] → pL_follows_388 N (pL_follows_363 N (pL_follows_506 N (pL_follows_333 N (pL_follows_512 N (pL_follows_176 N (pL_follows_518 N) n_176)) n_333)) n_363) x1 x16 x17 x18 x19 x21 x22 x23 x24 x25 x26 x27 x28 x29 x30 S L C D = some (r, Sf, Lf) → W p l e (lRm 10 373 600 22500) s m args below meth c H locs C D (MQ below (lQ dC dI g a sz Si Li (qI r) Sf Lf) args s 600 22500 (lFr g a Si Li sz)) (F0 m 388 ls []) := by
                intro x1 x16 x17 x18 x19 x21 x22 x23 x24 x25 x26 x27 x28 x29 x30 S L C D hCD H locs I ls hl hpf
                unfold pL_follows_388 at hpf
                refine lv_aload hx hb dL_follows_388 (lv_at hl 11 rfl) ?_
                refine lv_iconst (v := (3 : Int32)) hx hb dL_follows_390 (by decide) ?_
                refine lv_iload hx hb dL_follows_391 (lv_at hl 28 rfl) ?_
                refine lv_imul hx hb dL_follows_393 ?_
                refine l_iald X I lR_9 394 dL_follows_394 hpf (fun hpf => ?_)
                refine lv_iconst (v := (1 : Int32)) hx hb dL_follows_395 (by decide) ?_
                refine b_icmp_ne hx hb 443 396 dL_follows_396 (by decide) hpf (fun hpf => ?_) (fun hpf => ?_)
                · refine lv_iconst (v := (0 : Int32)) hx hb dL_follows_443 (by decide) ?_
                  exact hC_444 (0 : Int32) x1 x16 x17 x18 x19 x21 x22 x23 x24 x25 x26 x27 x28 x29 x30 S L C D hCD H locs I ls (lv_sub hl [0, 1, 2, 3, 4, 5, 6, 7, 8, 9, 10, 11, 12, 13, 14, 15, 16, 17, 18, 19, 20, 21, 22, 23, 24, 25, 26, 27, 28] rfl) hpf
                refine lv_iload hx hb dL_follows_399 (lv_at hl 28 rfl) ?_
                refine lv_aload hx hb dL_follows_401 (lv_at hl 11 rfl) ?_
                refine l_cAI (rest := []) (As := [.int x30, .ref (a 9)]) X I fL_place (c_L_place l hlt N x30) rfl ⟨Nat.le_of_ble_eq_true rfl, Nat.le_of_ble_eq_true rfl⟩ 403 dL_follows_403 rfl hl.1 rfl (Nat.le_of_ble_eq_true rfl) hCD hpf (fun v101 L102 H locs I hpf => ?_)
                refine lv_iload hx hb dL_follows_406 (lv_at hl 26 rfl) ?_
                refine b_icmp_ne hx hb 443 408 dL_follows_408 (by decide) hpf (fun hpf => ?_) (fun hpf => ?_)
                · refine lv_iconst (v := (0 : Int32)) hx hb dL_follows_443 (by decide) ?_
                  exact hC_444 (0 : Int32) x1 x16 x17 x18 x19 x21 x22 x23 x24 x25 x26 x27 x28 x29 x30 S L102 C D hCD H locs I ls (lv_sub hl [0, 1, 2, 3, 4, 5, 6, 7, 8, 9, 10, 11, 12, 13, 14, 15, 16, 17, 18, 19, 20, 21, 22, 23, 24, 25, 26, 27, 28] rfl) hpf
                refine lv_iload hx hb dL_follows_411 (lv_at hl 25 rfl) ?_
                refine lv_bipush (v := (100 : Int32)) hx hb dL_follows_413 (by decide) ?_
                refine lv_idiv hx hb dL_follows_415 (by decide) ?_
                refine lv_iload hx hb dL_follows_416 (lv_at hl 28 rfl) ?_
                refine lv_aload_n hx hb dL_follows_418 rfl (lv_at hl 2 rfl) ?_
                refine lv_aload hx hb dL_follows_419 (lv_at hl 4 rfl) ?_
                refine lv_aload hx hb dL_follows_421 (lv_at hl 5 rfl) ?_
                refine lv_aload hx hb dL_follows_423 (lv_at hl 6 rfl) ?_
                refine lv_aload hx hb dL_follows_425 (lv_at hl 7 rfl) ?_
                refine lv_aload hx hb dL_follows_427 (lv_at hl 10 rfl) ?_
                refine lv_aload hx hb dL_follows_429 (lv_at hl 11 rfl) ?_
                refine l_cAI (rest := []) (As := [.int (x27 / (100 : Int32)), .int x30, .ref (a 0), .ref (a 2), .ref (a 3), .ref (a 4), .ref (a 5), .ref (a 8), .ref (a 9)]) X I fL_shown (c_L_shown l hlt N (x27 / (100 : Int32)) x30) rfl ⟨Nat.le_of_ble_eq_true rfl, Nat.le_of_ble_eq_true rfl⟩ 431 dL_follows_431 rfl hl.1 rfl (Nat.le_of_ble_eq_true rfl) hCD hpf (fun v103 L104 H locs I hpf => ?_)
                refine lv_iload hx hb dL_follows_434 (lv_at hl 27 rfl) ?_
                refine b_icmp_ne hx hb 443 436 dL_follows_436 (by decide) hpf (fun hpf => ?_) (fun hpf => ?_)
                · refine lv_iconst (v := (0 : Int32)) hx hb dL_follows_443 (by decide) ?_
                  exact hC_444 (0 : Int32) x1 x16 x17 x18 x19 x21 x22 x23 x24 x25 x26 x27 x28 x29 x30 S L104 C D hCD H locs I ls (lv_sub hl [0, 1, 2, 3, 4, 5, 6, 7, 8, 9, 10, 11, 12, 13, 14, 15, 16, 17, 18, 19, 20, 21, 22, 23, 24, 25, 26, 27, 28] rfl) hpf
                refine lv_iconst (v := (1 : Int32)) hx hb dL_follows_439 (by decide) ?_
                refine lv_goto (tgt := 444) hx hb dL_follows_440 (by decide) ?_
                exact hC_444 (1 : Int32) x1 x16 x17 x18 x19 x21 x22 x23 x24 x25 x26 x27 x28 x29 x30 S L104 C D hCD H locs I ls (lv_sub hl [0, 1, 2, 3, 4, 5, 6, 7, 8, 9, 10, 11, 12, 13, 14, 15, 16, 17, 18, 19, 20, 21, 22, 23, 24, 25, 26, 27, 28] rfl) hpf
              intro x1 x16 x17 x18 x19 x21 x22 x23 x24 x25 x26 x27 x28 x29 x30 S L C D hCD H locs I ls hl hpf
              rw [pL_follows_363] at hpf
              refine lv_iload hx hb dL_follows_363 (lv_at hl 28 rfl) ?_
              refine lv_aload_n hx hb dL_follows_365 rfl (lv_at hl 2 rfl) ?_
              refine lv_iconst (v := (0 : Int32)) hx hb dL_follows_366 (by decide) ?_
              refine l_iald X I lR_0 367 dL_follows_367 hpf (fun hpf => ?_)
              refine b_icmp_ge hx hb 506 368 dL_follows_368 (by decide) hpf (fun hpf => ?_) (fun hpf => ?_)
              · exact hC_506 x1 x16 x17 x18 x19 x21 x22 x23 x24 x25 x26 x27 x28 x29 S L C D hCD H locs I ls (lv_sub hl [0, 1, 2, 3, 4, 5, 6, 7, 8, 9, 10, 11, 12, 13, 14, 15, 16, 17, 18, 19, 20, 21, 22, 23, 24, 25, 26, 27] rfl) hpf
              refine lv_iload hx hb dL_follows_371 (lv_at hl 27 rfl) ?_
              refine lv_bipush (v := (100 : Int32)) hx hb dL_follows_373 (by decide) ?_
              refine b_icmp_lt hx hb 388 375 dL_follows_375 (by decide) hpf (fun hpf => ?_) (fun hpf => ?_)
              · exact hC_388 x1 x16 x17 x18 x19 x21 x22 x23 x24 x25 x26 x27 x28 x29 x30 S L C D hCD H locs I ls (lv_sub hl [0, 1, 2, 3, 4, 5, 6, 7, 8, 9, 10, 11, 12, 13, 14, 15, 16, 17, 18, 19, 20, 21, 22, 23, 24, 25, 26, 27, 28] rfl) hpf
              refine lv_iload hx hb dL_follows_378 (lv_at hl 27 rfl) ?_
              refine lv_bipush (v := (100 : Int32)) hx hb dL_follows_380 (by decide) ?_
              refine lv_iload hx hb dL_follows_382 (lv_at hl 28 rfl) ?_
              refine lv_iadd hx hb dL_follows_384 ?_
              refine b_icmp_ne hx hb 443 385 dL_follows_385 (by decide) hpf (fun hpf => ?_) (fun hpf => ?_)
              · refine lv_iconst (v := (0 : Int32)) hx hb dL_follows_443 (by decide) ?_
                exact hC_444 (0 : Int32) x1 x16 x17 x18 x19 x21 x22 x23 x24 x25 x26 x27 x28 x29 x30 S L C D hCD H locs I ls (lv_sub hl [0, 1, 2, 3, 4, 5, 6, 7, 8, 9, 10, 11, 12, 13, 14, 15, 16, 17, 18, 19, 20, 21, 22, 23, 24, 25, 26, 27, 28] rfl) hpf
              exact hC_388 x1 x16 x17 x18 x19 x21 x22 x23 x24 x25 x26 x27 x28 x29 x30 S L C D hCD H locs I ls (lv_sub hl [0, 1, 2, 3, 4, 5, 6, 7, 8, 9, 10, 11, 12, 13, 14, 15, 16, 17, 18, 19, 20, 21, 22, 23, 24, 25, 26, 27, 28] rfl) hpf
          have hC_360 : ∀ (x1 : Int32) (x16 : Int32) (x17 : Int32) (x18 : Int32) (x19 : Int32) (x21 : Int32) (x22 : Int32) (x23 : Int32) (x24 : Int32) (x25 : Int32) (x26 : Int32) (x27 : Int32) (x28 : Int32) (x29 : Int32) (S : kS) (L : lS) (C D : Nat) (hCD : C ≤ 600 ∧ D ≤ 22500) (H : Heap) (locs : List Loc), lV dC dI g a (lFr g a Si Li sz) s Si S L H locs → ∀ ls : Array Slot, lv_has ls 32 [(0, .ref (g.2.1 0)), (1, .int x1), (3, .ref (a 0)), (4, .ref (a 1)), (5, .ref (a 2)), (6, .ref (a 3)), (7, .ref (a 4)), (8, .ref (a 5)), (9, .ref (a 6)), (10, .ref (a 7)), (11, .ref (a 8)), (12, .ref (a 9)), (13, .ref (a 10)), (14, .ref (a 11)), (15, .ref (a 12)), (16, .int x16), (17, .int x17), (18, .int x18), (19, .int x19), (21, .int x21), (22, .int x22), (23, .int x23), (24, .int x24), (25, .int x25), (26, .int x26), (27, .int x27), (28, .int x28), (29, .int x29)] → pL_follows_360 N (pL_follows_333 N (pL_follows_512 N (pL_follows_176 N (pL_follows_518 N) n_176)) n_333) x1 x16 x17 x18 x19 x21 x22 x23 x24 x25 x26 x27 x28 x29 S L C D = some (r, Sf, Lf) → W p l e (lRm 10 373 600 22500) s m args below meth c H locs C D (MQ below (lQ dC dI g a sz Si Li (qI r) Sf Lf) args s 600 22500 (lFr g a Si Li sz)) (F0 m 360 ls []) := by
            intro x1 x16 x17 x18 x19 x21 x22 x23 x24 x25 x26 x27 x28 x29 S L C D hCD H locs I ls hl hpf
            unfold pL_follows_360 at hpf
            refine lv_iconst (v := (1 : Int32)) hx hb dL_follows_360 (by decide) ?_
            refine lv_istore (lv' := [(30, .int (1 : Int32)), (0, .ref (g.2.1 0)), (1, .int x1), (3, .ref (a 0)), (4, .ref (a 1)), (5, .ref (a 2)), (6, .ref (a 3)), (7, .ref (a 4)), (8, .ref (a 5)), (9, .ref (a 6)), (10, .ref (a 7)), (11, .ref (a 8)), (12, .ref (a 9)), (13, .ref (a 10)), (14, .ref (a 11)), (15, .ref (a 12)), (16, .int x16), (17, .int x17), (18, .int x18), (19, .int x19), (21, .int x21), (22, .int x22), (23, .int x23), (24, .int x24), (25, .int x25), (26, .int x26), (27, .int x27), (28, .int x28), (29, .int x29)]) hx hb dL_follows_361 hl (by decide) rfl (fun ls hl => ?_)
            exact hC_363 N x1 x16 x17 x18 x19 x21 x22 x23 x24 x25 x26 x27 x28 x29 (1 : Int32) S L C D hCD H locs I ls (lv_sub hl [1, 2, 3, 4, 5, 6, 7, 8, 9, 10, 11, 12, 13, 14, 15, 16, 17, 18, 19, 20, 21, 22, 23, 24, 25, 26, 27, 28, 0] rfl) hpf
          intro x1 x16 x17 x18 x19 x21 x22 x23 x24 x25 x26 x27 x28 x29 S L C D hCD H locs I ls hl hpf
          rw [pL_follows_333] at hpf
          refine lv_iload hx hb dL_follows_333 (lv_at hl 27 rfl) ?_
          refine b_if_lt hx hb 512 335 dL_follows_335 (by decide) hpf (fun hpf => ?_) (fun hpf => ?_)
          · exact hC_512 x1 x16 x17 x18 x19 x21 x22 x23 x24 x26 S L C D hCD H locs I ls (lv_sub hl [0, 1, 2, 3, 4, 5, 6, 7, 8, 9, 10, 11, 12, 13, 14, 15, 16, 17, 18, 19, 20, 21, 22, 24] rfl) hpf
          refine lv_iload hx hb dL_follows_338 (lv_at hl 25 rfl) ?_
          refine b_if_lt hx hb 512 340 dL_follows_340 (by decide) hpf (fun hpf => ?_) (fun hpf => ?_)
          · exact hC_512 x1 x16 x17 x18 x19 x21 x22 x23 x24 x26 S L C D hCD H locs I ls (lv_sub hl [0, 1, 2, 3, 4, 5, 6, 7, 8, 9, 10, 11, 12, 13, 14, 15, 16, 17, 18, 19, 20, 21, 22, 24] rfl) hpf
          refine lv_iload hx hb dL_follows_343 (lv_at hl 19 rfl) ?_
          refine lv_iconst (v := (2 : Int32)) hx hb dL_follows_345 (by decide) ?_
          refine b_icmp_eq hx hb 360 346 dL_follows_346 (by decide) hpf (fun hpf => ?_) (fun hpf => ?_)
          · exact hC_360 x1 x16 x17 x18 x19 x21 x22 x23 x24 x25 x26 x27 x28 x29 S L C D hCD H locs I ls (lv_sub hl [0, 1, 2, 3, 4, 5, 6, 7, 8, 9, 10, 11, 12, 13, 14, 15, 16, 17, 18, 19, 20, 21, 22, 23, 24, 25, 26, 27] rfl) hpf
          refine lv_iload hx hb dL_follows_349 (lv_at hl 19 rfl) ?_
          refine lv_iconst (v := (1 : Int32)) hx hb dL_follows_351 (by decide) ?_
          refine b_icmp_ne hx hb 512 352 dL_follows_352 (by decide) hpf (fun hpf => ?_) (fun hpf => ?_)
          · exact hC_512 x1 x16 x17 x18 x19 x21 x22 x23 x24 x26 S L C D hCD H locs I ls (lv_sub hl [0, 1, 2, 3, 4, 5, 6, 7, 8, 9, 10, 11, 12, 13, 14, 15, 16, 17, 18, 19, 20, 21, 22, 24] rfl) hpf
          refine lv_iload hx hb dL_follows_355 (lv_at hl 23 rfl) ?_
          refine b_if_eq hx hb 512 357 dL_follows_357 (by decide) hpf (fun hpf => ?_) (fun hpf => ?_)
          · exact hC_512 x1 x16 x17 x18 x19 x21 x22 x23 x24 x26 S L C D hCD H locs I ls (lv_sub hl [0, 1, 2, 3, 4, 5, 6, 7, 8, 9, 10, 11, 12, 13, 14, 15, 16, 17, 18, 19, 20, 21, 22, 24] rfl) hpf
          exact hC_360 x1 x16 x17 x18 x19 x21 x22 x23 x24 x25 x26 x27 x28 x29 S L C D hCD H locs I ls (lv_sub hl [0, 1, 2, 3, 4, 5, 6, 7, 8, 9, 10, 11, 12, 13, 14, 15, 16, 17, 18, 19, 20, 21, 22, 23, 24, 25, 26, 27] rfl) hpf
      have hC_328 : ∀ (x1 : Int32) (x16 : Int32) (x17 : Int32) (x18 : Int32) (x19 : Int32) (x21 : Int32) (x22 : Int32) (x23 : Int32) (x24 : Int32) (x25 : Int32) (x26 : Int32) (x27 : Int32) (x28 : Int32) (S : kS) (L : lS) (C D : Nat) (hCD : C ≤ 600 ∧ D ≤ 22500) (H : Heap) (locs : List Loc), lV dC dI g a (lFr g a Si Li sz) s Si S L H locs → ∀ ls : Array Slot, lv_has ls 32 [(0, .ref (g.2.1 0)), (1, .int x1), (3, .ref (a 0)), (4, .ref (a 1)), (5, .ref (a 2)), (6, .ref (a 3)), (7, .ref (a 4)), (8, .ref (a 5)), (9, .ref (a 6)), (10, .ref (a 7)), (11, .ref (a 8)), (12, .ref (a 9)), (13, .ref (a 10)), (14, .ref (a 11)), (15, .ref (a 12)), (16, .int x16), (17, .int x17), (18, .int x18), (19, .int x19), (21, .int x21), (22, .int x22), (23, .int x23), (24, .int x24), (25, .int x25), (26, .int x26), (27, .int x27), (28, .int x28)] → pL_follows_328 N (pL_follows_176 N (pL_follows_518 N) n_176) x1 x16 x17 x18 x19 x21 x22 x23 x24 x25 x26 x27 x28 S L C D = some (r, Sf, Lf) → W p l e (lRm 10 373 600 22500) s m args below meth c H locs C D (MQ below (lQ dC dI g a sz Si Li (qI r) Sf Lf) args s 600 22500 (lFr g a Si Li sz)) (F0 m 328 ls []) := by
        intro x1 x16 x17 x18 x19 x21 x22 x23 x24 x25 x26 x27 x28 S L C D hCD H locs I ls hl hpf
        unfold pL_follows_328 at hpf
        refine lv_sipush (v := (147 : Int32)) hx hb dL_follows_328 (by decide) ?_
        refine lv_istore (lv' := [(29, .int (147 : Int32)), (0, .ref (g.2.1 0)), (1, .int x1), (3, .ref (a 0)), (4, .ref (a 1)), (5, .ref (a 2)), (6, .ref (a 3)), (7, .ref (a 4)), (8, .ref (a 5)), (9, .ref (a 6)), (10, .ref (a 7)), (11, .ref (a 8)), (12, .ref (a 9)), (13, .ref (a 10)), (14, .ref (a 11)), (15, .ref (a 12)), (16, .int x16), (17, .int x17), (18, .int x18), (19, .int x19), (21, .int x21), (22, .int x22), (23, .int x23), (24, .int x24), (25, .int x25), (26, .int x26), (27, .int x27), (28, .int x28)]) hx hb dL_follows_331 hl (by decide) rfl (fun ls hl => ?_)
        exact hC_333 N x1 x16 x17 x18 x19 x21 x22 x23 x24 x25 x26 x27 x28 (147 : Int32) S L C D hCD H locs I ls (lv_sub hl [1, 2, 3, 4, 5, 6, 7, 8, 9, 10, 11, 12, 13, 14, 15, 16, 17, 18, 19, 20, 21, 22, 23, 24, 25, 26, 27, 0] rfl) hpf
      have hC_323 : ∀ (t0 : Int32) (x1 : Int32) (x16 : Int32) (x17 : Int32) (x18 : Int32) (x19 : Int32) (x21 : Int32) (x22 : Int32) (x23 : Int32) (x24 : Int32) (x25 : Int32) (x27 : Int32) (x28 : Int32) (S : kS) (L : lS) (C D : Nat) (hCD : C ≤ 600 ∧ D ≤ 22500) (H : Heap) (locs : List Loc), lV dC dI g a (lFr g a Si Li sz) s Si S L H locs → ∀ ls : Array Slot, lv_has ls 32 [(0, .ref (g.2.1 0)), (1, .int x1), (3, .ref (a 0)), (4, .ref (a 1)), (5, .ref (a 2)), (6, .ref (a 3)), (7, .ref (a 4)), (8, .ref (a 5)), (9, .ref (a 6)), (10, .ref (a 7)), (11, .ref (a 8)), (12, .ref (a 9)), (13, .ref (a 10)), (14, .ref (a 11)), (15, .ref (a 12)), (16, .int x16), (17, .int x17), (18, .int x18), (19, .int x19), (21, .int x21), (22, .int x22), (23, .int x23), (24, .int x24), (25, .int x25), (27, .int x27), (28, .int x28)] → pL_follows_323 N (pL_follows_176 N (pL_follows_518 N) n_176) t0 x1 x16 x17 x18 x19 x21 x22 x23 x24 x25 x27 x28 S L C D = some (r, Sf, Lf) → W p l e (lRm 10 373 600 22500) s m args below meth c H locs C D (MQ below (lQ dC dI g a sz Si Li (qI r) Sf Lf) args s 600 22500 (lFr g a Si Li sz)) (F0 m 323 ls [.int t0]) := by
        intro t0 x1 x16 x17 x18 x19 x21 x22 x23 x24 x25 x27 x28 S L C D hCD H locs I ls hl hpf
        unfold pL_follows_323 at hpf
        refine lv_istore (lv' := [(26, .int t0), (0, .ref (g.2.1 0)), (1, .int x1), (3, .ref (a 0)), (4, .ref (a 1)), (5, .ref (a 2)), (6, .ref (a 3)), (7, .ref (a 4)), (8, .ref (a 5)), (9, .ref (a 6)), (10, .ref (a 7)), (11, .ref (a 8)), (12, .ref (a 9)), (13, .ref (a 10)), (14, .ref (a 11)), (15, .ref (a 12)), (16, .int x16), (17, .int x17), (18, .int x18), (19, .int x19), (21, .int x21), (22, .int x22), (23, .int x23), (24, .int x24), (25, .int x25), (27, .int x27), (28, .int x28)]) hx hb dL_follows_323 hl (by decide) rfl (fun ls hl => ?_)
        refine m_iinc (w := (1 : Int32)) hx hb (fun y101 => [(24, .int y101), (26, .int t0), (0, .ref (g.2.1 0)), (1, .int x1), (3, .ref (a 0)), (4, .ref (a 1)), (5, .ref (a 2)), (6, .ref (a 3)), (7, .ref (a 4)), (8, .ref (a 5)), (9, .ref (a 6)), (10, .ref (a 7)), (11, .ref (a 8)), (12, .ref (a 9)), (13, .ref (a 10)), (14, .ref (a 11)), (15, .ref (a 12)), (16, .int x16), (17, .int x17), (18, .int x18), (19, .int x19), (21, .int x21), (22, .int x22), (23, .int x23), (25, .int x25), (27, .int x27), (28, .int x28)]) 325 dL_follows_325 hl (k := 23) rfl (by decide) (by decide) (fun _ => rfl) hpf (fun y101 ls hl hpf => ?_)
        exact hC_328 x1 x16 x17 x18 x19 x21 x22 x23 y101 x25 t0 x27 x28 S L C D hCD H locs I ls (lv_sub hl [2, 3, 4, 5, 6, 7, 8, 9, 10, 11, 12, 13, 14, 15, 16, 17, 18, 19, 20, 21, 22, 23, 0, 24, 1, 25, 26] rfl) hpf
      have hC_243 : ∀ (x1 : Int32) (x16 : Int32) (x17 : Int32) (x18 : Int32) (x19 : Int32) (x21 : Int32) (x22 : Int32) (x23 : Int32) (x24 : Int32) (x25 : Int32) (x26 : Int32) (x27 : Int32) (x28 : Int32) (S : kS) (L : lS) (C D : Nat) (hCD : C ≤ 600 ∧ D ≤ 22500) (H : Heap) (locs : List Loc), lV dC dI g a (lFr g a Si Li sz) s Si S L H locs → ∀ ls : Array Slot, lv_has ls 32 [(0, .ref (g.2.1 0)), (1, .int x1), (3, .ref (a 0)), (4, .ref (a 1)), (5, .ref (a 2)), (6, .ref (a 3)), (7, .ref (a 4)), (8, .ref (a 5)), (9, .ref (a 6)), (10, .ref (a 7)), (11, .ref (a 8)), (12, .ref (a 9)), (13, .ref (a 10)), (14, .ref (a 11)), (15, .ref (a 12)), (16, .int x16), (17, .int x17), (18, .int x18), (19, .int x19), (21, .int x21), (22, .int x22), (23, .int x23), (24, .int x24), (25, .int x25), (26, .int x26), (27, .int x27), (28, .int x28)] → pL_follows_243 N (pL_follows_176 N (pL_follows_518 N) n_176) x1 x16 x17 x18 x19 x21 x22 x23 x24 x25 x26 x27 x28 S L C D = some (r, Sf, Lf) → W p l e (lRm 10 373 600 22500) s m args below meth c H locs C D (MQ below (lQ dC dI g a sz Si Li (qI r) Sf Lf) args s 600 22500 (lFr g a Si Li sz)) (F0 m 243 ls []) := by
        intro x1 x16 x17 x18 x19 x21 x22 x23 x24 x25 x26 x27 x28 S L C D hCD H locs I ls hl hpf
        unfold pL_follows_243 at hpf
        refine lv_iload hx hb dL_follows_243 (lv_at hl 15 rfl) ?_
        refine lv_iload hx hb dL_follows_245 (lv_at hl 16 rfl) ?_
        refine lv_iload hx hb dL_follows_247 (lv_at hl 17 rfl) ?_
        refine lv_iload hx hb dL_follows_249 (lv_at hl 18 rfl) ?_
        refine lv_iload hx hb dL_follows_251 (lv_at hl 26 rfl) ?_
        refine lv_aload_n hx hb dL_follows_253 rfl (lv_at hl 2 rfl) ?_
        refine lv_aload hx hb dL_follows_254 (lv_at hl 3 rfl) ?_
        refine lv_aload hx hb dL_follows_256 (lv_at hl 11 rfl) ?_
        refine lv_aload hx hb dL_follows_258 (lv_at hl 12 rfl) ?_
        refine l_cAI (rest := []) (As := [.int x16, .int x17, .int x18, .int x19, .int x28, .ref (a 0), .ref (a 1), .ref (a 9), .ref (a 10)]) X I fL_fits (c_L_fits l hlt N x16 x17 x18 x19 x28) rfl ⟨Nat.le_of_ble_eq_true rfl, Nat.le_of_ble_eq_true rfl⟩ 260 dL_follows_260 rfl hl.1 rfl (Nat.le_of_ble_eq_true rfl) hCD hpf (fun v101 L102 H locs I hpf => ?_)
        refine b_if_eq hx hb 328 263 dL_follows_263 (by decide) hpf (fun hpf => ?_) (fun hpf => ?_)
        · exact hC_328 x1 x16 x17 x18 x19 x21 x22 x23 x24 x25 x26 x27 x28 S L102 C D hCD H locs I ls (lv_sub hl [0, 1, 2, 3, 4, 5, 6, 7, 8, 9, 10, 11, 12, 13, 14, 15, 16, 17, 18, 19, 20, 21, 22, 23, 24, 25, 26] rfl) hpf
        refine lv_iload hx hb dL_follows_266 (lv_at hl 25 rfl) ?_
        refine lv_bipush (v := (100 : Int32)) hx hb dL_follows_268 (by decide) ?_
        refine lv_idiv hx hb dL_follows_270 (by decide) ?_
        refine lv_aload_n hx hb dL_follows_271 rfl (lv_at hl 2 rfl) ?_
        refine lv_iconst (v := (4 : Int32)) hx hb dL_follows_272 (by decide) ?_
        refine lv_iload_n hx hb dL_follows_273 rfl (lv_at hl 1 rfl) ?_
        refine lv_iadd hx hb dL_follows_274 ?_
        refine l_iald X I lR_0 275 dL_follows_275 hpf (fun hpf => ?_)
        refine lv_iload hx hb dL_follows_276 (lv_at hl 26 rfl) ?_
        refine lv_iconst (v := (0 : Int32)) hx hb dL_follows_278 (by decide) ?_
        refine lv_aload_n hx hb dL_follows_279 rfl (lv_at hl 2 rfl) ?_
        refine lv_aload hx hb dL_follows_280 (lv_at hl 4 rfl) ?_
        refine lv_aload hx hb dL_follows_282 (lv_at hl 5 rfl) ?_
        refine lv_aload hx hb dL_follows_284 (lv_at hl 6 rfl) ?_
        refine lv_aload hx hb dL_follows_286 (lv_at hl 7 rfl) ?_
        refine lv_aload hx hb dL_follows_288 (lv_at hl 8 rfl) ?_
        refine lv_aload hx hb dL_follows_290 (lv_at hl 10 rfl) ?_
        refine lv_aload hx hb dL_follows_292 (lv_at hl 11 rfl) ?_
        refine lv_aload hx hb dL_follows_294 (lv_at hl 12 rfl) ?_
        refine l_cAI (rest := []) (As := [.int (x27 / (100 : Int32)), .int (aI L102 0 ((4 : Int32) + x1).toNatClampNeg), .int x28, .int (0 : Int32), .ref (a 0), .ref (a 2), .ref (a 3), .ref (a 4), .ref (a 5), .ref (a 6), .ref (a 8), .ref (a 9), .ref (a 10)]) X I fL_may (c_L_may l hlt N (x27 / (100 : Int32)) (aI L102 0 ((4 : Int32) + x1).toNatClampNeg) x28 (0 : Int32)) rfl ⟨Nat.le_of_ble_eq_true rfl, Nat.le_of_ble_eq_true rfl⟩ 296 dL_follows_296 rfl hl.1 rfl (Nat.le_of_ble_eq_true rfl) hCD hpf (fun v103 L104 H locs I hpf => ?_)
        refine b_if_eq hx hb 328 299 dL_follows_299 (by decide) hpf (fun hpf => ?_) (fun hpf => ?_)
        · exact hC_328 x1 x16 x17 x18 x19 x21 x22 x23 x24 x25 x26 x27 x28 S L104 C D hCD H locs I ls (lv_sub hl [0, 1, 2, 3, 4, 5, 6, 7, 8, 9, 10, 11, 12, 13, 14, 15, 16, 17, 18, 19, 20, 21, 22, 23, 24, 25, 26] rfl) hpf
        refine lv_aload_n hx hb dL_follows_302 rfl (lv_at hl 0 rfl) ?_
        refine lv_bipush (v := (13 : Int32)) hx hb dL_follows_303 (by decide) ?_
        refine lv_iload hx hb dL_follows_305 (lv_at hl 22 rfl) ?_
        refine lv_iconst (v := (0 : Int32)) hx hb dL_follows_307 (by decide) ?_
        refine lv_iconst (v := (0 : Int32)) hx hb dL_follows_308 (by decide) ?_
        refine lv_iconst (v := (0 : Int32)) hx hb dL_follows_309 (by decide) ?_
        refine l_cBW (rest := []) (As := [.ref (g.2.1 0), .int (13 : Int32), .int x24, .int (0 : Int32), .int (0 : Int32), .int (0 : Int32)]) X I fL_calls (c_L_calls l hlt N (13 : Int32) x24 (0 : Int32) (0 : Int32) (0 : Int32)) rfl ⟨Nat.le_of_ble_eq_true rfl, Nat.le_of_ble_eq_true rfl⟩ 310 dL_follows_310 rfl hl.1 rfl (Nat.le_of_ble_eq_true rfl) ⟨Nat.le_refl _, Nat.le_refl _⟩ hpf (fun v105 S106 L107 C108 D109 hCD H locs I hpf => ?_)
        refine lv_iload hx hb dL_follows_313 (lv_at hl 25 rfl) ?_
        refine b_icmp_ne hx hb 322 315 dL_follows_315 (by decide) hpf (fun hpf => ?_) (fun hpf => ?_)
        · refine lv_iconst (v := (0 : Int32)) hx hb dL_follows_322 (by decide) ?_
          exact hC_323 (0 : Int32) x1 x16 x17 x18 x19 x21 x22 x23 x24 x25 x27 x28 S106 L107 C108 D109 hCD H locs I ls (lv_sub hl [0, 1, 2, 3, 4, 5, 6, 7, 8, 9, 10, 11, 12, 13, 14, 15, 16, 17, 18, 19, 20, 21, 22, 23, 25, 26] rfl) hpf
        refine lv_iconst (v := (1 : Int32)) hx hb dL_follows_318 (by decide) ?_
        refine lv_goto (tgt := 323) hx hb dL_follows_319 (by decide) ?_
        exact hC_323 (1 : Int32) x1 x16 x17 x18 x19 x21 x22 x23 x24 x25 x27 x28 S106 L107 C108 D109 hCD H locs I ls (lv_sub hl [0, 1, 2, 3, 4, 5, 6, 7, 8, 9, 10, 11, 12, 13, 14, 15, 16, 17, 18, 19, 20, 21, 22, 23, 25, 26] rfl) hpf
      intro x1 x16 x17 x18 x19 x21 x22 x23 x24 x25 x26 S L C D hCD H locs I ls hl hpf
      rw [pL_follows_176] at hpf
      refine lv_iload hx hb dL_follows_176 (lv_at hl 21 rfl) ?_
      refine b_if_le hx hb 518 178 dL_follows_178 (by decide) hpf (fun hpf => ?_) (fun hpf => ?_)
      · exact hC_518 x22 x24 x26 S L C D hCD H locs I ls (lv_sub hl [0, 20, 22, 24] rfl) hpf
      refine lv_iload hx hb dL_follows_181 (lv_at hl 24 rfl) ?_
      refine b_if_eq hx hb 518 183 dL_follows_183 (by decide) hpf (fun hpf => ?_) (fun hpf => ?_)
      · exact hC_518 x22 x24 x26 S L C D hCD H locs I ls (lv_sub hl [0, 20, 22, 24] rfl) hpf
      refine m_iinc (w := (-1 : Int32)) hx hb (fun y101 => [(23, .int y101), (0, .ref (g.2.1 0)), (1, .int x1), (3, .ref (a 0)), (4, .ref (a 1)), (5, .ref (a 2)), (6, .ref (a 3)), (7, .ref (a 4)), (8, .ref (a 5)), (9, .ref (a 6)), (10, .ref (a 7)), (11, .ref (a 8)), (12, .ref (a 9)), (13, .ref (a 10)), (14, .ref (a 11)), (15, .ref (a 12)), (16, .int x16), (17, .int x17), (18, .int x18), (19, .int x19), (21, .int x21), (22, .int x22), (24, .int x24), (25, .int x25), (26, .int x26)]) 186 dL_follows_186 hl (k := 21) rfl (by decide) (by decide) (fun _ => rfl) hpf (fun y101 ls hl hpf => ?_)
      refine lv_aload hx hb dL_follows_189 (lv_at hl 15 rfl) ?_
      refine lv_iload hx hb dL_follows_191 (lv_at hl 0 rfl) ?_
      refine l_iald X I lR_12 193 dL_follows_193 hpf (fun hpf => ?_)
      refine lv_aload hx hb dL_follows_194 (lv_at hl 14 rfl) ?_
      refine lv_aload_n hx hb dL_follows_196 rfl (lv_at hl 3 rfl) ?_
      refine lv_aload hx hb dL_follows_197 (lv_at hl 5 rfl) ?_
      refine lv_aload hx hb dL_follows_199 (lv_at hl 6 rfl) ?_
      refine lv_aload hx hb dL_follows_201 (lv_at hl 7 rfl) ?_
      refine lv_aload hx hb dL_follows_203 (lv_at hl 8 rfl) ?_
      refine lv_aload hx hb dL_follows_205 (lv_at hl 9 rfl) ?_
      refine lv_aload hx hb dL_follows_207 (lv_at hl 10 rfl) ?_
      refine lv_aload hx hb dL_follows_209 (lv_at hl 11 rfl) ?_
      refine lv_aload hx hb dL_follows_211 (lv_at hl 12 rfl) ?_
      refine lv_aload hx hb dL_follows_213 (lv_at hl 13 rfl) ?_
      refine l_cAI (rest := []) (As := [.int (aI L 12 y101.toNatClampNeg), .ref (a 11), .ref (a 0), .ref (a 2), .ref (a 3), .ref (a 4), .ref (a 5), .ref (a 6), .ref (a 7), .ref (a 8), .ref (a 9), .ref (a 10)]) X I fL_arrives (c_L_arrives l hlt N (aI L 12 y101.toNatClampNeg)) rfl ⟨Nat.le_of_ble_eq_true rfl, Nat.le_of_ble_eq_true rfl⟩ 215 dL_follows_215 rfl hl.1 rfl (Nat.le_of_ble_eq_true rfl) hCD hpf (fun v102 L103 H locs I hpf => ?_)
      refine lv_istore (lv' := [(27, .int v102), (23, .int y101), (0, .ref (g.2.1 0)), (1, .int x1), (3, .ref (a 0)), (4, .ref (a 1)), (5, .ref (a 2)), (6, .ref (a 3)), (7, .ref (a 4)), (8, .ref (a 5)), (9, .ref (a 6)), (10, .ref (a 7)), (11, .ref (a 8)), (12, .ref (a 9)), (13, .ref (a 10)), (14, .ref (a 11)), (15, .ref (a 12)), (16, .int x16), (17, .int x17), (18, .int x18), (19, .int x19), (21, .int x21), (22, .int x22), (24, .int x24), (25, .int x25), (26, .int x26)]) hx hb dL_follows_218 hl (by decide) rfl (fun ls hl => ?_)
      refine lv_iload hx hb dL_follows_220 (lv_at hl 0 rfl) ?_
      refine lv_bipush (v := (100 : Int32)) hx hb dL_follows_222 (by decide) ?_
      refine lv_irem hx hb dL_follows_224 (by decide) ?_
      refine m_isto hx hb (fun y104 => [(28, .int y104), (27, .int v102), (23, .int y101), (0, .ref (g.2.1 0)), (1, .int x1), (3, .ref (a 0)), (4, .ref (a 1)), (5, .ref (a 2)), (6, .ref (a 3)), (7, .ref (a 4)), (8, .ref (a 5)), (9, .ref (a 6)), (10, .ref (a 7)), (11, .ref (a 8)), (12, .ref (a 9)), (13, .ref (a 10)), (14, .ref (a 11)), (15, .ref (a 12)), (16, .int x16), (17, .int x17), (18, .int x18), (19, .int x19), (21, .int x21), (22, .int x22), (24, .int x24), (25, .int x25), (26, .int x26)]) 225 dL_follows_225 hl (by decide) (fun _ => rfl) hpf (fun y104 ls hl hpf => ?_)
      refine lv_iload hx hb dL_follows_227 (lv_at hl 1 rfl) ?_
      refine b_if_lt hx hb 328 229 dL_follows_229 (by decide) hpf (fun hpf => ?_) (fun hpf => ?_)
      · exact hC_328 x1 x16 x17 x18 x19 x21 x22 y101 x24 x25 x26 v102 y104 S L103 C D hCD H locs I ls (lv_sub hl [3, 4, 5, 6, 7, 8, 9, 10, 11, 12, 13, 14, 15, 16, 17, 18, 19, 20, 21, 22, 23, 2, 24, 25, 26, 1, 0] rfl) hpf
      refine lv_iload hx hb dL_follows_232 (lv_at hl 25 rfl) ?_
      refine b_if_eq hx hb 243 234 dL_follows_234 (by decide) hpf (fun hpf => ?_) (fun hpf => ?_)
      · exact hC_243 x1 x16 x17 x18 x19 x21 x22 y101 x24 x25 x26 v102 y104 S L103 C D hCD H locs I ls (lv_sub hl [3, 4, 5, 6, 7, 8, 9, 10, 11, 12, 13, 14, 15, 16, 17, 18, 19, 20, 21, 22, 23, 2, 24, 25, 26, 1, 0] rfl) hpf
      refine lv_iload hx hb dL_follows_237 (lv_at hl 22 rfl) ?_
      refine lv_iconst (v := (1 : Int32)) hx hb dL_follows_239 (by decide) ?_
      refine b_icmp_eq hx hb 328 240 dL_follows_240 (by decide) hpf (fun hpf => ?_) (fun hpf => ?_)
      · exact hC_328 x1 x16 x17 x18 x19 x21 x22 y101 x24 x25 x26 v102 y104 S L103 C D hCD H locs I ls (lv_sub hl [3, 4, 5, 6, 7, 8, 9, 10, 11, 12, 13, 14, 15, 16, 17, 18, 19, 20, 21, 22, 23, 2, 24, 25, 26, 1, 0] rfl) hpf
      exact hC_243 x1 x16 x17 x18 x19 x21 x22 y101 x24 x25 x26 v102 y104 S L103 C D hCD H locs I ls (lv_sub hl [3, 4, 5, 6, 7, 8, 9, 10, 11, 12, 13, 14, 15, 16, 17, 18, 19, 20, 21, 22, 23, 2, 24, 25, 26, 1, 0] rfl) hpf
  have hC_153 : ∀ (x1 : Int32) (x16 : Int32) (x17 : Int32) (x18 : Int32) (x19 : Int32) (x20 : Int32) (x21 : Int32) (x22 : Int32) (S : kS) (L : lS) (C D : Nat) (hCD : C ≤ 600 ∧ D ≤ 22500) (H : Heap) (locs : List Loc), lV dC dI g a (lFr g a Si Li sz) s Si S L H locs → ∀ ls : Array Slot, lv_has ls 32 [(0, .ref (g.2.1 0)), (1, .int x1), (3, .ref (a 0)), (4, .ref (a 1)), (5, .ref (a 2)), (6, .ref (a 3)), (7, .ref (a 4)), (8, .ref (a 5)), (9, .ref (a 6)), (10, .ref (a 7)), (11, .ref (a 8)), (12, .ref (a 9)), (13, .ref (a 10)), (14, .ref (a 11)), (15, .ref (a 12)), (16, .int x16), (17, .int x17), (18, .int x18), (19, .int x19), (20, .int x20), (21, .int x21), (22, .int x22)] → pL_follows_153 N x1 x16 x17 x18 x19 x20 x21 x22 S L C D = some (r, Sf, Lf) → W p l e (lRm 10 373 600 22500) s m args below meth c H locs C D (MQ below (lQ dC dI g a sz Si Li (qI r) Sf Lf) args s 600 22500 (lFr g a Si Li sz)) (F0 m 153 ls []) := by
    intro x1 x16 x17 x18 x19 x20 x21 x22 S L C D hCD H locs I ls hl hpf
    unfold pL_follows_153 at hpf
    refine lv_aload hx hb dL_follows_153 (lv_at hl 14 rfl) ?_
    refine lv_iconst (v := (0 : Int32)) hx hb dL_follows_155 (by decide) ?_
    refine lv_bipush (v := (100 : Int32)) hx hb dL_follows_156 (by decide) ?_
    refine lv_iload_n hx hb dL_follows_158 rfl (lv_at hl 1 rfl) ?_
    refine lv_imul hx hb dL_follows_159 ?_
    refine lv_iload hx hb dL_follows_160 (lv_at hl 19 rfl) ?_
    refine lv_iadd hx hb dL_follows_162 ?_
    refine l_iast X I lR_12 163 dL_follows_163 hpf (fun L101 H locs I hpf => ?_)
    refine lv_iconst (v := (1 : Int32)) hx hb dL_follows_164 (by decide) ?_
    refine lv_istore (lv' := [(23, .int (1 : Int32)), (0, .ref (g.2.1 0)), (1, .int x1), (3, .ref (a 0)), (4, .ref (a 1)), (5, .ref (a 2)), (6, .ref (a 3)), (7, .ref (a 4)), (8, .ref (a 5)), (9, .ref (a 6)), (10, .ref (a 7)), (11, .ref (a 8)), (12, .ref (a 9)), (13, .ref (a 10)), (14, .ref (a 11)), (15, .ref (a 12)), (16, .int x16), (17, .int x17), (18, .int x18), (19, .int x19), (20, .int x20), (21, .int x21), (22, .int x22)]) hx hb dL_follows_165 hl (by decide) rfl (fun ls hl => ?_)
    refine lv_iconst (v := (0 : Int32)) hx hb dL_follows_167 (by decide) ?_
    refine lv_istore (lv' := [(24, .int (0 : Int32)), (23, .int (1 : Int32)), (0, .ref (g.2.1 0)), (1, .int x1), (3, .ref (a 0)), (4, .ref (a 1)), (5, .ref (a 2)), (6, .ref (a 3)), (7, .ref (a 4)), (8, .ref (a 5)), (9, .ref (a 6)), (10, .ref (a 7)), (11, .ref (a 8)), (12, .ref (a 9)), (13, .ref (a 10)), (14, .ref (a 11)), (15, .ref (a 12)), (16, .int x16), (17, .int x17), (18, .int x18), (19, .int x19), (20, .int x20), (21, .int x21), (22, .int x22)]) hx hb dL_follows_168 hl (by decide) rfl (fun ls hl => ?_)
    refine lv_iconst (v := (1 : Int32)) hx hb dL_follows_170 (by decide) ?_
    refine lv_istore (lv' := [(25, .int (1 : Int32)), (24, .int (0 : Int32)), (23, .int (1 : Int32)), (0, .ref (g.2.1 0)), (1, .int x1), (3, .ref (a 0)), (4, .ref (a 1)), (5, .ref (a 2)), (6, .ref (a 3)), (7, .ref (a 4)), (8, .ref (a 5)), (9, .ref (a 6)), (10, .ref (a 7)), (11, .ref (a 8)), (12, .ref (a 9)), (13, .ref (a 10)), (14, .ref (a 11)), (15, .ref (a 12)), (16, .int x16), (17, .int x17), (18, .int x18), (19, .int x19), (20, .int x20), (21, .int x21), (22, .int x22)]) hx hb dL_follows_171 hl (by decide) rfl (fun ls hl => ?_)
    refine lv_iconst (v := (1 : Int32)) hx hb dL_follows_173 (by decide) ?_
    refine lv_istore (lv' := [(26, .int (1 : Int32)), (25, .int (1 : Int32)), (24, .int (0 : Int32)), (23, .int (1 : Int32)), (0, .ref (g.2.1 0)), (1, .int x1), (3, .ref (a 0)), (4, .ref (a 1)), (5, .ref (a 2)), (6, .ref (a 3)), (7, .ref (a 4)), (8, .ref (a 5)), (9, .ref (a 6)), (10, .ref (a 7)), (11, .ref (a 8)), (12, .ref (a 9)), (13, .ref (a 10)), (14, .ref (a 11)), (15, .ref (a 12)), (16, .int x16), (17, .int x17), (18, .int x18), (19, .int x19), (20, .int x20), (21, .int x21), (22, .int x22)]) hx hb dL_follows_174 hl (by decide) rfl (fun ls hl => ?_)
    exact hC_176 N x1 x16 x17 x18 x19 x21 x22 (1 : Int32) (0 : Int32) (1 : Int32) (1 : Int32) S L101 C D hCD H locs I ls (lv_sub hl [4, 5, 6, 7, 8, 9, 10, 11, 12, 13, 14, 15, 16, 17, 18, 19, 20, 21, 22, 24, 25, 3, 2, 1, 0] rfl) hpf
  have hC_135 : ∀ (n_135 : Nat), ∀ (x1 : Int32) (x16 : Int32) (x17 : Int32) (x18 : Int32) (x19 : Int32) (x20 : Int32) (x21 : Int32) (x22 : Int32) (x23 : Int32) (S : kS) (L : lS) (C D : Nat) (hCD : C ≤ 600 ∧ D ≤ 22500) (H : Heap) (locs : List Loc), lV dC dI g a (lFr g a Si Li sz) s Si S L H locs → ∀ ls : Array Slot, lv_has ls 32 [(0, .ref (g.2.1 0)), (1, .int x1), (3, .ref (a 0)), (4, .ref (a 1)), (5, .ref (a 2)), (6, .ref (a 3)), (7, .ref (a 4)), (8, .ref (a 5)), (9, .ref (a 6)), (10, .ref (a 7)), (11, .ref (a 8)), (12, .ref (a 9)), (13, .ref (a 10)), (14, .ref (a 11)), (15, .ref (a 12)), (16, .int x16), (17, .int x17), (18, .int x18), (19, .int x19), (20, .int x20), (21, .int x21), (22, .int x22), (23, .int x23)] → pL_follows_135 N (pL_follows_153 N) n_135 x1 x16 x17 x18 x19 x20 x21 x22 x23 S L C D = some (r, Sf, Lf) → W p l e (lRm 10 373 600 22500) s m args below meth c H locs C D (MQ below (lQ dC dI g a sz Si Li (qI r) Sf Lf) args s 600 22500 (lFr g a Si Li sz)) (F0 m 135 ls []) := by
    intro n_135
    induction n_135 with
    | zero =>
      intro x1 x16 x17 x18 x19 x20 x21 x22 x23 S L C D hCD H locs I ls hl hpf
      rw [pL_follows_135] at hpf
      cases hpf
    | succ n_135 ih_135 =>
      intro x1 x16 x17 x18 x19 x20 x21 x22 x23 S L C D hCD H locs I ls hl hpf
      rw [pL_follows_135] at hpf
      refine lv_iload hx hb dL_follows_135 (lv_at hl 22 rfl) ?_
      refine lv_iconst (v := (4 : Int32)) hx hb dL_follows_137 (by decide) ?_
      refine b_icmp_ge hx hb 153 138 dL_follows_138 (by decide) hpf (fun hpf => ?_) (fun hpf => ?_)
      · exact hC_153 x1 x16 x17 x18 x19 x20 x21 x22 S L C D hCD H locs I ls (lv_sub hl [0, 1, 2, 3, 4, 5, 6, 7, 8, 9, 10, 11, 12, 13, 14, 15, 16, 17, 18, 19, 20, 21] rfl) hpf
      refine lv_aload hx hb dL_follows_141 (lv_at hl 13 rfl) ?_
      refine lv_iload hx hb dL_follows_143 (lv_at hl 22 rfl) ?_
      refine lv_iconst (v := (0 : Int32)) hx hb dL_follows_145 (by decide) ?_
      refine l_iast X I lR_11 146 dL_follows_146 hpf (fun L101 H locs I hpf => ?_)
      refine m_iinc (w := (1 : Int32)) hx hb (fun y102 => [(23, .int y102), (0, .ref (g.2.1 0)), (1, .int x1), (3, .ref (a 0)), (4, .ref (a 1)), (5, .ref (a 2)), (6, .ref (a 3)), (7, .ref (a 4)), (8, .ref (a 5)), (9, .ref (a 6)), (10, .ref (a 7)), (11, .ref (a 8)), (12, .ref (a 9)), (13, .ref (a 10)), (14, .ref (a 11)), (15, .ref (a 12)), (16, .int x16), (17, .int x17), (18, .int x18), (19, .int x19), (20, .int x20), (21, .int x21), (22, .int x22)]) 147 dL_follows_147 hl (k := 22) rfl (by decide) (by decide) (fun _ => rfl) hpf (fun y102 ls hl hpf => ?_)
      refine lv_goto (tgt := 135) hx hb dL_follows_150 (by decide) ?_
      exact ih_135 x1 x16 x17 x18 x19 x20 x21 x22 y102 S L101 C D hCD H locs I ls (lv_sub hl [1, 2, 3, 4, 5, 6, 7, 8, 9, 10, 11, 12, 13, 14, 15, 16, 17, 18, 19, 20, 21, 22, 0] rfl) hpf
  have hC_65 : ∀ (t0 : Int32) (x1 : Int32) (x2 : Int32) (x16 : Int32) (x17 : Int32) (x18 : Int32) (x19 : Int32) (S : kS) (L : lS) (C D : Nat) (hCD : C ≤ 600 ∧ D ≤ 22500) (H : Heap) (locs : List Loc), lV dC dI g a (lFr g a Si Li sz) s Si S L H locs → ∀ ls : Array Slot, lv_has ls 32 [(0, .ref (g.2.1 0)), (1, .int x1), (2, .int x2), (3, .ref (a 0)), (4, .ref (a 1)), (5, .ref (a 2)), (6, .ref (a 3)), (7, .ref (a 4)), (8, .ref (a 5)), (9, .ref (a 6)), (10, .ref (a 7)), (11, .ref (a 8)), (12, .ref (a 9)), (13, .ref (a 10)), (14, .ref (a 11)), (15, .ref (a 12)), (16, .int x16), (17, .int x17), (18, .int x18), (19, .int x19)] → pL_follows_65 N t0 x1 x2 x16 x17 x18 x19 S L C D = some (r, Sf, Lf) → W p l e (lRm 10 373 600 22500) s m args below meth c H locs C D (MQ below (lQ dC dI g a sz Si Li (qI r) Sf Lf) args s 600 22500 (lFr g a Si Li sz)) (F0 m 65 ls [.int t0]) := by
    intro t0 x1 x2 x16 x17 x18 x19 S L C D hCD H locs I ls hl hpf
    unfold pL_follows_65 at hpf
    refine lv_istore (lv' := [(20, .int t0), (0, .ref (g.2.1 0)), (1, .int x1), (2, .int x2), (3, .ref (a 0)), (4, .ref (a 1)), (5, .ref (a 2)), (6, .ref (a 3)), (7, .ref (a 4)), (8, .ref (a 5)), (9, .ref (a 6)), (10, .ref (a 7)), (11, .ref (a 8)), (12, .ref (a 9)), (13, .ref (a 10)), (14, .ref (a 11)), (15, .ref (a 12)), (16, .int x16), (17, .int x17), (18, .int x18), (19, .int x19)]) hx hb dL_follows_65 hl (by decide) rfl (fun ls hl => ?_)
    refine lv_iload_n hx hb dL_follows_67 rfl (lv_at hl 3 rfl) ?_
    refine lv_bipush (v := (13 : Int32)) hx hb dL_follows_68 (by decide) ?_
    refine lv_ishr hx hb dL_follows_70 ?_
    refine lv_iconst (v := (3 : Int32)) hx hb dL_follows_71 (by decide) ?_
    refine l_cAI (rest := []) (As := [.int (x2 >>> ((13 : Int32) &&& 31)), .int (3 : Int32)]) X I fL_low (c_L_low l hlt N (x2 >>> ((13 : Int32) &&& 31)) (3 : Int32)) rfl ⟨Nat.le_of_ble_eq_true rfl, Nat.le_of_ble_eq_true rfl⟩ 72 dL_follows_72 rfl hl.1 rfl (Nat.le_of_ble_eq_true rfl) hCD hpf (fun v101 L102 H locs I hpf => ?_)
    refine lv_istore (lv' := [(21, .int v101), (20, .int t0), (0, .ref (g.2.1 0)), (1, .int x1), (2, .int x2), (3, .ref (a 0)), (4, .ref (a 1)), (5, .ref (a 2)), (6, .ref (a 3)), (7, .ref (a 4)), (8, .ref (a 5)), (9, .ref (a 6)), (10, .ref (a 7)), (11, .ref (a 8)), (12, .ref (a 9)), (13, .ref (a 10)), (14, .ref (a 11)), (15, .ref (a 12)), (16, .int x16), (17, .int x17), (18, .int x18), (19, .int x19)]) hx hb dL_follows_75 hl (by decide) rfl (fun ls hl => ?_)
    refine lv_aload_n hx hb dL_follows_77 rfl (lv_at hl 2 rfl) ?_
    refine lv_iload hx hb dL_follows_78 (lv_at hl 18 rfl) ?_
    refine lv_iload hx hb dL_follows_80 (lv_at hl 19 rfl) ?_
    refine lv_iload hx hb dL_follows_82 (lv_at hl 20 rfl) ?_
    refine lv_iload hx hb dL_follows_84 (lv_at hl 21 rfl) ?_
    refine l_cBI (rest := []) (As := [.ref (g.2.1 0), .int x16, .int x17, .int x18, .int x19]) X I fL_draws (c_L_draws l hlt N x16 x17 x18 x19) rfl ⟨Nat.le_of_ble_eq_true rfl, Nat.le_of_ble_eq_true rfl⟩ 86 dL_follows_86 rfl hl.1 rfl (Nat.le_of_ble_eq_true rfl) ⟨Nat.le_refl _, Nat.le_refl _⟩ hpf (fun v103 S104 L105 C106 D107 hCD H locs I hpf => ?_)
    refine b_if_ne hx hb 94 89 dL_follows_89 (by decide) hpf (fun hpf => ?_) (fun hpf => ?_)
    · refine lv_aload_n hx hb dL_follows_94 rfl (lv_at hl 2 rfl) ?_
      refine lv_bipush (v := (11 : Int32)) hx hb dL_follows_95 (by decide) ?_
      refine lv_iload_n hx hb dL_follows_97 rfl (lv_at hl 3 rfl) ?_
      refine lv_iload hx hb dL_follows_98 (lv_at hl 1 rfl) ?_
      refine lv_iload hx hb dL_follows_100 (lv_at hl 0 rfl) ?_
      refine lv_iconst (v := (0 : Int32)) hx hb dL_follows_102 (by decide) ?_
      refine l_cBW (rest := []) (As := [.ref (g.2.1 0), .int (11 : Int32), .int x1, .int t0, .int v101, .int (0 : Int32)]) X I fL_calls (c_L_calls l hlt N (11 : Int32) x1 t0 v101 (0 : Int32)) rfl ⟨Nat.le_of_ble_eq_true rfl, Nat.le_of_ble_eq_true rfl⟩ 103 dL_follows_103 rfl hl.1 rfl (Nat.le_of_ble_eq_true rfl) ⟨Nat.le_refl _, Nat.le_refl _⟩ hpf (fun v108 S109 L110 C111 D112 hCD H locs I hpf => ?_)
      refine lv_istore (lv' := [(22, .int v108), (21, .int v101), (20, .int t0), (0, .ref (g.2.1 0)), (1, .int x1), (2, .int x2), (3, .ref (a 0)), (4, .ref (a 1)), (5, .ref (a 2)), (6, .ref (a 3)), (7, .ref (a 4)), (8, .ref (a 5)), (9, .ref (a 6)), (10, .ref (a 7)), (11, .ref (a 8)), (12, .ref (a 9)), (13, .ref (a 10)), (14, .ref (a 11)), (15, .ref (a 12)), (16, .int x16), (17, .int x17), (18, .int x18), (19, .int x19)]) hx hb dL_follows_106 hl (by decide) rfl (fun ls hl => ?_)
      refine lv_aload hx hb dL_follows_108 (lv_at hl 15 rfl) ?_
      refine lv_iconst (v := (3 : Int32)) hx hb dL_follows_110 (by decide) ?_
      refine lv_iload hx hb dL_follows_111 (lv_at hl 2 rfl) ?_
      refine lv_imul hx hb dL_follows_113 ?_
      refine l_iald X I lR_9 114 dL_follows_114 hpf (fun hpf => ?_)
      refine lv_iconst (v := (1 : Int32)) hx hb dL_follows_115 (by decide) ?_
      refine b_icmp_eq hx hb 132 116 dL_follows_116 (by decide) hpf (fun hpf => ?_) (fun hpf => ?_)
      · refine lv_iconst (v := (0 : Int32)) hx hb dL_follows_132 (by decide) ?_
        refine lv_istore (lv' := [(23, .int (0 : Int32)), (22, .int v108), (21, .int v101), (20, .int t0), (0, .ref (g.2.1 0)), (1, .int x1), (2, .int x2), (3, .ref (a 0)), (4, .ref (a 1)), (5, .ref (a 2)), (6, .ref (a 3)), (7, .ref (a 4)), (8, .ref (a 5)), (9, .ref (a 6)), (10, .ref (a 7)), (11, .ref (a 8)), (12, .ref (a 9)), (13, .ref (a 10)), (14, .ref (a 11)), (15, .ref (a 12)), (16, .int x16), (17, .int x17), (18, .int x18), (19, .int x19)]) hx hb dL_follows_133 hl (by decide) rfl (fun ls hl => ?_)
        exact hC_135 N x1 x16 x17 x18 x19 t0 v101 v108 (0 : Int32) S109 L110 C111 D112 hCD H locs I ls (lv_sub hl [4, 5, 7, 8, 9, 10, 11, 12, 13, 14, 15, 16, 17, 18, 19, 20, 21, 22, 23, 3, 2, 1, 0] rfl) hpf
      refine lv_iload hx hb dL_follows_119 (lv_at hl 0 rfl) ?_
      refine lv_bipush (v := (-9 : Int32)) hx hb dL_follows_121 (by decide) ?_
      refine b_icmp_ne hx hb 130 123 dL_follows_123 (by decide) hpf (fun hpf => ?_) (fun hpf => ?_)
      · refine lv_iconst (v := (0 : Int32)) hx hb dL_follows_130 (by decide) ?_
        exact l_retzB X I hr 131 dL_follows_131 hpf
      refine lv_iconst (v := (1 : Int32)) hx hb dL_follows_126 (by decide) ?_
      refine lv_goto (tgt := 131) hx hb dL_follows_127 (by decide) ?_
      exact l_retzB X I hr 131 dL_follows_131 hpf
    refine lv_iconst (v := (0 : Int32)) hx hb dL_follows_92 (by decide) ?_
    exact l_retzB X I hr 93 dL_follows_93 hpf
  refine lv_iload_n hx hb dL_follows_0 rfl (lv_at hl 2 rfl) ?_
  refine lv_bipush (v := (7 : Int32)) hx hb dL_follows_1 (by decide) ?_
  refine l_cAI (rest := []) (As := [.int x2, .int (7 : Int32)]) X I fL_low (c_L_low l hlt N x2 (7 : Int32)) rfl ⟨Nat.le_of_ble_eq_true rfl, Nat.le_of_ble_eq_true rfl⟩ 3 dL_follows_3 rfl hl.1 rfl (Nat.le_of_ble_eq_true rfl) hCD hpf (fun v101 L102 H locs I hpf => ?_)
  refine lv_istore (lv' := [(16, .int v101), (0, .ref (g.2.1 0)), (1, .int x1), (2, .int x2), (3, .ref (a 0)), (4, .ref (a 1)), (5, .ref (a 2)), (6, .ref (a 3)), (7, .ref (a 4)), (8, .ref (a 5)), (9, .ref (a 6)), (10, .ref (a 7)), (11, .ref (a 8)), (12, .ref (a 9)), (13, .ref (a 10)), (14, .ref (a 11)), (15, .ref (a 12))]) hx hb dL_follows_6 hl (by decide) rfl (fun ls hl => ?_)
  refine lv_iload_n hx hb dL_follows_8 rfl (lv_at hl 3 rfl) ?_
  refine lv_iconst (v := (3 : Int32)) hx hb dL_follows_9 (by decide) ?_
  refine lv_ishr hx hb dL_follows_10 ?_
  refine lv_aload_n hx hb dL_follows_11 rfl (lv_at hl 4 rfl) ?_
  refine lv_iconst (v := (2 : Int32)) hx hb dL_follows_12 (by decide) ?_
  refine l_iald X I lR_0 13 dL_follows_13 hpf (fun hpf => ?_)
  refine l_cAI (rest := []) (As := [.int (x2 >>> ((3 : Int32) &&& 31)), .int (aI L102 0 (2 : Int32).toNatClampNeg)]) X I fL_low (c_L_low l hlt N (x2 >>> ((3 : Int32) &&& 31)) (aI L102 0 (2 : Int32).toNatClampNeg)) rfl ⟨Nat.le_of_ble_eq_true rfl, Nat.le_of_ble_eq_true rfl⟩ 14 dL_follows_14 rfl hl.1 rfl (Nat.le_of_ble_eq_true rfl) hCD hpf (fun v103 L104 H locs I hpf => ?_)
  refine lv_istore (lv' := [(17, .int v103), (16, .int v101), (0, .ref (g.2.1 0)), (1, .int x1), (2, .int x2), (3, .ref (a 0)), (4, .ref (a 1)), (5, .ref (a 2)), (6, .ref (a 3)), (7, .ref (a 4)), (8, .ref (a 5)), (9, .ref (a 6)), (10, .ref (a 7)), (11, .ref (a 8)), (12, .ref (a 9)), (13, .ref (a 10)), (14, .ref (a 11)), (15, .ref (a 12))]) hx hb dL_follows_17 hl (by decide) rfl (fun ls hl => ?_)
  refine lv_iload_n hx hb dL_follows_19 rfl (lv_at hl 4 rfl) ?_
  refine lv_iconst (v := (5 : Int32)) hx hb dL_follows_20 (by decide) ?_
  refine lv_ishr hx hb dL_follows_21 ?_
  refine lv_iconst (v := (5 : Int32)) hx hb dL_follows_22 (by decide) ?_
  refine l_cAI (rest := []) (As := [.int (x2 >>> ((5 : Int32) &&& 31)), .int (5 : Int32)]) X I fL_low (c_L_low l hlt N (x2 >>> ((5 : Int32) &&& 31)) (5 : Int32)) rfl ⟨Nat.le_of_ble_eq_true rfl, Nat.le_of_ble_eq_true rfl⟩ 23 dL_follows_23 rfl hl.1 rfl (Nat.le_of_ble_eq_true rfl) hCD hpf (fun v105 L106 H locs I hpf => ?_)
  refine lv_istore (lv' := [(18, .int v105), (17, .int v103), (16, .int v101), (0, .ref (g.2.1 0)), (1, .int x1), (2, .int x2), (3, .ref (a 0)), (4, .ref (a 1)), (5, .ref (a 2)), (6, .ref (a 3)), (7, .ref (a 4)), (8, .ref (a 5)), (9, .ref (a 6)), (10, .ref (a 7)), (11, .ref (a 8)), (12, .ref (a 9)), (13, .ref (a 10)), (14, .ref (a 11)), (15, .ref (a 12))]) hx hb dL_follows_26 hl (by decide) rfl (fun ls hl => ?_)
  refine lv_iload_n hx hb dL_follows_28 rfl (lv_at hl 5 rfl) ?_
  refine lv_bipush (v := (7 : Int32)) hx hb dL_follows_29 (by decide) ?_
  refine lv_ishr hx hb dL_follows_31 ?_
  refine lv_aload_n hx hb dL_follows_32 rfl (lv_at hl 6 rfl) ?_
  refine lv_iconst (v := (3 : Int32)) hx hb dL_follows_33 (by decide) ?_
  refine l_iald X I lR_0 34 dL_follows_34 hpf (fun hpf => ?_)
  refine l_cAI (rest := []) (As := [.int (x2 >>> ((7 : Int32) &&& 31)), .int (aI L106 0 (3 : Int32).toNatClampNeg)]) X I fL_low (c_L_low l hlt N (x2 >>> ((7 : Int32) &&& 31)) (aI L106 0 (3 : Int32).toNatClampNeg)) rfl ⟨Nat.le_of_ble_eq_true rfl, Nat.le_of_ble_eq_true rfl⟩ 35 dL_follows_35 rfl hl.1 rfl (Nat.le_of_ble_eq_true rfl) hCD hpf (fun v107 L108 H locs I hpf => ?_)
  refine lv_istore (lv' := [(19, .int v107), (18, .int v105), (17, .int v103), (16, .int v101), (0, .ref (g.2.1 0)), (1, .int x1), (2, .int x2), (3, .ref (a 0)), (4, .ref (a 1)), (5, .ref (a 2)), (6, .ref (a 3)), (7, .ref (a 4)), (8, .ref (a 5)), (9, .ref (a 6)), (10, .ref (a 7)), (11, .ref (a 8)), (12, .ref (a 9)), (13, .ref (a 10)), (14, .ref (a 11)), (15, .ref (a 12))]) hx hb dL_follows_38 hl (by decide) rfl (fun ls hl => ?_)
  refine lv_iload_n hx hb dL_follows_40 rfl (lv_at hl 6 rfl) ?_
  refine lv_bipush (v := (9 : Int32)) hx hb dL_follows_41 (by decide) ?_
  refine lv_ishr hx hb dL_follows_43 ?_
  refine lv_iconst (v := (2 : Int32)) hx hb dL_follows_44 (by decide) ?_
  refine l_cAI (rest := []) (As := [.int (x2 >>> ((9 : Int32) &&& 31)), .int (2 : Int32)]) X I fL_low (c_L_low l hlt N (x2 >>> ((9 : Int32) &&& 31)) (2 : Int32)) rfl ⟨Nat.le_of_ble_eq_true rfl, Nat.le_of_ble_eq_true rfl⟩ 45 dL_follows_45 rfl hl.1 rfl (Nat.le_of_ble_eq_true rfl) hCD hpf (fun v109 L110 H locs I hpf => ?_)
  refine b_if_ne hx hb 55 48 dL_follows_48 (by decide) hpf (fun hpf => ?_) (fun hpf => ?_)
  · refine lv_iload_n hx hb dL_follows_55 rfl (lv_at hl 6 rfl) ?_
    refine lv_bipush (v := (11 : Int32)) hx hb dL_follows_56 (by decide) ?_
    refine lv_ishr hx hb dL_follows_58 ?_
    refine lv_aload_n hx hb dL_follows_59 rfl (lv_at hl 7 rfl) ?_
    refine lv_iconst (v := (0 : Int32)) hx hb dL_follows_60 (by decide) ?_
    refine l_iald X I lR_0 61 dL_follows_61 hpf (fun hpf => ?_)
    refine l_cAI (rest := []) (As := [.int (x2 >>> ((11 : Int32) &&& 31)), .int (aI L110 0 (0 : Int32).toNatClampNeg)]) X I fL_low (c_L_low l hlt N (x2 >>> ((11 : Int32) &&& 31)) (aI L110 0 (0 : Int32).toNatClampNeg)) rfl ⟨Nat.le_of_ble_eq_true rfl, Nat.le_of_ble_eq_true rfl⟩ 62 dL_follows_62 rfl hl.1 rfl (Nat.le_of_ble_eq_true rfl) hCD hpf (fun v111 L112 H locs I hpf => ?_)
    exact hC_65 v111 x1 x2 v101 v103 v105 v107 Si L112 0 0 hCD H locs I ls (lv_sub hl [4, 5, 6, 7, 8, 9, 10, 11, 12, 13, 14, 15, 16, 17, 18, 19, 3, 2, 1, 0] rfl) hpf
  refine lv_iconst (v := (0 : Int32)) hx hb dL_follows_51 (by decide) ?_
  refine lv_goto (tgt := 65) hx hb dL_follows_52 (by decide) ?_
  exact hC_65 (0 : Int32) x1 x2 v101 v103 v105 v107 Si L110 0 0 hCD H locs I ls (lv_sub hl [4, 5, 6, 7, 8, 9, 10, 11, 12, 13, 14, 15, 16, 17, 18, 19, 3, 2, 1, 0] rfl) hpf
