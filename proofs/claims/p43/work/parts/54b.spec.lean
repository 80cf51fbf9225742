-- LEVEL 2, WHAT BOTH ARE HELD TO: a tree is what changes do, one after the other
def upf {α : Type} (f : Nat → α) (k : Nat) (v : α) : Nat → α := fun j => if j = k then v else f j
theorem upf_s {α : Type} (f : Nat → α) (k : Nat) (v : α) : upf f k v k = v := if_pos rfl
theorem upf_o {α : Type} (f : Nat → α) {k j : Nat} (v : α) (h : j ≠ k) : upf f k v j = f j := if_neg h
/-- the schema: how many attributes, single ones, those by tens; how many classes, their parents, what they require and allow with what their parents do -/
abbrev sH : Type := Nat × (Nat → Bool) × (Nat → Bool) × Nat × (Nat → Int) × (Nat → Int32) × (Nat → Int32)
def hA (H : sH) : Nat := H.1
def hSg (H : sH) : Nat → Bool := H.2.1
def hTn (H : sH) : Nat → Bool := H.2.2.1
def hC (H : sH) : Nat := H.2.2.2.1
def hPr (H : sH) : Nat → Int := H.2.2.2.2.1
def hRq (H : sH) : Nat → Int32 := H.2.2.2.2.2.1
def hAl (H : sH) : Nat → Int32 := H.2.2.2.2.2.2
def hKey (H : sH) (a v : Nat) : Nat := if hTn H a then v / 10 else v
/-- a change: kind, entry, three numbers, values, maker, number, stamp -/
abbrev sCh : Type := Nat × Nat × Int × Int × Int × List (Nat × Nat) × Nat × Nat × Nat
def cK (c : sCh) : Nat := c.1
def cE (c : sCh) : Nat := c.2.1
def cX (c : sCh) : Int := c.2.2.1
def cY (c : sCh) : Int := c.2.2.2.1
def cW (c : sCh) : Int := c.2.2.2.2.1
def cV (c : sCh) : List (Nat × Nat) := c.2.2.2.2.2.1
def cM (c : sCh) : Nat := c.2.2.2.2.2.2.1
def cN (c : sCh) : Nat := c.2.2.2.2.2.2.2.1
def cS (c : sCh) : Nat := c.2.2.2.2.2.2.2.2
def cR (c : sCh) : Nat := cS c * 4 + cM c
/-- a tree: there, deleted; class, parent, name, link; the rank of its ADD; values; what rules say -/
abbrev sT : Type := (Nat → Bool) × (Nat → Bool) × (Nat → Int) × (Nat → Int) × (Nat → Int) × (Nat → Int) × (Nat → Nat) × List (Nat × Nat × Nat) × (Nat → Nat → Nat)
def tTh (T : sT) : Nat → Bool := T.1
def tDd (T : sT) : Nat → Bool := T.2.1
def tKl (T : sT) : Nat → Int := T.2.2.1
def tPa (T : sT) : Nat → Int := T.2.2.2.1
def tNm (T : sT) : Nat → Int := T.2.2.2.2.1
def tLk (T : sT) : Nat → Int := T.2.2.2.2.2.1
def tBn (T : sT) : Nat → Nat := T.2.2.2.2.2.2.1
def tVs (T : sT) : List (Nat × Nat × Nat) := T.2.2.2.2.2.2.2.1
def tSy (T : sT) : Nat → Nat → Nat := T.2.2.2.2.2.2.2.2
def tMk (th dd : Nat → Bool) (kl pa nm lk : Nat → Int) (bn : Nat → Nat) (vs : List (Nat × Nat × Nat)) (sy : Nat → Nat → Nat) : sT := (th, dd, kl, pa, nm, lk, bn, vs, sy)
/-- the tree before any change: the root alone -/
def tNew : sT := tMk (fun e => decide (e = 0)) (fun _ => false) (fun _ => -1) (fun _ => -1) (fun _ => 0) (fun _ => -1) (fun _ => 0) [] (fun _ _ => 0)
def vGoes (H : sH) (e a : Nat) (all : Bool) (v : Nat) (x : Nat × Nat × Nat) : Bool := decide (x.1 = e) && (decide (x.2.1 = a) && (all || decide (hKey H a x.2.2 = hKey H a v)))
def vDrop (H : sH) (vs : List (Nat × Nat × Nat)) (e a : Nat) (all : Bool) (v : Nat) : List (Nat × Nat × Nat) := vs.filter (fun x => !vGoes H e a all v x)
def vTake (H : sH) (vs : List (Nat × Nat × Nat)) (e a v : Nat) : List (Nat × Nat × Nat) := vDrop H vs e a (hSg H a) v ++ [(e, a, v)]
/-- whether one comes from 'at' to 'to', going from parents to parents -/
def pCome (pa : Nat → Int) : Nat → Int → Int → Bool
  | 0, _, _ => false
  | n + 1, x, to => if x < 0 then false else if x = to then true else pCome pa n (pa x.toNat) to
def climb (pa : Nat → Int) : Nat → Int → Int
  | 0, x => x
  | n + 1, x => if x < 0 then x else climb pa n (pa x.toNat)
def tTake (H : sH) (T : sT) (c : sCh) : sT :=
  if cK c = 0 then tMk (upf (tTh T) (cE c) true) (tDd T) (upf (tKl T) (cE c) (cX c)) (upf (tPa T) (cE c) (cY c)) (upf (tNm T) (cE c) (cW c)) (tLk T) (upf (tBn T) (cE c) (cR c)) ((cV c).foldl (fun vs x => vTake H vs (cE c) x.1 x.2) (tVs T)) (tSy T)
  else if cK c = 1 then tMk (tTh T) (tDd T) (tKl T) (tPa T) (tNm T) (tLk T) (tBn T) (vTake H (tVs T) (cE c) (cX c).toNat (cY c).toNat) (tSy T)
  else if cK c = 2 then tMk (tTh T) (tDd T) (tKl T) (tPa T) (tNm T) (tLk T) (tBn T) (vDrop H (tVs T) (cE c) (cX c).toNat false (cY c).toNat) (tSy T)
  else if cK c = 3 then tMk (tTh T) (tDd T) (tKl T) (tPa T) (tNm T) (tLk T) (tBn T) (vDrop H (tVs T) (cE c) (cX c).toNat true (cY c).toNat ++ [(cE c, (cX c).toNat, (cY c).toNat)]) (tSy T)
  else if cK c = 4 then tMk (tTh T) (tDd T) (tKl T) (tPa T) (upf (tNm T) (cE c) (cX c)) (tLk T) (tBn T) (tVs T) (tSy T)
  else if cK c = 5 then tMk (tTh T) (tDd T) (tKl T) (tPa T) (tNm T) (upf (tLk T) (cE c) (cX c)) (tBn T) (tVs T) (tSy T)
  else if cK c = 6 then tMk (tTh T) (tDd T) (tKl T) (tPa T) (tNm T) (tLk T) (tBn T) (tVs T) (upf (tSy T) (cE c) (upf (tSy T (cE c)) (cX c).toNat (cY c).toNat))
  else if cK c = 7 then tMk (tTh T) (tDd T) (tKl T) (if pCome (tPa T) 48 (cX c) (cE c) then tPa T else upf (tPa T) (cE c) (cX c)) (tNm T) (tLk T) (tBn T) (tVs T) (tSy T)
  else tMk (tTh T) (upf (tDd T) (cE c) true) (tKl T) (tPa T) (tNm T) (tLk T) (tBn T) (tVs T) (tSy T)
-- what is asked of a tree
def tLv (T : sT) (e : Int) : Bool := decide (0 ≤ e) && (decide (e < 48) && (tTh T e.toNat && !tDd T e.toNat))
def tPl (T : sT) (e : Int) : Int := if e = 0 then -1 else if tLv T (tPa T e.toNat) then tPa T e.toNat else -2
def tCl (T : sT) (e o : Nat) : Bool := tLv T o && (decide (tPl T o = tPl T e) && (decide (tNm T o = tNm T e) && decide (tBn T o < tBn T e)))
/-- whether one from i on, below 48, is so -/
def anyF (p : Nat → Bool) : Nat → Nat → Bool
  | _, 0 => false
  | i, n + 1 => p i || anyF p (i + 1) n
def tSh (T : sT) (e : Nat) : Int := if anyF (tCl T e) 1 47 then 100 + (e : Int) else tNm T e
def tShd (T : sT) (place name but : Int) : Bool := anyF (fun e => decide ((e : Int) ≠ but) && (tLv T e && (decide (tPl T e = place) && decide (tSh T e = name)))) 1 47
def tCh (T : sT) (place : Int) (e : Nat) : Bool := tLv T e && decide (tPl T e = place)
def tCnt (T : sT) (e a : Nat) : Nat := (tVs T).countP (fun x => decide (x.1 = e) && decide (x.2.1 = a))
def tMt (H : sH) (T : sT) (e a v : Nat) : Nat := (tVs T).countP (vGoes H e a false v)
/-- rules: subjects are users (below 6), groups (6 on), everybody (54) -/
def tApp (H : sH) (T : sT) (who s : Nat) : Bool := if s < 6 then decide (s = who) else if s = 54 then true else tLv T ((s : Int) - 6) && decide (0 < tMt H T (s - 6) 0 who)
def tNear (T : sT) (e s up what : Nat) : Nat := if 1 < up then 0 else tSy T e (6 * s + what + 2 * up)
def tAct (H : sH) (T : sT) (who e up what s : Nat) : Bool := (decide (0 < tNear T e s up what) || decide (0 < tSy T e (6 * s + what + 4))) && tApp H T who s
def tDen (T : sT) (e up what s : Nat) : Bool := decide (tNear T e s up what = 2) || decide (tSy T e (6 * s + what + 4) = 2)
def tDec1 (H : sH) (T : sT) (who e up what i n : Nat) : Nat := if anyF (fun s => tAct H T who e up what s && tDen T e up what s) i n then 2 else if anyF (tAct H T who e up what) i n then 1 else 0
def tDec (H : sH) (T : sT) (who e up what : Nat) : Nat :=
  if tDec1 H T who e up what 0 6 ≠ 0 then tDec1 H T who e up what 0 6 else if tDec1 H T who e up what 6 48 ≠ 0 then tDec1 H T who e up what 6 48 else tDec1 H T who e up what 54 1
def tTold (H : sH) (T : sT) (who what : Nat) : Nat → Nat → Int → Nat
  | 0, _, _ => 0
  | n + 1, up, x => if x < 0 then 0 else if tDec H T who x.toNat up what ≠ 0 then tDec H T who x.toNat up what else tTold H T who what n (up + 1) (tPl T x)
def tMay (H : sH) (T : sT) (who : Nat) (e : Int) (what : Nat) : Bool := decide (who = 0) || (if tTold H T who what 48 0 e = 0 then decide (what = 0) else decide (tTold H T who what 48 0 e = 1))

