/-! THE HOUR, told on the reference's row: r 0 z, 1 monks, 2 hour, 3 wind, 4 spilt, 5 ends, 6 texts, 7+i sand, 10+4t need, done, faults, wiped, 34+3m kind, pace, at. tv: what the texts give. -/
abbrev Row : Type := Nat → Int32
abbrev Tv : Type := Nat → Int32 → Int32 → Int32 → Option Int32
def cl3 (v lo hi : Int32) : Int32 := if lo ≤ v then if v ≤ hi then v else hi else lo
def aZ (r : Row) : Int32 := r 0 * 1103515245 + 12345
def aD (r : Row) : Nat := (aZ r).toBitVec.toNat / 256
def aN (po sa ro : Int32) : Int32 := if (if po ≤ sa then po else sa) ≤ ro then (if po ≤ sa then po else sa) else if 0 ≤ ro then ro else 0
def aSp (k n : Int32) : Int32 := if k = 2 then n / 10 else if k = 4 then n / 10 + (if n ≤ 0 then (0 : Int32) else 1) else 0
def aAd (k n : Int32) : Int32 := if k = 5 then 1 else if aSp k n ≤ 0 then (0 : Int32) else 1
def aPo (k pl x : Int32) : Int32 := if k = 1 then pl / 2 else if k = 2 then pl + x else if k = 3 then cl3 (pl / 2 - x / 3) 0 999 else if k = 4 then 2 * (pl + x) else if k = 5 then cl3 pl 0 9 else pl
def aPl (tv : Tv) (r : Row) (m : Nat) (x : Int32) : Int32 := match tv 0 (r (35 + 3 * m)) (r (11 + 4 * ix (r (36 + 3 * m)))) x with
  | none => r (35 + 3 * m)
  | some v => cl3 v 0 999
def aPours (tv : Tv) (r : Row) (m : Nat) (x : Int32) : Int32 := aPo (r (34 + 3 * m)) (aPl tv r m x) x
/-- n grains are poured by the monk m at the table t -/
def aPut (r : Row) (m t : Nat) (n : Int32) : Row :=
  let k := r (34 + 3 * m)
  let r1 := upd r (7 + t % 3) (r (7 + t % 3) - n)
  let r2 := upd r1 4 (r1 4 + aSp k n)
  let r3 := upd r2 (11 + 4 * t) (r2 (11 + 4 * t) + (n - aSp k n))
  upd r3 (12 + 4 * t) (r3 (12 + 4 * t) + aAd k n)
def aWork (tv : Tv) (sk : Bool) (r : Row) (m : Nat) (x : Int32) : Row :=
  let t := ix (r (36 + 3 * m))
  let n := if sk then 0 else aN (aPours tv r m x) (r (7 + t % 3)) (r (10 + 4 * t) - r (11 + 4 * t))
  if n = 0 then r else aPut r m t n
def aBlow (r : Row) (t : Nat) : Row :=
  let u := (t + 1) % 6
  let b := r (11 + 4 * t) / 10
  let r1 := upd r (11 + 4 * t) (r (11 + 4 * t) - b)
  let r2 := upd r1 (11 + 4 * u) (r1 (11 + 4 * u) + b)
  upd r2 (12 + 4 * u) (r2 (12 + 4 * u) + (if b ≤ 0 then (0 : Int32) else 1))
def aBk (tv : Tv) (r : Row) (t : Nat) : Int32 := match tv 1 (r (11 + 4 * t)) (r (12 + 4 * t)) (r (13 + 4 * t)) with
  | none => r (11 + 4 * t)
  | some v => cl3 v 0 (r (11 + 4 * t))
def aCm (tv : Tv) (r : Row) (t : Nat) : Int32 := if aBk tv r t ≤ 99999 - r (7 + t % 3) then aBk tv r t else 99999 - r (7 + t % 3)
def aWipe (tv : Tv) (r : Row) (t : Nat) : Row :=
  let d := r (11 + 4 * t)
  let c := aCm tv r t
  let r1 := upd r (7 + t % 3) (r (7 + t % 3) + c)
  let r2 := upd r1 4 (r1 4 + (d - c))
  let r3 := upd r2 (11 + 4 * t) 0
  let r4 := upd r3 (12 + 4 * t) 0
  upd r4 (13 + 4 * t) (r4 (13 + 4 * t) + 1)
def aMonks (tv : Tv) (idle : Int32) : Nat → Row → Row
  | 0, r => r
  | k + 1, r => aWork tv (decide (nI k = idle)) (upd (aMonks tv idle k r) 0 (aZ (aMonks tv idle k r))) k (nI (aD (aMonks tv idle k r) % 10))
def aDone (r : Row) (t : Nat) : Bool := decide (r (10 + 4 * t) ≤ r (11 + 4 * t))
def aCnt (r : Row) : Nat → Nat
  | 0 => 0
  | k + 1 => aCnt r k + (if aDone r k = true then 1 else 0)
def aWipes (tv : Tv) : Nat → Row → Row
  | 0, r => r
  | k + 1, r => if aDone (aWipes tv k r) k = true then aWipe tv (aWipes tv k r) k else aWipes tv k r
def aBlows (r : Row) : Row := if r 3 ≤ nI (aD r % 100) then upd r 0 (aZ r) else aBlow (upd (upd r 0 (aZ r)) 0 (aZ (upd r 0 (aZ r)))) (aD (upd r 0 (aZ r)) % 6)
def aEnd (r : Row) : Row := if aCnt r 6 = 6 then upd r 5 (r 5 + 1) else r
def aPre (tv : Tv) (idle : Int32) (r : Row) : Row := aBlows (aMonks tv idle (ix (r 1)) r)
def aHour (tv : Tv) (idle : Int32) (r : Row) : Row :=
  let r5 := aWipes tv 6 (aEnd (aPre tv idle r))
  upd r5 2 (r5 2 + 1)
def aCount (tv : Tv) (idle : Int32) (r : Row) : Nat := aCnt (aPre tv idle r) 6
