/-! the agreed store as pure functions over lists: what both sides are held against. Numbers lie as in the reference (a.1), 150 writes, 151 begun (as the class counts them); the rest is typed -/
/-- an entry: term, kind, size, code, serial, asking -/
abbrev AE : Type := Int32 × Int32 × Int32 × Int32 × Int32 × Int32
/-- a session: number, used, serial, place, answer -/
abbrev AN : Type := Int32 × Int32 × Int32 × Int32 × List Int32
/-- a machine: the sessions as the reference has them in order, the keys ascending -/
abbrev AM : Type := List AN × List (List Int32 × List Int32)
/-- a letter: numbers by the class's fields, entries, bytes, the machine of a piece -/
abbrev AL : Type := (Nat → Int32) × List AE × List Int32 × AM
abbrev AP : Type := Int32 × Int32 × AL
/-- a file: 0 there 1 size 2 first 3 term 4 more; entries as they were written; machine -/
abbrev AF : Type := (Nat → Int32) × List AE × AM
/-- a request that waits: 0 its number in the row, 1 client, 2 request, 3 asking, 4 number, 5 term, 6 round -/
abbrev AQ : Type := Nat → Int32
/-- an asking: 0 client 1 kind 2 moment 3 told at 4 told 5 place 7 first 8 second; bytes -/
abbrev AK : Type := (Nat → Int32) × List Int32
abbrev AX : Type := List AP × (Nat → List AL) × (Nat → List AE) × (Nat → AM) × (Nat → AM) × (Nat → AM) × (Nat → Nat → AF) × (Nat → Nat → AF) × (Nat → List Nat) × (Nat → List AQ) × List AK × List Int32 × List Int32 × (Nat → List Int32)
abbrev AA : Type := RS × AX
def aU {α : Type} (w : Nat → α) (i : Nat) (v : α) : Nat → α := fun j => if j = i then v else w j
def aS (a : AA) (f i : Nat) : Int32 := a.1.1 f i
def aI (a : AA) (f i : Nat) (v : Int32) : AA := (setI a.1 f i v, a.2)
def aJ (a : AA) (f i : Nat) (v : Int64) : AA := (setL a.1 f i v, a.2)
def aWay (a : AA) : List AP := a.2.1
def aWt (a : AA) : Nat → List AL := a.2.2.1
def aLg (a : AA) : Nat → List AE := a.2.2.2.1
def aMc (a : AA) : Nat → AM := a.2.2.2.2.1
def aSh (a : AA) : Nat → AM := a.2.2.2.2.2.1
def aPm (a : AA) : Nat → AM := a.2.2.2.2.2.2.1
def aFc (a : AA) : Nat → Nat → AF := a.2.2.2.2.2.2.2.1
def aFk (a : AA) : Nat → Nat → AF := a.2.2.2.2.2.2.2.2.1
def aCh (a : AA) : Nat → List Nat := a.2.2.2.2.2.2.2.2.2.1
def aRq (a : AA) : Nat → List AQ := a.2.2.2.2.2.2.2.2.2.2.1
def aAk (a : AA) : List AK := a.2.2.2.2.2.2.2.2.2.2.2.1
def aTp (a : AA) : List Int32 := a.2.2.2.2.2.2.2.2.2.2.2.2.1
def aRe (a : AA) : List Int32 := a.2.2.2.2.2.2.2.2.2.2.2.2.2.1
def aDn (a : AA) : Nat → List Int32 := a.2.2.2.2.2.2.2.2.2.2.2.2.2.2
def aWayS (a : AA) (v : List AP) : AA := (a.1, v, a.2.2)
def aWtS (a : AA) (s : Nat) (v : List AL) : AA := (a.1, aWay a, aU (aWt a) s v, a.2.2.2)
def aLgS (a : AA) (s : Nat) (v : List AE) : AA := (a.1, aWay a, aWt a, aU (aLg a) s v, a.2.2.2.2)
def aMcS (a : AA) (s : Nat) (v : AM) : AA := (a.1, aWay a, aWt a, aLg a, aU (aMc a) s v, a.2.2.2.2.2)
def aShS (a : AA) (s : Nat) (v : AM) : AA := (a.1, aWay a, aWt a, aLg a, aMc a, aU (aSh a) s v, a.2.2.2.2.2.2)
def aPmS (a : AA) (s : Nat) (v : AM) : AA := (a.1, aWay a, aWt a, aLg a, aMc a, aSh a, aU (aPm a) s v, a.2.2.2.2.2.2.2)
def aFcS (a : AA) (s : Nat) (v : Nat → AF) : AA := (a.1, aWay a, aWt a, aLg a, aMc a, aSh a, aPm a, aU (aFc a) s v, a.2.2.2.2.2.2.2.2)
def aFkS (a : AA) (s : Nat) (v : Nat → AF) : AA := (a.1, aWay a, aWt a, aLg a, aMc a, aSh a, aPm a, aFc a, aU (aFk a) s v, a.2.2.2.2.2.2.2.2.2)
def aChS (a : AA) (s : Nat) (v : List Nat) : AA := (a.1, aWay a, aWt a, aLg a, aMc a, aSh a, aPm a, aFc a, aFk a, aU (aCh a) s v, a.2.2.2.2.2.2.2.2.2.2)
def aRqS (a : AA) (s : Nat) (v : List AQ) : AA := (a.1, aWay a, aWt a, aLg a, aMc a, aSh a, aPm a, aFc a, aFk a, aCh a, aU (aRq a) s v, a.2.2.2.2.2.2.2.2.2.2.2)
def aAkS (a : AA) (v : List AK) : AA := (a.1, aWay a, aWt a, aLg a, aMc a, aSh a, aPm a, aFc a, aFk a, aCh a, aRq a, v, a.2.2.2.2.2.2.2.2.2.2.2.2)
def aTpS (a : AA) (v : List Int32) : AA := (a.1, aWay a, aWt a, aLg a, aMc a, aSh a, aPm a, aFc a, aFk a, aCh a, aRq a, aAk a, v, a.2.2.2.2.2.2.2.2.2.2.2.2.2)
def aReS (a : AA) (v : List Int32) : AA := (a.1, aWay a, aWt a, aLg a, aMc a, aSh a, aPm a, aFc a, aFk a, aCh a, aRq a, aAk a, aTp a, v, aDn a)
def aDnS (a : AA) (s : Nat) (v : List Int32) : AA := (a.1, aWay a, aWt a, aLg a, aMc a, aSh a, aPm a, aFc a, aFk a, aCh a, aRq a, aAk a, aTp a, aRe a, aU (aDn a) s v)
/-! the world -/
def aNow (a : AA) : Int32 := aS a 1 0
def aB (b : Bool) : Int32 := if b then 1 else 0
def aAdd (a : AA) (f i : Nat) (v : Int32) : AA := aI a f i (aS a f i + v)
def A_alarm (a : AA) (e : Nat) (t : Int32) : AA := aAdd (aI (aI a 30 e t) 29 e (aS a 2 0)) 2 0 1
def aLcg (x : Int64) : Int64 := x * 6364136223846793005 + 1442695040888963407
def aRnd (x m : Int64) : Int32 := ((x.toUInt64 >>> 33).toInt64 - (x.toUInt64 >>> 33).toInt64 / m * m).toInt32
def A_draw (a : AA) (m : Int32) : Int32 × AA := (aRnd (aLcg (a.1.2 28 0)) m.toInt64, aJ a 28 0 (aLcg (a.1.2 28 0)))
def A_drawAlarm (a : AA) (s : Nat) : AA := A_alarm (aJ a 84 s (aLcg (a.1.2 84 s))) s (aNow a + 50 + aRnd (aLcg (a.1.2 84 s)) 50)
def A_parted (a : AA) (f t : Int32) : Bool := !decide (((aS a 24 0 >>> (f &&& 31)) &&& 1) = ((aS a 24 0 >>> (t &&& 31)) &&& 1))
def aLet (f t k tm : Int32) : AL := (fun j => if j = 2 then f else if j = 3 then t else if j = 4 then k else if j = 5 then tm else 0, [], [], ([], []))
def aLn (l : AL) (f : Nat) (v : Int32) : AL := (aU l.1 f v, l.2)
def aIns (x : AP) (w : List AP) : List AP := w.takeWhile (fun y => decide (y.1 ≤ x.1)) ++ x :: w.dropWhile (fun y => decide (y.1 ≤ x.1))
def A_fly (a : AA) (l : AL) (time : Int32) : AA := if 128 ≤ (aWay a).length then aAdd a 22 0 1 else aWayS (aAdd (aAdd a 2 0 1) 21 0 1) (aIns (time, aS a 2 0, l) (aWay a))
def A_sendOut (a : AA) (l : AL) : AA :=
  if A_parted a (l.1 2) (l.1 3) then aAdd a 22 0 1
  else if aS a 25 0 = 0 ∧ aS a 26 0 = 0 ∧ aS a 27 0 = 0 then A_fly a l (aNow a + aS a 23 (16 * (l.1 2) + l.1 3).toNatClampNeg)
  else if (A_draw a 1000).1 < aS a 25 0 then aAdd (A_draw a 1000).2 22 0 1
  else
    let late := aNow a + aS a 23 (16 * (l.1 2) + l.1 3).toNatClampNeg
    let r2 := A_draw (A_draw a 1000).2 1000
    let r3 := A_draw r2.2 (aS a 27 0 + 1)
    let a4 := A_fly r3.2 l (late + r3.1)
    if r2.1 < aS a 26 0 then A_fly (A_draw a4 (aS a 27 0 + 1)).2 l (late + (A_draw a4 (aS a 27 0 + 1)).1) else a4
def A_post (a : AA) (s : Nat) (l : AL) : AA := if aS a 71 s = 0 then A_sendOut a l else if (aWt a s).length < 32 then aWtS a s (aWt a s ++ [l]) else a
def A_sendAllOut (a : AA) : List AL → AA
  | [] => a
  | l :: r => A_sendAllOut (A_sendOut a l) r
/-! the disk -/
def aSoil (a : AA) (s : Nat) : AA := if aS a 71 s = 0 then aAdd (aI (aI (aI a 71 s 1) 32 s (aNow a + aS a 72 s)) 31 s (aS a 2 0)) 2 0 1 else a
def aF (there size first term more : Int32) (es : List AE) (m : AM) : AF := (fun j => if j = 0 then there else if j = 1 then size else if j = 2 then first else if j = 3 then term else if j = 4 then more else 0, es, m)
def aEsz (e : AE) : Int := 25 + e.2.2.1.toInt
/-- where the frame of entry k begins -/
def aFrame (es : List AE) (k : Nat) : Int := 24 + ((es.take k).map aEsz).sum
/-- how many entries are whole within n bytes -/
def aWholes : List AE → Int → Nat
  | [], _ => 0
  | e :: r, n => if aEsz e ≤ n then aWholes r (n - aEsz e) + 1 else 0
def aWhole (F : AF) : List AE := F.2.1.take (aWholes F.2.1 ((F.1 1).toInt - 24))
def aFs (a : AA) (s f : Nat) : AF := aFc a s f
def aPut (a : AA) (s f : Nat) (F : AF) : AA := aFcS a s (aU (aFc a s) f F)
def aMin (x y : Int32) : Int32 := if x ≤ y then x else y
def aMax (x y : Int32) : Int32 := if x ≤ y then y else x
def aCut (a : AA) (s f : Nat) (n : Int32) : AA :=
  let F := aFc a s f
  let z := aMin (F.1 1) n
  aI (aPut a s f (aU F.1 1 z, F.2)) 43 (16 * s + f) (aMin (aS a 43 (16 * s + f)) z)
def aRemove (a : AA) (s f : Nat) : AA := aI (aPut a s f (aU (aU (aFc a s f).1 0 0) 1 0, (aFc a s f).2)) 43 (16 * s + f) 0
def aRemoveAll (a : AA) (s : Nat) : List Nat → AA
  | [] => a
  | f :: r => aRemoveAll (aRemove a s f) s r
def aSyncFile (a : AA) (s f : Nat) : AA := aI (aFkS a s (aU (aFk a s) f (aFc a s f))) 43 (16 * s + f) ((aFc a s f).1 1)
def aSyncFiles (a : AA) (s : Nat) : Nat → AA
  | 0 => a
  | n + 1 => aSyncFile (aSyncFiles a s n) s n
def A_syncAll (a : AA) (s : Nat) : AA := aI (aI (aSyncFiles a s 16) 46 s 0) 71 s 0
def aLaySlot (a : AA) (s : Nat) : AA :=
  let f : Int32 := if aS a 46 s = 0 then (if aS a 45 s = 1 then 0 else 1) else aS a 45 s
  let a1 := aAdd a 150 s 1
  let a2 := aI (aPut a1 s f.toNatClampNeg (aF 1 32 (aS a1 150 s) (aS a 53 s) (aS a 54 s) [] ([], []))) 43 (16 * s + f.toNatClampNeg) 0
  aI (aI a2 45 s f) 46 s 1
def A_writeSlot (a : AA) (s : Nat) : AA := aSoil (aLaySlot a s) s
def aWriteShot (a : AA) (s : Nat) : AA :=
  let f : Nat := if aS a 47 s = 2 then 3 else 2
  let F := aF 1 (20 + aS a 67 s) (aS a 55 s) (aS a 57 s) (aS a 58 s) [] (aSh a s)
  aI (aSyncFile (aPut a s f F) s f) 47 s (Int32.ofNat f)
def aFree (a : AA) (s : Nat) : Option Nat := ((List.range 16).drop 4).find? (fun f => decide ((aFc a s f).1 0 = 0))
/-! the log -/
def aBase (a : AA) (s : Nat) : Int32 := aS a 55 s
def aLast (a : AA) (s : Nat) : Int32 := aS a 56 s
def aHas (a : AA) (s : Nat) (n : Int32) : Bool := decide (aBase a s < n) && decide (n ≤ aLast a s)
def aEnt (a : AA) (s : Nat) (n : Int32) : AE := (aLg a s).getD (n - aBase a s - 1).toNatClampNeg (0, 0, 0, 0, 0, 0)
def aTermAt (a : AA) (s : Nat) (n : Int32) : Int32 := if n = aBase a s then aS a 57 s else if aHas a s n then (aEnt a s n).1 else -1
def aMemAt : List AE → Nat
  | [] => 0
  | e :: r =>
    let k := aMemAt r
    if 0 < k then k + 1 else if e.2.1 = 1 then 1 else 0
def aMemC (c : Int32) : List AE → Int32
  | [] => c
  | e :: r => aMemC (if e.2.1 = 1 then e.2.2.2.1 else c) r
def aFindCode (a : AA) (s : Nat) : AA := aI (aI a 64 s (aBase a s + Int32.ofNat (aMemAt (aLg a s)))) 65 s (aMemC (aS a 58 s) (aLg a s))
/-- the last segment, or a new one -/
def aSeg (a : AA) (s : Nat) : AA × Nat :=
  let g := (aCh a s).getLastD 0
  if (aCh a s) = [] ∨ 8000 < (aFc a s g).1 1 then
    let f := (aFree a s).getD 0
    (aChS (aI (aPut a s f (aF 1 24 (aLast a s + 1) (aTermAt a s (aLast a s)) 0 [] ([], []))) 43 (16 * s + f) 0) s (aCh a s ++ [f]), f)
  else (a, g)
def A_append (a : AA) (s : Nat) (e : AE) : AA :=
  let r := aSeg a s
  let F := aFc r.1 s r.2
  let a2 := aPut r.1 s r.2 (aU F.1 1 (F.1 1 + 25 + e.2.2.1), aWhole F ++ [e], F.2.2)
  let a3 := aI (aLgS a2 s (aLg a s ++ [e])) 56 s (aLast a s + 1)
  aSoil (if e.2.1 = 1 then aI (aI a3 64 s (aLast a s + 1)) 65 s e.2.2.2.1 else a3) s
/-- the files of a chain that begin at an entry or later, the others -/
def aFrom (a : AA) (s : Nat) (n : Int32) (c : List Nat) : List Nat := c.filter (fun f => decide (n ≤ (aFc a s f).1 2))
def aBelow (a : AA) (s : Nat) (n : Int32) (c : List Nat) : List Nat := c.filter (fun f => !decide (n ≤ (aFc a s f).1 2))
def A_cutLog (a : AA) (s : Nat) (n : Int32) : AA :=
  let lo := aBelow a s n (aCh a s)
  let a1 := aChS (aRemoveAll a s (aFrom a s n (aCh a s))) s lo
  let a2 := match lo.getLast? with
    | none => a1
    | some f => aCut a1 s f (Int32.ofInt (aFrame (aFc a1 s f).2.1 (n - (aFc a1 s f).1 2).toNatClampNeg))
  let a3 := aLgS (aI a2 56 s (n - 1)) s ((aLg a s).take (n - 1 - aBase a s).toNatClampNeg)
  aSoil (aFindCode (aI a3 77 s (aMin (aS a 77 s) (n - 1))) s) s
def aOld (a : AA) (s : Nat) : List Nat → List Nat × List Nat
  | f :: g :: r =>
    if (aFc a s g).1 2 ≤ aBase a s + 1 then
      let q := aOld a s (g :: r)
      (f :: q.1, q.2)
    else ([], f :: g :: r)
  | c => ([], c)
def aTrim (a : AA) (s : Nat) : AA :=
  let r := if aLast a s = aBase a s then (aCh a s, []) else aOld a s (aCh a s)
  aChS (aRemoveAll a s r.1) s r.2
/-- the base moves to an entry; what goes on stays -/
def aMoveBase (a : AA) (s : Nat) (n t c : Int32) : AA :=
  let goes := aHas a s n && decide (aTermAt a s n = t)
  let l : Int32 := if goes then aLast a s else n
  let a1 := aLgS a s (if goes then (aLg a s).drop (n - aBase a s).toNatClampNeg else [])
  aI (aI (aI (aI (aI a1 55 s n) 57 s t) 58 s c) 56 s l) 77 s (aMin (aS a 77 s) l)
/-! machines -/
/-- below 0 if a key comes ahead of another -/
def aCmp : List Int32 → List Int32 → Int32
  | [], y => 0 - Int32.ofNat y.length
  | x :: r, [] => Int32.ofNat (r.length + 1)
  | x :: r, y :: q => if (x &&& 255) - (y &&& 255) = 0 then aCmp r q else (x &&& 255) - (y &&& 255)
def aRank (M : AM) (k : List Int32) : Nat := (M.2.takeWhile (fun e => decide (aCmp e.1 k < 0))).length
def aUnit (k v : Nat) : Nat := (k + v + 15) / 16
def aUnits (M : AM) : Nat := (M.2.map (fun e => aUnit e.1.length e.2.length)).sum
/-- the value of a key -/
def aFind (M : AM) (k : List Int32) : Option (List Int32) := match M.2[aRank M k]? with
  | some e => if aCmp e.1 k = 0 then some e.2 else none
  | none => none
/-- a key with a value, if there is room -/
def aKeep (M : AM) (k v : List Int32) : Option AM :=
  let had := match aFind M k with
    | some w => aUnit k.length w.length
    | none => 0
  if ((aFind M k).isNone ∧ M.2.length = 128) ∨ 700 < aUnits M - had + aUnit k.length v.length then none
  else some (M.1, M.2.take (aRank M k) ++ (k, v) :: M.2.drop (aRank M k + if (aFind M k).isNone then 0 else 1))
def aForget (M : AM) (k : List Int32) : AM := (M.1, M.2.eraseIdx (aRank M k))
/-- an operation: kind, first, second, the bytes; the machine after it and the answer -/
def aOp (M : AM) (kind : Int32) (k v : Nat) (b : List Int32) : AM × List Int32 :=
  let key := b.take k
  if kind = 0 then
    match aKeep M key (b.drop k) with
    | some M' => (M', match aFind M key with
      | some w => 1 :: w
      | none => [0])
    | none => (M, [2])
  else if kind = 1 then
    match aFind M key with
    | none => (M, [3])
    | some w => if w = (b.drop k).take v then
        match aKeep M key (b.drop (k + v)) with
        | some M' => (M', [1])
        | none => (M, [2])
      else (M, 0 :: w)
  else
    match aFind M key with
    | none => (M, [0])
    | some w => (aForget M key, 1 :: w)
def aSesOf (M : AM) (n : Int32) : Option Nat := M.1.findIdx? (fun x => decide (x.1 = n))
/-- the place of the session that was used the longest ago -/
def aOldest : List AN → Nat
  | [] => 0
  | x :: r => match r with
    | [] => 0
    | _ :: _ =>
      let k := aOldest r
      if (r.getD k x).2.1 < x.2.1 then k + 1 else 0
def aOpen (M : AM) (n : Int32) : AM :=
  let l := if M.1.length = 16 then (M.1.set (aOldest M.1) (M.1.getD 15 (0, 0, 0, 0, []))).take 15 else M.1
  (l ++ [(n, n, 0, 0, [])], M.2)
/-- what comes of a command at a place: the machine, 0 done 1 unknown 2 nothing, the place and the answer -/
def aPerf (K : List AK) (M : AM) (n : Int32) (e : AE) : AM × Int32 × Int32 × List Int32 :=
  if e.2.2.2.2.2 = -1 then (aOpen M n, 0, n, [])
  else match aSesOf M e.2.2.2.1 with
    | none => (M, 1, n, [])
    | some i =>
      let x := M.1.getD i (0, 0, 0, 0, [])
      let M1 : AM := (M.1.set i (x.1, n, x.2.2), M.2)
      if e.2.2.2.2.1 < x.2.2.1 then (M1, 2, n, [])
      else if e.2.2.2.2.1 = x.2.2.1 then (M1, 0, x.2.2.2.1, x.2.2.2.2)
      else
        let k := K.getD e.2.2.2.2.2.toNatClampNeg (fun _ => 0, [])
        let r := aOp M1 (k.1 1) (k.1 7).toNatClampNeg (k.1 8).toNatClampNeg k.2
        ((r.1.1.set i (x.1, n, e.2.2.2.2.1, n, r.2), r.1.2), 0, n, r.2)
def aLow8 (x : Int32) : Int32 := x.toInt8.toInt32
/-- a read's answer -/
def aQuery (M : AM) (k : AK) : List Int32 :=
  let key := k.2.take (k.1 7).toNatClampNeg
  if k.1 1 = 3 then
    match aFind M key with
    | some w => 1 :: w
    | none => [0]
  else if k.1 1 = 4 then
    let n := aRank M (k.2.drop (k.1 7).toNatClampNeg) - aRank M key
    [aLow8 (Int32.ofNat n), aLow8 (Int32.ofNat n >>> 8)]
  else match M.2[aRank M key]? with
    | none => [0]
    | some e => 1 :: Int32.ofNat e.1.length :: (e.1 ++ e.2)
/-- how many bytes a machine is saved in -/
def aSize (M : AM) : Nat := 8 + (M.1.map (fun x => 18 + x.2.2.2.2.length)).sum + (M.2.map (fun e => 3 + e.1.length + e.2.length)).sum
/-! sets of servers -/
def aIn (set : Int32) (p : Nat) : Bool := decide ((set >>> Int32.ofNat p) &&& 1 = 1)
def aCnt (set : Int32) : Nat := ((List.range 7).filter (aIn set)).length
def aOldM (c : Int32) : Int32 := c &&& 127
def aNewM (c : Int32) : Int32 := (c >>> 7) &&& 127
def aLearn (c : Int32) : Int32 := (c >>> 14) &&& 127
def aVoters (a : AA) (s : Nat) : Int32 := aOldM (aS a 65 s) ||| aNewM (aS a 65 s)
def aVoter (a : AA) (s p : Nat) : Bool := aIn (aVoters a s) p
def aPeer (a : AA) (s p : Nat) : Bool := !decide (p = s) && aIn (aVoters a s ||| aLearn (aS a 65 s)) p
def aMaj (c set : Int32) : Bool := decide (aCnt (aOldM c) < 2 * aCnt (set &&& aOldM c)) && (decide (aNewM c = 0) || decide (aCnt (aNewM c) < 2 * aCnt (set &&& aNewM c)))
def aReach (x : Nat → Int32) (v : Int32) : Nat → Int32
  | 0 => 0
  | p + 1 =>
    let m := aReach x v p
    if v ≤ x p then m ||| (1 <<< Int32.ofNat p) else m
/-- the greatest number that a majority has at least -/
def aCommon (c : Int32) (x : Nat → Int32) : Nat → Int32
  | 0 => -2147483647
  | p + 1 =>
    let m := aCommon c x p
    if m < x p ∧ aMaj c (aReach x (x p) 7) then x p else m
/-! roles and elections -/
def aDropReq (a : AA) (s : Nat) : AA := aRqS a s []
def A_stepDown (a : AA) (s : Nat) (t l : Int32) : AA :=
  let a1 := if aS a 53 s < t then A_writeSlot (aI (aI a 53 s t) 54 s (-1)) s else a
  let a2 := if aS a1 73 s = 3 then aI (aDropReq (A_drawAlarm a1 s) s) 80 s (-1) else a1
  aI (aI a2 73 s 0) 74 s l
def aLastTerm (a : AA) (s : Nat) : Int32 := aTermAt a s (aLast a s)
def aAsNew (a : AA) (s : Nat) (n t : Int32) : Bool := decide (aLastTerm a s < t) || (decide (t = aLastTerm a s) && decide (aLast a s ≤ n))
def aAskOne (a : AA) (s : Nat) (k t : Int32) (p : Nat) : AA := if !decide (p = s) && aIn (aVoters a s) p then A_post a s (aLn (aLn (aLet (Int32.ofNat s) (Int32.ofNat p) k t) 7 (aLast a s)) 8 (aLastTerm a s)) else a
def aAskVoters (a : AA) (s : Nat) (k t : Int32) : Nat → AA
  | 0 => a
  | p + 1 => aAskOne (aAskVoters a s k t p) s k t p
def A_campaign (a : AA) (s : Nat) : AA :=
  let a1 := aI (aAdd (aI (aI a 73 s 2) 74 s (-1)) 53 s 1) 54 s (Int32.ofNat s)
  let a2 := A_drawAlarm (aI (A_writeSlot a1 s) 79 s 0) s
  aAskVoters a2 s 3 (aS a2 53 s) 7
/-! leading -/
def aRound (a : AA) (s : Nat) : Int32 := aS a 83 s
/-- a letter of entries from one on -/
def aEntries (a : AA) (s p : Nat) (from_ : Int32) (n : Nat) : AL :=
  let l := aLet (Int32.ofNat s) (Int32.ofNat p) 5 (aS a 53 s)
  let es := ((aLg a s).drop (from_ - aBase a s - 1).toNatClampNeg).take n
  (aU (aU (aU (aU (aU l.1 7 (from_ - 1)) 8 (aTermAt a s (from_ - 1))) 9 (aS a 75 s)) 10 (aRound a s)) 17 (Int32.ofNat n), es, [], ([], []))
def aPiece (a : AA) (s p : Nat) : AL :=
  let l := aLet (Int32.ofNat s) (Int32.ofNat p) 7 (aS a 53 s)
  let o := aS a 90 (7 * s + p)
  (aU (aU (aU (aU (aU (aU (aU l.1 7 (aBase a s)) 8 (aS a 57 s)) 11 (aS a 58 s)) 12 (aS a 67 s)) 13 o) 10 (aRound a s)) 17 (aMin 200 (aS a 67 s - o)), [], [], aSh a s)
/-- how many entries go at once from one on -/
def aMany (a : AA) (s : Nat) (from_ : Int32) : Int32 := aMin 6 (aLast a s - from_ + 1)
/-- entries go until there is enough under way; whether some went -/
def aStream (s p : Nat) : Nat → AA → AA × Bool
  | 0, a => (a, false)
  | n + 1, a =>
    let k := 7 * s + p
    if aS a 86 k ≤ aLast a s ∧ aS a 88 k < (if aS a 89 k = 0 then 4 else 1) then
      let m := aMany a s (aS a 86 k)
      let a1 := aAdd (aAdd a 88 k 1) 86 k m
      let r := aStream s p n (A_post a1 s (aEntries a s p (aS a 86 k) m.toNatClampNeg))
      (r.1, true)
    else (a, false)
def A_send (a : AA) (s p : Nat) (beats : Bool) : AA :=
  let k := 7 * s + p
  if aS a 86 k ≤ aBase a s then
    if 0 < aS a 88 k then a else A_post (aI a 88 k 1) s (aPiece a s p)
  else
    let r := aStream s p 4 a
    if !r.2 && beats then A_post r.1 s (aEntries r.1 s p (aS r.1 86 k) 0) else r.1
def aSendAll (s : Nat) (beats : Bool) (a : AA) : Nat → AA
  | 0 => a
  | p + 1 =>
    let b := aSendAll s beats a p
    if aPeer b s p then A_send b s p beats else b
def A_sendAll (a : AA) (s : Nat) (beats : Bool) : AA := aSendAll s beats a 7
def aReply (a : AA) (s : Nat) (q : AQ) (word place : Int32) (bs : List Int32) : AA :=
  let l := aLet (Int32.ofNat s) (q 1) 11 (q 2)
  A_post a s (aU (aU (aU l.1 6 word) 7 place) 17 (Int32.ofNat bs.length), [], bs, ([], []))
/-- reads are answered in their order -/
def aReads (s : Nat) (c : Int32) : List AQ → AA → AA
  | [], a => a
  | q :: r, a => if ¬ q 6 = -1 ∧ q 4 ≤ aS a 76 s ∧ q 6 ≤ c then
      aReads s c r (aReply (aRqS a s ((aRq a s).filter (fun x => !decide (x 0 = q 0)))) s q 0 (aS a 76 s) (aQuery (aMc a s) ((aAk a).getD (q 3).toNatClampNeg (fun _ => 0, []))))
    else aReads s c r a
def A_answerReads (a : AA) (s : Nat) : AA := aReads s (aCommon (aS a 65 s) (fun p => aS a 91 (7 * s + p)) 7) (aRq a s) a
def A_beatPeer (a : AA) (s p : Nat) : AA :=
  let k := 7 * s + p
  let a1 := if aPeer a s p ∧ 0 < aS a 88 k ∧ aS a 93 k = 0 then aI (aI (aI a 88 k 0) 89 k 1) 86 k (aS a 87 k + 1) else a
  aI a1 93 k 0
def aBeatPeers (a : AA) (s : Nat) : Nat → AA
  | 0 => a
  | p + 1 => A_beatPeer (aBeatPeers a s p) s p
def A_beat (a : AA) (s : Nat) : AA :=
  let a1 := if 0 ≤ aS a 80 s ∧ 50 < aNow a - aS a 81 s then aI a 80 s (-1) else a
  let a2 := aBeatPeers (aAdd (A_alarm a1 s (aNow a + 10)) 83 s 1) s 7
  let a3 := aI (aI (aI a2 87 (7 * s + s) (aS a 77 s)) 92 (7 * s + s) (aNow a)) 91 (7 * s + s) (aS a2 83 s)
  A_answerReads (A_sendAll a3 s true) s
def aBegin (a : AA) (s : Nat) : Nat → AA
  | 0 => a
  | p + 1 =>
    let b := aBegin a s p
    let k := 7 * s + p
    aI (aI (aI (aI (aI (aI (aI (aI b 86 k (aLast a s + 1)) 87 k 0) 88 k 0) 90 k 0) 91 k 0) 89 k 1) 92 k (aNow a)) 93 k 0
def A_lead (a : AA) (s : Nat) : AA :=
  if 300 ≤ aLast a s - aBase a s then A_stepDown a s (aS a 53 s) (-1)
  else
    let a1 := aI (aI (aI a 73 s 3) 74 s (Int32.ofNat s)) 80 s (-1)
    let a2 := aI (aI (aBegin a1 s 7) 83 s 0) 82 s (aLast a s + 1)
    A_beat (A_append a2 s (aS a 53 s, 0, 0, 0, 0, -1)) s
def A_appendCode (a : AA) (s : Nat) (c : Int32) : AA := A_append a s (aS a 53 s, 1, 4, c, 0, -1)
/-! what is agreed is done -/
/-- an agreed entry is done: the machine, the one who waits -/
def aApply1 (a : AA) (s : Nat) (n : Int32) : AA :=
  let a1 := aI a 76 s n
  let e := aEnt a s n
  let r := if e.2.1 = 2 then aPerf (aAk a) (aMc a s) n e else (aMc a s, 0, 0, [])
  let a2 := aRqS (aMcS a1 s r.1) s ((aRq a s).filter (fun q => !(decide (q 6 = -1) && decide (q 4 = n))))
  match (aRq a s).find? (fun q => decide (q 6 = -1) && decide (q 4 = n)) with
  | none => a2
  | some q => if e.2.1 = 2 ∧ e.1 = q 5 ∧ (r.2.1 = 0 ∨ r.2.1 = 1) then aReply a2 s q (if r.2.1 = 0 then 0 else 2) (if r.2.1 = 0 then r.2.2.1 else 0) (if r.2.1 = 0 then r.2.2.2 else []) else a2
def aApplyN (s : Nat) : Nat → AA → AA
  | 0, a => a
  | n + 1, a => if aS a 76 s < aS a 75 s then aApplyN s n (aApply1 a s (aS a 76 s + 1)) else a
def aOff0 (a : AA) (s : Nat) : Nat → AA
  | 0 => a
  | p + 1 => aI (aOff0 a s p) 90 (7 * s + p) 0
def A_compact (a : AA) (s : Nat) : AA :=
  let n := aS a 76 s
  let c := aMemC (aS a 58 s) ((aLg a s).take (n - aBase a s).toNatClampNeg)
  let a1 := aShS (aI (aMoveBase a s n (aTermAt a s n) c) 67 s (Int32.ofNat (aSize (aMc a s)))) s (aMc a s)
  aOff0 (aSoil (aFindCode (aTrim (aWriteShot a1 s) s) s) s) s 7
def A_apply (a : AA) (s : Nat) : AA :=
  let a1 := A_answerReads (aApplyN s 300 a) s
  if 24 ≤ aS a1 76 s - aBase a1 s then A_compact a1 s else a1
def A_count (a : AA) (s : Nat) : AA :=
  let n := aCommon (aS a 65 s) (fun p => aS a 87 (7 * s + p)) 7
  let a1 := if aS a 75 s < n ∧ aTermAt a s n = aS a 53 s then A_apply (aI a 75 s n) s else a
  if aS a1 75 s < aS a1 64 s then a1
  else if ¬ aNewM (aS a1 65 s) = 0 then
    if 300 ≤ aLast a1 s - aBase a1 s then a1 else A_sendAll (A_appendCode a1 s (aNewM (aS a1 65 s) ||| (aLearn (aS a1 65 s) <<< 14))) s false
  else if aIn (aOldM (aS a1 65 s)) s = false then A_stepDown a1 s (aS a1 53 s) (-1)
  else a1
def A_sync (a : AA) (s : Nat) : AA :=
  let a1 := A_sendAllOut (aWtS (A_syncAll a s) s []) (aWt a s)
  let a2 := aI a1 77 s (aLast a1 s)
  if aS a2 73 s = 2 then
    let a3 := aI a2 79 s (aS a2 79 s ||| (1 <<< Int32.ofNat s))
    if aMaj (aS a3 65 s) (aS a3 79 s) then A_lead a3 s else a3
  else if aS a2 73 s = 3 then A_count (aI a2 87 (7 * s + s) (aS a2 77 s)) s
  else a2
def A_ring (a : AA) (s : Nat) : AA :=
  if aS a 73 s = 3 then
    let a1 := aI a 92 (7 * s + s) (aNow a)
    if aCommon (aS a 65 s) (fun p => aS a1 92 (7 * s + p)) 7 < aNow a - 100 then A_stepDown a1 s (aS a 53 s) (-1) else A_beat a1 s
  else
    let a1 := A_drawAlarm a s
    if aVoter a1 s s then
      let a2 := aI (aI (aI a1 73 s 1) 74 s (-1)) 79 s (1 <<< Int32.ofNat s)
      let a3 := aAskVoters a2 s 1 (aS a 53 s + 1) 7
      if aMaj (aS a3 65 s) (aS a3 79 s) then A_campaign a3 s else a3
    else a1
/-! letters come -/
def A_tell (a : AA) (s : Nat) (f k x7 x6 x12 x10 : Int32) : AA := A_post a s (aU (aU (aU (aU (aLet (Int32.ofNat s) f k (aS a 53 s)).1 7 x7) 6 x6) 12 x12) 10 x10, [], [], ([], []))
def aAppended (a : AA) (s : Nat) (f word place round : Int32) : AA := A_tell a s f 6 place word 0 round
def aStored (a : AA) (s : Nat) (f base size round : Int32) : AA := A_tell a s f 8 base 0 size round
def aVote (a : AA) (s : Nat) (f k t : Int32) (b : Bool) : AA := A_post a s (aU (aLet (Int32.ofNat s) f k t).1 6 (aB b), [], [], ([], []))
def A_preask (a : AA) (s : Nat) (l : AL) : AA :=
  let may := decide (aS a 53 s < l.1 5) && aAsNew a s (l.1 7) (l.1 8) && !decide (aS a 73 s = 3) && (decide (aS a 78 s = -2000000000) || decide (aS a 78 s ≤ aNow a - 50))
  aVote a s (l.1 2) 2 (if may then l.1 5 else aS a 53 s) may
def A_ask (a : AA) (s : Nat) (l : AL) : AA :=
  let may := decide (l.1 5 = aS a 53 s) && (decide (aS a 54 s < 0) || decide (aS a 54 s = l.1 2)) && aAsNew a s (l.1 7) (l.1 8)
  let a1 := if may then
      let a0 := if aS a 54 s = l.1 2 then a else A_writeSlot (aI a 54 s (l.1 2)) s
      A_drawAlarm (aI a0 73 s 0) s
    else a
  aVote a1 s (l.1 2) 4 (aS a1 53 s) may
/-- whether told entries that are agreed upon already are other ones here -/
def aClash (a : AA) (s : Nat) (k : Int32) : List AE → Bool
  | [] => false
  | e :: r => (decide (aBase a s ≤ k) && decide (k ≤ aS a 75 s) && !decide (aTermAt a s k = e.1)) || aClash a s (k + 1) r
/-- the entries that are new from a place on: the place, the entries -/
def aNews (a : AA) (s : Nat) (k : Int32) : List AE → Int32 × List AE
  | [] => (k, [])
  | e :: r => if k ≤ aBase a s ∨ (k ≤ aLast a s ∧ aTermAt a s k = e.1) then aNews a s (k + 1) r else (k, e :: r)
def aAppendAll (s : Nat) : List AE → AA → AA
  | [], a => a
  | e :: r, a => aAppendAll s r (A_append a s e)
/-- the least number above the base from which on all entries up to this one have its term -/
def aRunStart (a : AA) (s : Nat) : Nat → Int32 → Int32
  | 0, h => h
  | n + 1, h => if aBase a s + 1 < h ∧ aTermAt a s (h - 1) = aTermAt a s h then aRunStart a s n (h - 1) else h
def A_take (a : AA) (s : Nat) (l : AL) : AA :=
  let p := l.1 7
  let f := l.1 2
  let turn := l.1 10
  if aLast a s < p then aAppended a s f 0 (aLast a s + 1) turn
  else if aBase a s ≤ p ∧ ¬ aTermAt a s p = l.1 8 then aAppended a s f 0 (aRunStart a s 300 (if p = aBase a s then p + 1 else p)) turn
  else
    let es := l.2.1.take (aBase a s + 250 - p).toNatClampNeg
    if aClash a s (p + 1) es then a
    else
      let r := aNews a s (p + 1) es
      let a1 := if r.2 ≠ [] ∧ r.1 ≤ aLast a s then A_cutLog a s r.1 else a
      let a2 := aAppendAll s r.2 a1
      let m := aMax (p + Int32.ofNat es.length) (aBase a2 s)
      let a3 := aI a2 75 s (aMax (aS a2 75 s) (aMin (l.1 9) m))
      aAppended (A_apply a3 s) s f 1 m turn
def A_assemble (a : AA) (s : Nat) (l : AL) : AA :=
  let b := l.1 7
  let f := l.1 2
  let turn := l.1 10
  let from_ := l.1 13
  if b ≤ aS a 75 s then aStored a s f b (l.1 12) turn
  else
    let a1 := if from_ = 0 then aPmS (aI (aI a 69 s b) 70 s 0) s l.2.2.2 else a
    if ¬ aS a1 69 s = b ∨ ¬ from_ = aS a1 70 s then aStored a1 s f b (if aS a1 69 s = b then aS a1 70 s else 0) turn
    else
      let a2 := aAdd a1 70 s (l.1 17)
      let got := aS a2 70 s
      let a3 := if l.1 12 ≤ got then
          let c0 := aShS (aI (aMoveBase a2 s b (l.1 8) (l.1 11)) 67 s (l.1 12)) s l.2.2.2
          let c1 := aMcS (aI (aI c0 75 s b) 76 s b) s l.2.2.2
          aI (aSoil (aFindCode (aTrim (aWriteShot c1 s) s) s) s) 69 s (-1)
        else a2
      aStored a3 s f b got turn
def A_led (a : AA) (s : Nat) (l : AL) : AA :=
  if l.1 5 < aS a 53 s then
    if l.1 4 = 5 then aAppended a s (l.1 2) 0 0 0 else aStored a s (l.1 2) (l.1 7) 0 0
  else if aS a 73 s = 3 then a
  else
    let a1 := A_drawAlarm (aI (A_stepDown a s (aS a 53 s) (l.1 2)) 78 s (aNow a)) s
    if l.1 4 = 5 then A_take a1 s l else A_assemble a1 s l
def A_heardOf (a : AA) (s : Nat) (l : AL) : AA :=
  let p := (l.1 2).toNatClampNeg
  let k := 7 * s + p
  let a1 := aI (aI (aI a 92 k (aNow a)) 93 k 1) 91 k (aMax (aS a 91 k) (l.1 10))
  let a2 := if l.1 4 = 8 then
      let b := aI a1 88 k 0
      if ¬ l.1 7 = aBase a s then aI b 90 k 0
      else if aS a 67 s ≤ l.1 12 then aI (aI (aI (aI b 87 k (aMax (aS a 87 k) (aBase a s))) 86 k (aBase a s + 1)) 89 k 1) 90 k 0
      else aI b 90 k (l.1 12)
    else if l.1 6 = 1 then
      let m := aMin (l.1 7) (aLast a s)
      let b := aI (aI a1 87 k (aMax (aS a 87 k) m)) 89 k 0
      aI (aI b 88 k (if 0 < aS a 88 k then aS a 88 k - 1 else aS a 88 k)) 86 k (aMax (aS a 86 k) (m + 1))
    else aI (aI (aI a1 88 k 0) 89 k 1) 86 k (aMin (aMax (l.1 7) (aS a 87 k + 1)) (aLast a s + 1))
  let a3 := A_answerReads (A_count a2 s) s
  if ¬ aS a3 73 s = 3 ∨ aPeer a3 s p = false then a3
  else
    let a4 := A_send a3 s p false
    if aS a4 80 s = l.1 2 ∧ aS a4 87 k = aLast a4 s then A_tell a4 s (l.1 2) 9 0 0 0 0 else a4
def A_came (a : AA) (s : Nat) (l : AL) : AA :=
  let k := l.1 4
  let t := l.1 5
  let a1 := if aS a 53 s < t ∧ ¬ k = 1 ∧ ¬ (k = 2 ∧ l.1 6 = 1) then A_stepDown a s t (-1) else a
  if k = 1 then A_preask a1 s l
  else if k = 2 then
    if l.1 6 = 1 ∧ t = aS a1 53 s + 1 ∧ aS a1 73 s = 1 then
      let a2 := aI a1 79 s (aS a1 79 s ||| (1 <<< l.1 2))
      if aMaj (aS a2 65 s) (aS a2 79 s) then A_campaign a2 s else a2
    else a1
  else if k = 3 then A_ask a1 s l
  else if k = 4 then
    if l.1 6 = 1 ∧ t = aS a1 53 s ∧ aS a1 73 s = 2 then
      let a2 := aI a1 79 s (aS a1 79 s ||| (1 <<< l.1 2))
      if aMaj (aS a2 65 s) (aS a2 79 s) then A_lead a2 s else a2
    else a1
  else if k = 5 ∨ k = 7 then A_led a1 s l
  else if k = 6 ∨ k = 8 then
    if t = aS a1 53 s ∧ aS a1 73 s = 3 ∧ aPeer a1 s (l.1 2).toNatClampNeg then A_heardOf a1 s l else a1
  else if t = aS a1 53 s ∧ aS a1 73 s < 2 ∧ aVoter a1 s s then A_campaign a1 s else a1
def aHold (a : AA) (s : Nat) (l : AL) (number round : Int32) : AA :=
  let q : AQ := fun j => if j = 0 then aS a 151 s else if j = 1 then l.1 2 else if j = 2 then l.1 5 else if j = 3 then l.1 16 else if j = 4 then number else if j = 5 then aS a 53 s else round
  aAdd (aRqS a s ((aRq a s).filter (fun x => !decide (x 0 = aS a 151 s - 32)) ++ [q])) 151 s 1
/-- a request comes: its word 0 to open, 1 to do, 2 to read -/
def A_asked (a : AA) (s : Nat) (l : AL) : AA :=
  let q : AQ := fun j => if j = 1 then l.1 2 else if j = 2 then l.1 5 else 0
  if ¬ aS a 73 s = 3 ∨ 0 ≤ aS a 80 s then aReply a s q 1 (if aS a 73 s = 3 then aS a 80 s else aS a 74 s) []
  else if l.1 6 = 2 then aHold a s l (if aTermAt a s (aS a 75 s) = aS a 53 s then aS a 75 s else aS a 82 s) (aRound a s + 1)
  else if 200 ≤ aLast a s - aBase a s then aReply a s q 3 0 []
  else
    let a1 := A_append a s (aS a 53 s, 2, l.1 12, l.1 14, l.1 15, l.1 16)
    aHold (A_sendAll a1 s false) s l (aLast a1 s) (-1)
/-! clients: 124 busy 125 target 126 session 127 serial 128 request 129 tries 130 impatient 131 opening 137 asking 140 askings 141 moments -/
def aAsk (a : AA) (c : Nat) : AK := (aAk a).getD (aS a 137 c).toNatClampNeg (fun _ => 0, [])
def aCmd (a : AA) (c : Nat) : Bool := decide ((aAsk a c).1 1 < 3)
def aTellClient (a : AA) (c : Nat) (what place : Int32) : AA :=
  let i := (aS a 137 c).toNatClampNeg
  let k := (aAk a).getD i (fun _ => 0, [])
  let a1 := aAkS a ((aAk a).set i (aU (aU (aU k.1 3 (aS a 141 0)) 4 what) 5 place, k.2))
  aI (aI (aAdd a1 141 0 1) 124 c 0) 29 (8 + c) (-1)
def A_resign (a : AA) (c : Nat) : AA := if aCmd a c then aTellClient (aI a 126 c (-1)) c 2 (-1) else aTellClient a c 3 (-1)
def A_demand (a : AA) (c : Nat) : AA :=
  let a1 := aAdd a 129 c 1
  if 40 < aS a1 129 c then A_resign a1 c
  else
    let o := !decide (aS a 131 c = 0)
    let k := aAsk a c
    let l := aLet (Int32.ofNat (8 + c)) (aS a 125 c) 10 (aS a 128 c)
    let x := aU (aU (aU (aU (aU l.1 6 (if o then 0 else if aCmd a c then 1 else 2)) 14 (if o then 0 else aS a 126 c)) 15 (if o then 0 else aS a 127 c)) 16 (if o then -1 else aS a 137 c)) 12 (if o then 2 else 12 + Int32.ofNat k.2.length)
    aI (A_alarm (A_sendOut a1 (x, [], [], ([], []))) (8 + c) (aNow a1 + 60)) 130 c 1
def A_pause (a : AA) (c : Nat) (t : Int32) : AA := aI (A_alarm a (8 + c) (aNow a + t)) 130 c 0
def aTurn (a : AA) (c : Nat) : AA := aI a 125 c (if aS a 125 c + 1 < 7 then aS a 125 c + 1 else 0)
def A_hear (a : AA) (c : Nat) (l : AL) : AA :=
  if aS a 124 c = 0 ∨ ¬ l.1 5 = aS a 128 c then a
  else if l.1 6 = 0 then
    if aS a 131 c = 0 then aTellClient (aDnS a c l.2.2.1) c 1 (l.1 7)
    else A_demand (aAdd (aI (aI (aI a 131 c 0) 126 c (l.1 7)) 127 c 1) 128 c 1) c
  else if l.1 6 = 1 then
    if 0 ≤ l.1 7 then A_demand (aI a 125 c (l.1 7)) c else A_pause (aTurn a c) c 5
  else if l.1 6 = 2 then aTellClient (aI a 126 c (-1)) c 2 (-1)
  else A_pause a c 20
def A_ringClient (a : AA) (c : Nat) : AA := A_demand (if aS a 130 c = 0 then a else aTurn a c) c
/-! what happens next -/
/-- the bells: 0 .. 15 alarms, 16 .. 22 syncs: number (-1 for none), time -/
def aBn (a : AA) (b : Nat) : Int32 := if b < 16 then aS a 29 b else aS a 31 (b - 16)
def aBt (a : AA) (b : Nat) : Int32 := if b < 16 then aS a 30 b else aS a 32 (b - 16)
def aBell (a : AA) : Nat → Option Nat
  | 0 => none
  | b + 1 => match aBell a b with
    | none => if 0 ≤ aBn a b then some b else none
    | some f => if 0 ≤ aBn a b ∧ (aBt a b < aBt a f ∨ (aBt a b = aBt a f ∧ aBn a b < aBn a f)) then some b else some f
/-- the next event: its time, the letter that is first or the bell -/
def aNext (a : AA) : Option (Int32 × Option Nat) :=
  match aWay a, aBell a 23 with
  | [], none => none
  | [], some b => some (aBt a b, some b)
  | x :: _, none => some (x.1, none)
  | x :: _, some b => if x.1 < aBt a b ∨ (x.1 = aBt a b ∧ x.2.1 < aBn a b) then some (x.1, none) else some (aBt a b, some b)
def A_happen (a : AA) (e : Int32 × Option Nat) : AA × Int32 :=
  let a1 := aAdd (aI a 1 0 e.1) 3 0 1
  match e.2 with
  | some b =>
    if 16 ≤ b then (A_sync (aI a1 31 (b - 16) (-1)) (b - 16), Int32.ofNat b)
    else if b < 8 then (A_ring (aI a1 29 b (-1)) b, Int32.ofNat b)
    else (A_ringClient (aI a1 29 b (-1)) (b - 8), Int32.ofNat b)
  | none => match aWay a with
    | [] => (a, -1)
    | x :: r =>
      let l := x.2.2
      let t := l.1 3
      let a2 := aWayS a1 r
      let s := t.toNatClampNeg
      if A_parted a2 (l.1 2) t ∨ (t < 7 ∧ aS a2 52 s = 0) then (aAdd a2 22 0 1, t)
      else if t < 7 then (if l.1 4 = 10 then A_asked a2 s l else A_came a2 s l, t)
      else (A_hear a2 (s - 8) l, t)
/-- events until a time; how many -/
def aRun (till : Int32) : Nat → AA → AA × Int32
  | 0, a => (a, 0)
  | n + 1, a => match aNext a with
    | none => (a, 0)
    | some e =>
      if e.1 ≤ till then
        let r := aRun till n (A_happen a e).1
        (r.1, r.2 + 1)
      else (a, 0)
/-! the face: what it answers, 1 + the number of the throw or 0 -/
def aInR (v lo hi : Int32) : Bool := decide (lo ≤ v) && decide (v ≤ hi)
abbrev AR : Type := AA × Nat × Int32
def a4 (v : Int32) : List Int32 := [aLow8 (v >>> 24), aLow8 (v >>> 16), aLow8 (v >>> 8), aLow8 v]
def A_feed (a : AA) (x : Nat → Int32) : AR := if 400 < (aTp a).length + 20 then (a, 1, 0) else (aTpS a (aTp a ++ a4 (x 0) ++ a4 (x 1) ++ a4 (x 2) ++ a4 (x 3) ++ a4 (x 4)), 0, Int32.ofNat ((aTp a).length + 20))
def A_end (a : AA) (n : Int32) : AR := if !aInR n 0 20 then (a, 1, 0) else if (aTp a).length < 20 then (a, 2, 0) else (aTpS a ((aTp a).take ((aTp a).length - (20 - n.toNatClampNeg))), 0, Int32.ofNat ((aTp a).length - (20 - n.toNatClampNeg)))
def aAskable (kind k v n : Int32) : Bool := aInR kind 0 5 && aInR k 1 32 && (decide (kind = 1) || decide (v = 0)) && (if kind = 0 then aInR (n - k) 0 100 else if kind = 1 then aInR v 0 100 && aInR (n - k - v) 0 100 else if kind = 4 then aInR (n - k) 1 32 else decide (n - k = 0))
def A_askFace (a : AA) (c kind k v : Int32) : AR :=
  let n := Int32.ofNat (aTp a).length
  let a0 := aTpS a []
  if !aInR c 0 7 then (a0, 1, 0)
  else if !aAskable kind k v n then (a0, 2, 0)
  else
    let i := c.toNatClampNeg
    if ¬ aS a 124 i = 0 ∨ 1024 ≤ (aAk a).length then (a0, 3, 0)
    else
      let q : AK := (fun j => if j = 0 then c else if j = 1 then kind else if j = 2 then aS a 141 0 else if j = 3 then -1 else if j = 5 then -1 else if j = 7 then k else if j = 8 then v else 0, aTp a)
      let j := Int32.ofNat (aAk a).length
      let a1 := aAdd (aAkS a0 (aAk a ++ [q])) 141 0 1
      let o := decide (kind < 3) && decide (aS a 126 i = -1)
      let a2 := aI (aI (aI (aI a1 137 i j) 124 i 1) 129 i 0) 131 i (aB o)
      let a3 := if kind < 3 ∧ o = false then aAdd a2 127 i 1 else a2
      (A_demand (aAdd a3 128 i 1) i, 0, j)
def A_giveUp (a : AA) (c : Int32) : AR := if !aInR c 0 7 then (a, 1, 0) else if aS a 124 c.toNatClampNeg = 0 then (a, 0, 0) else (A_resign a c.toNatClampNeg, 0, 1)
def A_runFace (a : AA) (n : Int32) : AR := if !aInR n 1 1000 then (a, 1, 0) else
  let r := aRun (aNow a + n) 1000000 a
  (aI r.1 1 0 (aNow a + n), 0, r.2)
def A_step (a : AA) : AR := match aNext a with
  | none => (a, 0, -1)
  | some e => ((A_happen a e).1, 0, (A_happen a e).2)
def aEnd (e : Int32) : Bool := aInR e 0 6 || aInR e 8 15
def A_delay (a : AA) (f t n : Int32) : AR := if !aEnd f || !aEnd t then (a, 1, 0) else if !aInR n 1 1000 then (a, 2, 0) else (aI a 23 (16 * f + t).toNatClampNeg n, 0, aS a 23 (16 * f + t).toNatClampNeg)
def A_part (a : AA) (n : Int32) : AR := if !aInR n 0 65535 then (a, 1, 0) else (aI a 24 0 n, 0, aS a 24 0)
def A_noise (a : AA) (x y z : Int32) (d : Int64) : AR := if !aInR x 0 1000 || !aInR y 0 1000 || !aInR z 0 1000 then (a, 1, 0) else (aJ (aI (aI (aI a 25 0 x) 26 0 y) 27 0 z) 28 0 d, 0, 0)
def A_meddle (a : AA) (k what n : Int32) : AR :=
  if !aInR what 0 2 || !aInR n 0 1000 then (a, 1, 0)
  else if k < 0 then (a, 0, 0)
  else match (aWay a)[k.toNatClampNeg]? with
    | none => (a, 0, 0)
    | some x =>
      if what = 0 then (aAdd (aWayS a ((aWay a).eraseIdx k.toNatClampNeg)) 22 0 1, 0, 1)
      else if what = 1 then (A_fly a x.2.2 (aNow a + aS a 23 (16 * (x.2.2.1 2) + x.2.2.1 3).toNatClampNeg), 0, 1)
      else (aWayS (aAdd a 2 0 1) (aIns (x.1 + n, aS a 2 0, x.2.2) ((aWay a).eraseIdx k.toNatClampNeg)), 0, 1)
def A_latency (a : AA) (s n : Int32) : AR := if !aInR s 0 6 then (a, 1, 0) else if !aInR n 0 1000 then (a, 2, 0) else (aI a 72 s.toNatClampNeg n, 0, aS a 72 s.toNatClampNeg)
def aDown (a : AA) (s : Nat) : AA := aDropReq (aWtS (aI (aI (aI a 52 s 0) 29 s (-1)) 31 s (-1)) s []) s
def aCrashFile (a : AA) (s f : Nat) (r : Int64) : AA :=
  let F := aFc a s f
  let lo := aS a 43 (16 * s + f)
  aSyncFile (if r.toUInt64 >>> 61 = 0 then aPut a s f (aFk a s f)
    else
      let span := (2 * (F.1 1 - lo) + 1).toInt64
      let q := (r.toUInt64 >>> 33).toInt64 &&& 1048575
      aPut a s f (aU F.1 1 (aMin (F.1 1) (lo + (q - q / span * span).toInt32)), F.2)) s f
def aCrashFiles (a : AA) (s : Nat) (r : Int64) : Nat → AA × Int64
  | 0 => (a, r)
  | f + 1 =>
    let b := aCrashFiles a s r f
    let q := aLcg b.2
    (aCrashFile b.1 s f q, q)
def A_crash (a : AA) (s : Int32) (r : Int64) : AR :=
  if !aInR s 0 6 then (a, 1, 0) else
    let i := s.toNatClampNeg
    if aS a 52 i = 0 then (a, 0, 0) else (aI (aI (aCrashFiles (aDown a i) i r 16).1 46 i 0) 71 i 0, 0, 1)
def A_stop (a : AA) (s : Int32) : AR :=
  if !aInR s 0 6 then (a, 1, 0) else
    let i := s.toNatClampNeg
    if aS a 52 i = 0 then (a, 0, 0) else (aDown (A_sendAllOut (A_syncAll a i) (aWt a i)) i, 0, 1)
/-! coming up -/
def aWholeHead (F : AF) (n : Int32) : Bool := decide (F.1 0 = 1) && decide (n ≤ F.1 1)
def aLater (a : AA) (s x y : Nat) (n : Int32) : Int32 :=
  if aWholeHead (aFc a s x) n then (if aWholeHead (aFc a s y) n ∧ ¬ (aFc a s y).1 2 < (aFc a s x).1 2 then Int32.ofNat y else Int32.ofNat x)
  else if aWholeHead (aFc a s y) n then Int32.ofNat y else -1
def aSegs : List Nat := [4, 5, 6, 7, 8, 9, 10, 11, 12, 13, 14, 15]
def aIsSeg (a : AA) (s f : Nat) : Bool := aWholeHead (aFc a s f) 24
/-- the segment that begins last among those that may hold what follows the base -/
def aFirstSeg (a : AA) (s : Nat) (base : Int32) : List Nat → Option Nat
  | [] => none
  | f :: r =>
    let ok := aIsSeg a s f && decide ((aFc a s f).1 2 ≤ base + 1)
    match aFirstSeg a s base r with
    | none => if ok then some f else none
    | some g => if ok && decide ((aFc a s g).1 2 ≤ (aFc a s f).1 2) then some f else some g
def aTells (F : AF) (n t : Int32) : Bool :=
  let k := n - F.1 2
  if k < -1 ∨ Int32.ofNat (aWhole F).length ≤ k then false
  else if k < 0 then decide (t = F.1 3) else decide (t = ((aWhole F).getD k.toNatClampNeg (0, 0, 0, 0, 0, 0)).1)
def aSegAt (a : AA) (s : Nat) (n t : Int32) : Option Nat := aSegs.find? (fun f => aIsSeg a s f && decide ((aFc a s f).1 2 = n) && decide ((aFc a s f).1 3 = t))
def aChain (a : AA) (s : Nat) : Nat → Nat → List Nat
  | 0, _ => []
  | n + 1, f =>
    let w := aWhole (aFc a s f)
    f :: match w.getLast? with
      | none => []
      | some e => match aSegAt a s ((aFc a s f).1 2 + Int32.ofNat w.length) e.1 with
        | none => []
        | some g => aChain a s n g
def aTidy (a : AA) (s : Nat) (c : List Nat) : List Nat → AA
  | [] => a
  | f :: r =>
    let b := aTidy a s c r
    if f ∈ c then aPut b s f (aU (aFc b s f).1 1 (Int32.ofInt (aFrame (aFc b s f).2.1 (aWhole (aFc b s f)).length)), aWhole (aFc b s f), (aFc b s f).2.2) else aRemove b s f
def aLoad (a : AA) (s : Nat) (base : Int32) : List Nat → List AE
  | [] => []
  | f :: r => (aWhole (aFc a s f)).drop (base + 1 - (aFc a s f).1 2).toNatClampNeg ++ aLoad a s base r
def A_recover (a : AA) (s : Nat) : AA :=
  let slot := aLater a s 0 1 32
  let shot := aLater a s 2 3 20
  let S := aFc a s slot.toNatClampNeg
  let H := aFc a s shot.toNatClampNeg
  let a1 := aI (aI (aI (aI a 45 s slot) 47 s shot) 53 s (if slot < 0 then 0 else S.1 3)) 54 s (if slot < 0 then -1 else S.1 4)
  let a2 := aI (aI (aI (aI a1 55 s (if shot < 0 then 0 else H.1 2)) 57 s (if shot < 0 then 0 else H.1 3)) 58 s (if shot < 0 then aS a 145 0 else H.1 4)) 67 s (if shot < 0 then 0 else H.1 1 - 20)
  let a3 := aShS a2 s (if shot < 0 then ([], []) else H.2.2)
  let base := aS a3 55 s
  let c := match aFirstSeg a3 s base aSegs with
    | none => []
    | some f => if aTells (aFc a3 s f) base (aS a3 57 s) then aChain a3 s 12 f else []
  let es := aLoad a3 s base c
  let a4 := aI (aLgS (aChS (aTidy a3 s c aSegs) s c) s es) 56 s (base + Int32.ofNat es.length)
  let t := aLastTerm a4 s
  let a5 := aI a4 46 s 0
  let a6 := if aS a5 53 s < t then aLaySlot (aI (aI a5 53 s t) 54 s (-1)) s else a5
  aFindCode (A_syncAll a6 s) s
def A_start (a : AA) (s : Int32) : AR :=
  if !aInR s 0 6 then (a, 1, 0) else
    let i := s.toNatClampNeg
    if ¬ aS a 52 i = 0 then (a, 0, 0) else
      let a1 := A_recover (aI a 52 i 1) i
      let a2 := aI (aI (aI (aI a1 73 i 0) 74 i (-1)) 75 i (aS a1 55 i)) 76 i (aS a1 55 i)
      let a3 := aI (aI (aI (aI (aI (aMcS a2 i (aSh a2 i)) 77 i (aS a2 56 i)) 78 i (-2000000000)) 79 i 0) 80 i (-1)) 69 i (-1)
      (A_drawAlarm a3 i, 0, 1)
/-! what its owner asks for -/
def aMay (a : AA) (s : Nat) : Bool := decide (aS a 52 s = 1) && decide (aS a 73 s = 3) && decide (aS a 80 s < 0)
def aMayChange (a : AA) (s : Nat) : Bool := aMay a s && decide (aLast a s - aBase a s < 200) && decide (aS a 64 s ≤ aS a 75 s) && decide (aNewM (aS a 65 s) = 0)
def aKnown (a : AA) (s : Nat) (set : Int32) : Bool := (List.range 7).all (fun p => !aIn set p || aIn (aOldM (aS a 65 s)) p || (aIn (aLearn (aS a 65 s)) p && decide (aS a 75 s ≤ aS a 87 (7 * s + p))))
def A_members (a : AA) (s set : Int32) : AR :=
  if !aInR s 0 6 then (a, 1, 0) else
    let i := s.toNatClampNeg
    if aMayChange a i && aInR set 1 127 && aKnown a i set then
      (A_sendAll (A_appendCode a i (aOldM (aS a 65 i) ||| (set <<< 7) ||| ((aLearn (aS a 65 i) &&& (~~~ set)) <<< 14))) i false, 0, 1)
    else (a, 0, 0)
def A_learners (a : AA) (s set : Int32) : AR :=
  if !aInR s 0 6 then (a, 1, 0) else
    let i := s.toNatClampNeg
    if aMayChange a i && aInR set 0 127 && decide (set &&& aOldM (aS a 65 i) = 0) then
      (A_sendAll (A_appendCode a i (aOldM (aS a 65 i) ||| (set <<< 14))) i false, 0, 1)
    else (a, 0, 0)
def A_hand (a : AA) (s to : Int32) : AR :=
  if !aInR s 0 6 then (a, 1, 0) else
    let i := s.toNatClampNeg
    if aMay a i && aInR to 0 6 && !decide (to = s) && aVoter a i to.toNatClampNeg then
      let a1 := aI (aI a 80 i to) 81 i (aNow a)
      (if aS a1 87 (7 * i + to.toNatClampNeg) = aLast a1 i then A_tell a1 i to 9 0 0 0 0 else A_send a1 i to.toNatClampNeg false, 0, 1)
    else (a, 0, 0)
def aTellServer (a : AA) (s : Nat) (what : Int32) : Int32 :=
  if what = 0 then aS a 52 s else if aS a 52 s = 0 then -1
  else if what = 1 then aS a 73 s else if what = 2 then aS a 53 s else if what = 3 then aS a 54 s else if what = 4 then aS a 74 s
  else if what = 5 then aS a 75 s else if what = 6 then aS a 76 s else if what = 7 then aS a 77 s else if what = 8 then aS a 55 s
  else if what = 9 then aS a 56 s else if what = 10 then aS a 65 s else if what = 11 then aS a 79 s else if what = 12 then aS a 80 s
  else if what = 13 then aS a 71 s else if what = 14 then (if aS a 73 s = 3 then aS a 83 s else 0) else if what = 15 then Int32.ofNat (aWt a s).length
  else if what = 16 then Int32.ofNat (aRq a s).length else if what = 17 then Int32.ofNat (aMc a s).1.length else if what = 18 then Int32.ofNat (aMc a s).2.length
  else if what = 19 then Int32.ofNat (aUnits (aMc a s)) else aS a 67 s
def A_server (a : AA) (s what : Int32) : AR := if !aInR s 0 6 || !aInR what 0 20 then (a, 1, 0) else (a, 0, aTellServer a s.toNatClampNeg what)
def A_entry (a : AA) (s i what : Int32) : AR :=
  if !aInR s 0 6 then (a, 1, 0) else
    let j := s.toNatClampNeg
    if aS a 52 j = 0 ∨ aInR what 0 2 = false then (a, 1, 0)
    else if i = aBase a j ∧ what = 0 then (a, 0, aS a 57 j)
    else if aHas a j i then (a, 0, if what = 0 then (aEnt a j i).1 else if what = 1 then (aEnt a j i).2.1 else (aEnt a j i).2.2.1)
    else (a, 1, 0)
def A_file (a : AA) (s f what : Int32) : AR :=
  if !aInR s 0 6 || !aInR f 0 15 || !aInR what 0 4 then (a, 1, 0) else
    let i := s.toNatClampNeg
    let j := f.toNatClampNeg
    (a, 0, if what = 0 then (aFc a i j).1 1 else if what = 1 then (aFk a i j).1 1 else if what = 2 then aS a 43 (16 * i + j) else if what = 3 then (aFc a i j).1 0 else (aFk a i j).1 0)
def aKey (a : AA) (s k : Int32) : Option (List Int32 × List Int32) :=
  if !aInR s 0 6 then none else if aS a 52 s.toNatClampNeg = 0 ∨ k < 0 then none else (aMc a s.toNatClampNeg).2[k.toNatClampNeg]?
def A_key (a : AA) (s k : Int32) : AR := match aKey a s k with
  | none => (a, 1, 0)
  | some e => (aReS a e.1, 0, Int32.ofNat e.1.length)
def A_value (a : AA) (s k : Int32) : AR := match aKey a s k with
  | none => (a, 1, 0)
  | some e => (aReS a e.2, 0, Int32.ofNat e.2.length)
def A_message (a : AA) (k what : Int32) : AR :=
  if k < 0 ∨ aInR what 0 4 = false then (a, 1, 0) else match (aWay a)[k.toNatClampNeg]? with
    | none => (a, 1, 0)
    | some x => (a, 0, if what = 0 then x.2.2.1 2 else if what = 1 then x.2.2.1 3 else if what = 2 then x.2.2.1 4 else if what = 3 then x.2.2.1 5 else x.1)
def A_client (a : AA) (c what : Int32) : AR :=
  if !aInR c 0 7 || !aInR what 0 5 then (a, 1, 0) else
    let i := c.toNatClampNeg
    (a, 0, if what = 0 then aS a 124 i else if what = 1 then aS a 125 i else if what = 2 then aS a 126 i else if what = 3 then aS a 127 i else if what = 4 then aS a 128 i else aS a 129 i)
def A_answer (a : AA) (c : Int32) : AR := if !aInR c 0 7 then (a, 1, 0) else (aReS a (aDn a c.toNatClampNeg), 0, Int32.ofNat (aDn a c.toNatClampNeg).length)
def A_history (a : AA) (i what : Int32) : AR :=
  if i < 0 ∨ aInR what 0 5 = false then (a, 1, 0) else match (aAk a)[i.toNatClampNeg]? with
    | none => (a, 1, 0)
    | some k => (a, 0, k.1 what.toNatClampNeg)
def A_byteAt (a : AA) (i : Int32) : AR := if i < 0 then (a, 1, 0) else match (aRe a)[i.toNatClampNeg]? with
  | none => (a, 1, 0)
  | some b => (a, 0, b &&& 255)
def A_cnt (a : AA) (w : Int32) : Int32 := if w = 0 then Int32.ofNat (aWay a).length else if w = 1 then aS a 21 0 else if w = 2 then aS a 22 0 else if w = 3 then aS a 3 0 else if w = 4 then Int32.ofNat (aAk a).length else if w = 5 then aS a 141 0 else if w = 6 then Int32.ofNat (aTp a).length else -1
/-! the beginning -/
def aMany7 (n : Int32) : Int32 := if n < 1 then 1 else if 7 < n then 7 else n
def aCode0 (n : Int32) : Int32 := (1 <<< aMany7 n) - 1
def aDraws (a : AA) : Nat → AA
  | 0 => a
  | s + 1 => A_drawAlarm (aDraws a s) s
def A_new (n : Int32) (row : Int64) : AA :=
  aDraws ((fun f i => if f = 23 then 3 else if f = 29 ∨ f = 31 ∨ f = 45 ∨ f = 47 ∨ f = 54 ∨ f = 69 ∨ f = 74 ∨ f = 80 ∨ f = 126 then -1 else if f = 52 then 1 else if f = 58 ∨ f = 65 ∨ (f = 145 ∧ i = 0) then aCode0 n else if f = 72 then 2 else if f = 78 then -2000000000 else 0,
    fun f i => if f = 84 then row + (Int32.ofNat i).toInt64 else 0), [], fun _ => [], fun _ => [], fun _ => ([], []), fun _ => ([], []), fun _ => ([], []), fun _ _ => (fun _ => 0, [], ([], [])), fun _ _ => (fun _ => 0, [], ([], [])), fun _ => [], fun _ => [], [], [], [], fun _ => []) 7
