/-! the reference's memory and the agreed store: what both have in common -/
/-- four bytes, two -/
def eCon (K : List AK) (e : AE) : List (Option Int32) :=
  if e.2.1 = 1 then (a4 e.2.2.2.1).map some
  else if e.2.1 = 2 then
    if e.2.2.2.2.2 = -1 then [none, none]
    else
      let k := K.getD e.2.2.2.2.2.toNatClampNeg (fun _ => 0, [])
      (a4 e.2.2.2.1 ++ a4 e.2.2.2.2.1).map some ++ [some (aLow8 (k.1 1)), some (aLow8 (k.1 7)), some (aLow8 (k.1 8)), none] ++ k.2.map some
  else []
/-- an asking as it may be asked -/
def wfK (k : AK) : Prop := aAskable (k.1 1) (k.1 7) (k.1 8) (Int32.ofNat k.2.length) = true ∧ k.2.length ≤ 400 ∧ ∀ b ∈ k.2, aLow8 b = b
/-- an entry whose asking is there -/
def wfE (K : List AK) (e : AE) : Prop := e.2.2.1 = Int32.ofNat (eCon K e).length ∧ (e.2.1 = 0 ∨ e.2.1 = 1 ∨ e.2.1 = 2) ∧ (e.2.1 = 2 → e.2.2.2.2.2 = -1 ∨ (0 ≤ e.2.2.2.2.2 ∧ e.2.2.2.2.2.toNatClampNeg < K.length ∧ (K.getD e.2.2.2.2.2.toNatClampNeg (fun _ => 0, [])).1 1 < 3))
def eFrame (K : List AK) (e : AE) : List (Option Int32) :=
  (a4 (17 + e.2.2.1) ++ a4 0 ++ a4 e.1 ++ a4 e.2.1 ++ a4 e.2.2.1 ++ a4 0).map some ++ [none] ++ eCon K e
def aEnc (M : AM) : List Int32 :=
  a4 (Int32.ofNat M.1.length) ++ M.1.flatMap (fun x => a4 x.1 ++ a4 x.2.1 ++ a4 x.2.2.1 ++ a4 x.2.2.2.1 ++ [aLow8 (Int32.ofNat x.2.2.2.2.length >>> 8), aLow8 (Int32.ofNat x.2.2.2.2.length)] ++ x.2.2.2.2)
  ++ a4 (Int32.ofNat M.2.length) ++ M.2.flatMap (fun e => [aLow8 (Int32.ofNat e.1.length), aLow8 (Int32.ofNat e.2.length >>> 8), aLow8 (Int32.ofNat e.2.length)] ++ e.1 ++ e.2)
/-- the bytes of a list lie in a row of bytes, where there are any -/
def bM (B : Nat → Int32) (l : List (Option Int32)) (n : Nat) : Prop := ∀ i v, i < n → l[i]? = some (some v) → B i = v
/-! letters -/
def wfL (l : AL) : Prop := (aInR (l.1 2) 0 6 = true ∨ aInR (l.1 2) 8 15 = true) ∧ (aInR (l.1 3) 0 6 = true ∨ aInR (l.1 3) 8 15 = true)
def lTd (K : List AK) (l : AL) (j : Nat) : Option Int32 :=
  let k := K.getD (l.1 16).toNatClampNeg (fun _ => 0, [])
  if l.1 4 = 1 ∨ l.1 4 = 3 then [l.1 7, l.1 8][j]?
  else if l.1 4 = 2 ∨ l.1 4 = 4 then [l.1 6][j]?
  else if l.1 4 = 5 then [l.1 7, l.1 8, l.1 9, l.1 10][j]?
  else if l.1 4 = 6 then [l.1 6, l.1 7, l.1 10][j]?
  else if l.1 4 = 7 then [l.1 7, l.1 8, l.1 11, l.1 12, l.1 13, l.1 17, l.1 10][j]?
  else if l.1 4 = 8 then [l.1 7, l.1 12, l.1 10][j]?
  else if l.1 4 = 10 then (if l.1 6 = 0 then (if j = 0 then some 6 else if j = 5 then some 0 else none) else [k.1 1, l.1 14, l.1 15, k.1 7, k.1 8, Int32.ofNat k.2.length][j]?)
  else if l.1 4 = 11 then (if l.1 6 = 0 then [l.1 6, l.1 7, Int32.ofNat l.2.2.1.length][j]? else [l.1 6, l.1 7][j]?)
  else none
/-- the bytes of a letter without entries -/
def lBs (K : List AK) (l : AL) : List Int32 :=
  if l.1 4 = 7 then ((aEnc l.2.2.2).drop (l.1 13).toNatClampNeg).take (l.1 17).toNatClampNeg
  else if l.1 4 = 10 then (if l.1 6 = 0 then [] else (K.getD (l.1 16).toNatClampNeg (fun _ => 0, [])).2)
  else if l.1 4 = 11 then l.2.2.1 else []
def rLb (σ : RS) (k : Nat) : Nat → Int32 := fun i => rB (σ.2 16) (1536 * k + i)
/-- a letter lies in a place -/
def RLt (K : List AK) (σ : RS) (k : Nat) (l : AL) : Prop :=
  σ.1 6 k = l.1 2 ∧ σ.1 7 k = l.1 3 ∧ σ.1 8 k = l.1 4 ∧ σ.1 9 k = l.1 5 ∧ σ.1 10 k = Int32.ofNat l.2.1.length ∧ l.2.1.length ≤ 6 ∧ wfL l ∧
  (∃ U, U ≤ 1536 ∧ σ.1 11 k = Int32.ofNat U ∧ (lBs K l).length ≤ U ∧ ∀ i, i < l.2.1.length → 256 * i + (eCon K (l.2.1.getD i (0, 0, 0, 0, 0, 0))).length ≤ U) ∧
  (∀ j v, lTd K l j = some v → σ.1 12 (8 * k + j) = v) ∧
  (∀ i v, (lBs K l)[i]? = some v → rLb σ k i = v) ∧
  (∀ i, i < l.2.1.length →
    let e := l.2.1.getD i (0, 0, 0, 0, 0, 0)
    wfE K e ∧ (eCon K e).length ≤ 256 ∧ σ.1 13 (6 * k + i) = e.1 ∧ σ.1 14 (6 * k + i) = e.2.1 ∧ σ.1 15 (6 * k + i) = e.2.2.1 ∧ bM (fun q => rLb σ k (256 * i + q)) (eCon K e) 256)
def aL0 : AL := (fun _ => 0, [], [], ([], []))
def aE0 : AE := (0, 0, 0, 0, 0, 0)
def RWay (K : List AK) (σ : RS) (w : List AP) : Prop := σ.1 20 0 = Int32.ofNat w.length ∧ w.length ≤ 128 ∧ ∃ ws : List (Nat × AP), ws.map Prod.snd = w ∧ (ws.map Prod.fst).Nodup ∧
  (∀ p ∈ ws, p.1 < 128 ∧ σ.1 18 p.1 = p.2.1 ∧ σ.1 19 p.1 = p.2.2.1 ∧ RLt K σ p.1 p.2.2.2) ∧ ∀ k, k < 128 → σ.1 17 k = if k ∈ ws.map Prod.fst then 1 else 0
def RWt (K : List AK) (σ : RS) (s : Nat) (w : List AL) : Prop := σ.1 85 s = Int32.ofNat w.length ∧ w.length ≤ 32 ∧ ∀ i, i < w.length → RLt K σ (128 + 32 * s + i) (w.getD i aL0)
/-! logs and disks -/
def rLp (s : Nat) (n : Int32) : Nat := 512 * s + rMod n
def RLog (K : List AK) (σ : RS) (s : Nat) (b : Int32) (g : List AE) : Prop := ∀ i, i < g.length →
  let e := g.getD i aE0
  let p := rLp s (b + 1 + Int32.ofNat i)
  σ.1 59 p = e.1 ∧ σ.1 60 p = e.2.1 ∧ σ.1 61 p = e.2.2.1 ∧ wfE K e ∧ (eCon K e).length ≤ 256 ∧ bM (fun q => rB (σ.2 63) (256 * p + q)) (eCon K e) 256
def fBy (K : List AK) (f : Nat) (F : AF) : List (Option Int32) :=
  if f < 2 then [] else if f < 4 then List.replicate 20 none ++ (aEnc F.2.2).map some
  else (a4 16 ++ a4 0 ++ a4 (F.1 2) ++ a4 (F.1 3) ++ a4 0 ++ a4 0).map some ++ F.2.1.flatMap (eFrame K)
/-- a file lies in a place of the disk -/
def RFl (K : List AK) (σ : RS) (k f : Nat) (F : AF) : Prop :=
  σ.1 38 k = F.1 0 ∧ (F.1 0 = 0 ∨ F.1 0 = 1) ∧ σ.1 37 k = F.1 1 ∧ (∃ S, S ≤ 14000 ∧ F.1 1 = Int32.ofNat S ∧ (F.1 0 = 0 → S = 0) ∧ (4 ≤ f → S ≤ (fBy K f F).length) ∧ bM (fun i => rB (σ.2 36) (14000 * k + i)) (fBy K f F) S) ∧
  (∀ e ∈ F.2.1, wfE K e ∧ (eCon K e).length ≤ 256) ∧
  (f < 2 → F.1 0 = 1 → σ.1 39 k = F.1 3 ∧ σ.1 40 k = F.1 4) ∧
  (2 ≤ f → f < 4 → F.1 0 = 1 → σ.1 39 k = F.1 2 ∧ σ.1 40 k = F.1 3 ∧ σ.1 41 k = F.1 4 ∧ σ.1 42 k = Int32.ofNat (aEnc F.2.2).length ∧ F.1 1 = Int32.ofNat (20 + (aEnc F.2.2).length))
def rFx (s f : Nat) : Nat := 16 * s + f
def RDk (K : List AK) (σ : RS) (s : Nat) (fc fk : Nat → AF) : Prop := ∀ f, f < 16 → RFl K σ (2 * rFx s f) f (fc f) ∧ RFl K σ (2 * rFx s f + 1) f (fk f) ∧ (σ.1 44 (rFx s f) = 0 ∨ σ.1 44 (rFx s f) = 1) ∧
  (σ.1 44 (rFx s f) = 0 → (∀ g, g ∈ [37, 38, 39, 40, 41, 42] → σ.1 g (2 * rFx s f + 1) = σ.1 g (2 * rFx s f)) ∧ ∀ i, i < (σ.1 37 (2 * rFx s f)).toNatClampNeg → rB (σ.2 36) (14000 * (2 * rFx s f + 1) + i) = rB (σ.2 36) (14000 * (2 * rFx s f) + i))
/-- the four slots of TERM and VOTED, now and kept, are as old as their numbers -/
def RSl (σ : RS) (s : Nat) (wr : Int32) (fc fk : Nat → AF) : Prop :=
  ∀ x y : Nat × Bool, x.1 < 2 → y.1 < 2 →
    let Fx := if x.2 then fc x.1 else fk x.1
    let Fy := if y.2 then fc y.1 else fk y.1
    let kx := 2 * rFx s x.1 + if x.2 then 0 else 1
    let ky := 2 * rFx s y.1 + if y.2 then 0 else 1
    Fx.1 0 = 1 → Fx.1 2 ≤ wr ∧ σ.1 41 kx ≤ σ.1 48 0 ∧ (Fy.1 0 = 1 → (σ.1 41 kx < σ.1 41 ky ↔ Fx.1 2 < Fy.1 2))
def RCh (σ : RS) (s : Nat) (fc : Nat → AF) (ch : List Nat) : Prop := σ.1 49 s = Int32.ofNat ch.length ∧ ch.length ≤ 12 ∧ ∀ i, i < ch.length → 4 ≤ ch.getD i 0 ∧ ch.getD i 0 < 16 ∧ σ.1 50 (12 * s + i) = Int32.ofNat (ch.getD i 0) ∧ σ.1 51 (12 * s + i) = (fc (ch.getD i 0)).1 2
/-- where the frames of the log's entries begin -/
def RAt (σ : RS) (s : Nat) (b : Int32) (g : List AE) (fc : Nat → AF) (ch : List Nat) : Prop := ∀ f ∈ ch, ∀ k i, i < g.length → k < (aWhole (fc f)).length → b + 1 + Int32.ofNat i = (fc f).1 2 + Int32.ofNat k → σ.1 62 (rLp s (b + 1 + Int32.ofNat i)) = Int32.ofInt (aFrame (fc f).2.1 k)
/-! machines, snapshots -/
def wfM (M : AM) : Prop := (M.1.length ≤ 16 ∧ aUnits M ≤ 700) ∧ M.2.length ≤ 128 ∧ (∀ x ∈ M.1, x.2.2.2.2.length ≤ 112 ∧ ∀ b ∈ x.2.2.2.2, aLow8 b = b) ∧ ∀ e ∈ M.2, e.1.length ≤ 32 ∧ e.2.length ≤ 100 ∧ (∀ b ∈ e.1, aLow8 b = b) ∧ ∀ b ∈ e.2, aLow8 b = b
def RMc (σ : RS) (s : Nat) (M : AM) : Prop := wfM M ∧ σ.1 106 s = Int32.ofNat M.1.length ∧ σ.1 113 s = Int32.ofNat M.2.length ∧
  (∀ i, i < M.1.length →
    let x := M.1.getD i (0, 0, 0, 0, [])
    let k := 16 * s + i
    σ.1 107 k = x.1 ∧ σ.1 108 k = x.2.1 ∧ σ.1 109 k = x.2.2.1 ∧ σ.1 110 k = x.2.2.2.1 ∧ σ.1 111 k = Int32.ofNat x.2.2.2.2.length ∧ ∀ j, j < x.2.2.2.2.length → σ.1 112 (112 * k + j) = x.2.2.2.2.getD j 0) ∧
  ∃ sl : List Nat, sl.length = M.2.length ∧ sl.Nodup ∧ (∀ k ∈ sl, k < 128) ∧ (∀ k, k < 128 → σ.1 119 (128 * s + k) = if k ∈ sl then 1 else 0) ∧
    ∀ i, i < M.2.length →
      let e := M.2.getD i ([], [])
      let q := 128 * s + sl.getD i 0
      σ.1 118 (128 * s + i) = Int32.ofNat (sl.getD i 0) ∧ σ.1 114 q = Int32.ofNat e.1.length ∧ σ.1 115 q = Int32.ofNat e.2.length ∧ (∀ j, j < e.1.length → σ.1 116 (32 * q + j) = e.1.getD j 0) ∧ ∀ j, j < e.2.length → σ.1 117 (100 * q + j) = e.2.getD j 0
def RSh (σ : RS) (s : Nat) (z : Int32) (M : AM) : Prop := wfM M ∧ ((z = 0 ∧ M = ([], [])) ∨ (z = Int32.ofNat (aEnc M).length ∧ (aEnc M).length ≤ 13980 ∧ ∀ i, i < (aEnc M).length → σ.1 66 (14000 * s + i) = (aEnc M).getD i 0))
def RPc (σ : RS) (s : Nat) (pb pg : Int32) (M : AM) : Prop := pb = -1 ∨ ∃ G, pg = Int32.ofNat G ∧ G ≤ (aEnc M).length ∧ G ≤ 13980 ∧ ∀ i, i < G → σ.1 68 (14000 * s + i) = (aEnc M).getD i 0
/-! requests, askings, the face -/
/-- a request that waits in its place -/
def RRq1 (K : List AK) (σ : RS) (w : Nat) (q : AQ) : Prop := σ.1 95 w = 1 ∧ σ.1 96 w = aB (!decide (q 6 = -1)) ∧ σ.1 97 w = q 4 ∧ σ.1 98 w = q 5 ∧ (¬ q 6 = -1 → σ.1 99 w = q 6) ∧ σ.1 100 w = q 1 ∧ σ.1 101 w = q 2 ∧ (aInR (q 1) 8 15 = true) ∧
  (¬ q 6 = -1 → (q 3).toNatClampNeg < K.length ∧
    let k := K.getD (q 3).toNatClampNeg (fun _ => 0, [])
    3 ≤ k.1 1 ∧ k.1 1 ≤ 5 ∧ σ.1 102 w = k.1 1 ∧ σ.1 103 w = k.1 7 ∧ σ.1 104 w = Int32.ofNat k.2.length ∧ k.2.length ≤ 64 ∧ ∀ i, i < k.2.length → σ.1 105 (64 * w + i) = k.2.getD i 0)
/-- a request's number as the reference counts it -/
def rqj (d : Nat) (q : AQ) : Nat := (q 0).toNatClampNeg - d
def RRq (K : List AK) (σ : RS) (s d : Nat) (n : Int32) (rq : List AQ) : Prop := ∃ b : Nat, n = Int32.ofNat (d + b) ∧ d + b < 2147483648 ∧ σ.1 94 s = Int32.ofNat b ∧ (rq.map (rqj d)).Pairwise (· < ·) ∧ (∀ q ∈ rq, q 0 = Int32.ofNat (d + rqj d q) ∧ rqj d q < b ∧ b ≤ rqj d q + 32 ∧ RRq1 K σ (32 * s + rqj d q % 32) q) ∧
  ∀ w, w < 32 → σ.1 95 (32 * s + w) = if w ∈ rq.map (fun q => rqj d q % 32) then 1 else 0
def RAk (σ : RS) (K : List AK) : Prop := σ.1 140 0 = Int32.ofNat K.length ∧ K.length ≤ 1024 ∧ (∀ k ∈ K, wfK k) ∧ ∀ j, j < K.length → ∀ i, i < 6 → σ.1 142 (6 * j + i) = (K.getD j (fun _ => 0, [])).1 i
def RWn (σ : RS) (K : List AK) (b j : Int32) (c : Nat) : Prop := b = 0 ∨ (0 ≤ j ∧ j.toNatClampNeg < K.length ∧
  let k := K.getD j.toNatClampNeg (fun _ => 0, [])
  σ.1 132 c = k.1 1 ∧ σ.1 133 c = k.1 7 ∧ σ.1 134 c = k.1 8 ∧ σ.1 135 c = Int32.ofNat k.2.length ∧ ∀ i, i < k.2.length → σ.1 136 (400 * c + i) = k.2.getD i 0)
def RTp (σ : RS) (t : List Int32) : Prop := σ.1 5 0 = Int32.ofNat t.length ∧ t.length ≤ 400 ∧ (∀ b ∈ t, aLow8 b = b) ∧ ∀ i, i < t.length → σ.1 4 i = t.getD i 0
def RRe (σ : RS) (t : List Int32) : Prop := σ.1 144 0 = Int32.ofNat t.length ∧ t.length ≤ 160 ∧ ∀ i, i < t.length → σ.1 143 i = t.getD i 0
def RDn (σ : RS) (c : Nat) (t : List Int32) : Prop := σ.1 139 c = Int32.ofNat t.length ∧ t.length ≤ 160 ∧ (∀ i, i < t.length → σ.1 138 (160 * c + i) = t.getD i 0) ∧ ∀ b ∈ t, aLow8 b = b
/-! all together -/
def scF : List Nat := [0, 1, 2, 3, 21, 22, 23, 24, 25, 26, 27, 29, 30, 31, 32, 43, 45, 46, 47, 52, 53, 54, 55, 56, 57, 58, 64, 65, 67, 69, 70, 71, 72, 73, 74, 75, 76, 77, 78, 79, 80, 81, 82, 83, 86, 87, 88, 89, 90, 91, 92, 93, 124, 125, 126, 127, 128, 129, 130, 131, 137, 141, 145]
def RSc (σ : RS) (a : AA) : Prop := (∀ f ∈ scF, ∀ i, i < max 1 (rlen f) → σ.1 f i = a.1.1 f i) ∧ σ.2 28 0 = a.1.2 28 0 ∧ ∀ s, s < 7 → σ.2 84 s = a.1.2 84 s
/-- what holds by itself -/
def aLoc (a : AA) : Prop := 0 ≤ aS a 27 0 ∧ aS a 27 0 ≤ 1000 ∧ (∀ s, s < 7 → ∀ f, f < 16 → 0 ≤ aS a 43 (16 * s + f) ∧ aS a 43 (16 * s + f) ≤ (aFc a s f).1 1) ∧ (∀ s, s < 7 → 0 ≤ aS a 150 s) ∧ ∀ s, s < 7 → (aS a 45 s = -1 ∨ aS a 45 s = 0 ∨ aS a 45 s = 1) ∧ (aS a 46 s = 0 ∨ aS a 45 s = 0 ∨ aS a 45 s = 1)
/-- a log is as long as its numbers say -/
def WLg (a : AA) (s : Nat) : Prop := 0 ≤ (aBase a s).toInt ∧ (aLast a s).toInt = (aBase a s).toInt + (aLg a s).length ∧ (aLg a s).length ≤ 300 ∧ (aLast a s).toInt < 1073741824
/-- files that follow each other from a number to another -/
def chOK (fc : Nat → AF) (e : Int) : Int → List Nat → Prop
  | n, [] => n = e
  | n, f :: r => 4 ≤ f ∧ f < 16 ∧ (fc f).1 0 = 1 ∧ ((fc f).1 2).toInt = n ∧ ((fc f).1 1).toInt = aFrame (fc f).2.1 (aWhole (fc f)).length ∧ chOK fc e (n + (aWhole (fc f)).length) r
/-- the segments hold the log -/
def WCh (a : AA) (s : Nat) : Prop := (aCh a s).Nodup ∧ (∀ f, 4 ≤ f → f < 16 → (aFc a s f).1 0 = 1 → f ∈ aCh a s) ∧ ((aCh a s = [] ∧ aLast a s = aBase a s) ∨ ∃ n : Int, 1 ≤ n ∧ n ≤ (aBase a s).toInt + 1 ∧ chOK (aFc a s) ((aLast a s).toInt + 1) n (aCh a s))
/-- what is done lies between the base and the last -/
def WMk (a : AA) (s : Nat) : Prop := aBase a s ≤ aS a 76 s ∧ aS a 76 s ≤ aS a 75 s ∧ aS a 75 s ≤ aLast a s ∧ aS a 77 s ≤ aLast a s
/-- what a leader knows of its peers -/
def WLd (a : AA) (s : Nat) : Prop := ∀ p, p < 7 → 1 ≤ aS a 86 (7 * s + p) ∧ aS a 86 (7 * s + p) ≤ aLast a s + 1 ∧ aS a 87 (7 * s + p) ≤ aLast a s ∧ 0 ≤ aS a 90 (7 * s + p) ∧ aS a 90 (7 * s + p) ≤ aS a 67 s ∧ 0 ≤ aS a 88 (7 * s + p)
/-- how many slots were written -/
def wN (a : AA) : Nat := (aS a 150 0).toNatClampNeg + (aS a 150 1).toNatClampNeg + (aS a 150 2).toNatClampNeg + (aS a 150 3).toNatClampNeg + (aS a 150 4).toNatClampNeg + (aS a 150 5).toNatClampNeg + (aS a 150 6).toNatClampNeg
def aSum (a : AA) : Int32 := aS a 150 0 + aS a 150 1 + aS a 150 2 + aS a 150 3 + aS a 150 4 + aS a 150 5 + aS a 150 6
/-- the letter that came, how many requests were counted ahead of a server's beginning; for s the chain is whole, 7 + s what it knows as a leader, 14 + s its marks are in order -/
abbrev AU : Type := (Option AL × (Nat → Nat)) × (Nat → Prop)
def RM (σ : RS) (a : AA) (u : AU) : Prop :=
  RSc σ a ∧ RWay (aAk a) σ (aWay a) ∧ (∀ s, s < 7 → RWt (aAk a) σ s (aWt a s)) ∧ (∀ l, u.1.1 = some l → RLt (aAk a) σ 353 l) ∧
  (∀ s, s < 7 → RLog (aAk a) σ s (aS a 55 s) (aLg a s)) ∧ (∀ s, s < 7 → RDk (aAk a) σ s (aFc a s) (aFk a s)) ∧ (∀ s, s < 7 → RSl σ s (aS a 150 s) (aFc a s) (aFk a s)) ∧
  (∀ s, s < 7 → aS a 52 s = 1 → RCh σ s (aFc a s) (aCh a s)) ∧ (∀ s, s < 7 → aS a 52 s = 1 → RAt σ s (aS a 55 s) (aLg a s) (aFc a s) (aCh a s)) ∧
  (∀ s, s < 7 → RMc σ s (aMc a s)) ∧ (∀ s, s < 7 → RSh σ s (aS a 67 s) (aSh a s)) ∧ (∀ s, s < 7 → RPc σ s (aS a 69 s) (aS a 70 s) (aPm a s)) ∧
  (∀ s, s < 7 → RRq (aAk a) σ s (u.1.2 s) (aS a 151 s) (aRq a s)) ∧ RAk σ (aAk a) ∧ (∀ c, c < 8 → RWn σ (aAk a) (aS a 124 c) (aS a 137 c) c) ∧
  RTp σ (aTp a) ∧ RRe σ (aRe a) ∧ (∀ c, c < 8 → RDn σ c (aDn a c)) ∧ σ.1 48 0 = aSum a ∧ aLoc a ∧ (∀ s, s < 7 → WLg a s) ∧ (∀ s, s < 7 → u.2 s → aS a 52 s = 1 → WCh a s) ∧ (∀ s, s < 7 → u.2 (14 + s) → WMk a s) ∧ (∀ s, s < 7 → u.2 (7 + s) → aS a 73 s = 3 → WLd a s)
/-! frames -/
def Fr (W V : List Nat) (σ σ' : RS) : Prop := (∀ f, f ∉ W → σ'.1 f = σ.1 f) ∧ ∀ f, f ∉ V → σ'.2 f = σ.2 f
def fr0 (D W E V : List Nat) : Bool := D.all (fun f => !W.contains f) && E.all (fun f => !V.contains f)
theorem fr0_1 {D W E V : List Nat} (h : fr0 D W E V = true) {f : Nat} (hf : f ∈ D) : f ∉ W := by
  have := List.all_eq_true.mp (Bool.and_eq_true_iff.mp h).1 f hf
  simpa using this
theorem fr0_2 {D W E V : List Nat} (h : fr0 D W E V = true) {f : Nat} (hf : f ∈ E) : f ∉ V := by
  have := List.all_eq_true.mp (Bool.and_eq_true_iff.mp h).2 f hf
  simpa using this
theorem Fr_refl {σ : RS} : Fr [] [] σ σ := ⟨fun _ _ => rfl, fun _ _ => rfl⟩
theorem Fr_I {σ : RS} {f i : Nat} {v : Int32} : Fr [f] [] σ (setI σ f i v) := by
  refine ⟨fun g hg => ?_, fun g _ => rfl⟩
  funext j
  exact setI_f (fun z => hg (by rw [z]; exact List.mem_cons_self))
theorem Fr_L {σ : RS} {f i : Nat} {v : Int64} : Fr [] [f] σ (setL σ f i v) := by
  refine ⟨fun g _ => rfl, fun g hg => ?_⟩
  funext j
  exact setL_f (fun z => hg (by rw [z]; exact List.mem_cons_self))
theorem Fr_t {W V W' V' : List Nat} {σ σ' σ2 : RS} (h : Fr W V σ σ') (h' : Fr W' V' σ' σ2) : Fr (W ++ W') (V ++ V') σ σ2 :=
  ⟨fun f hf => (h'.1 f (fun z => hf (List.mem_append_right _ z))).trans (h.1 f (fun z => hf (List.mem_append_left _ z))), fun f hf => (h'.2 f (fun z => hf (List.mem_append_right _ z))).trans (h.2 f (fun z => hf (List.mem_append_left _ z)))⟩
theorem Fr_w {W V W' V' : List Nat} {σ σ' : RS} (h : Fr W V σ σ') (h1 : ∀ f, f ∈ W → f ∈ W') (h2 : ∀ f, f ∈ V → f ∈ V') : Fr W' V' σ σ' := ⟨fun f hf => h.1 f (fun z => hf (h1 f z)), fun f hf => h.2 f (fun z => hf (h2 f z))⟩
theorem RWay_fr {W V : List Nat} {σ σ' : RS} {K : List AK} {w : List AP} (h : Fr W V σ σ') (q : fr0 [6, 7, 8, 9, 10, 11, 12, 13, 14, 15, 17, 18, 19, 20] W [16] V = true) (y0 : RWay K σ w) : RWay K σ' w := by
  have e6 : σ'.1 6 = σ.1 6 := h.1 6 (fr0_1 q (by simp))
  have e7 : σ'.1 7 = σ.1 7 := h.1 7 (fr0_1 q (by simp))
  have e8 : σ'.1 8 = σ.1 8 := h.1 8 (fr0_1 q (by simp))
  have e9 : σ'.1 9 = σ.1 9 := h.1 9 (fr0_1 q (by simp))
  have e10 : σ'.1 10 = σ.1 10 := h.1 10 (fr0_1 q (by simp))
  have e11 : σ'.1 11 = σ.1 11 := h.1 11 (fr0_1 q (by simp))
  have e12 : σ'.1 12 = σ.1 12 := h.1 12 (fr0_1 q (by simp))
  have e13 : σ'.1 13 = σ.1 13 := h.1 13 (fr0_1 q (by simp))
  have e14 : σ'.1 14 = σ.1 14 := h.1 14 (fr0_1 q (by simp))
  have e15 : σ'.1 15 = σ.1 15 := h.1 15 (fr0_1 q (by simp))
  have e17 : σ'.1 17 = σ.1 17 := h.1 17 (fr0_1 q (by simp))
  have e18 : σ'.1 18 = σ.1 18 := h.1 18 (fr0_1 q (by simp))
  have e19 : σ'.1 19 = σ.1 19 := h.1 19 (fr0_1 q (by simp))
  have e20 : σ'.1 20 = σ.1 20 := h.1 20 (fr0_1 q (by simp))
  have d16 : σ'.2 16 = σ.2 16 := h.2 16 (fr0_2 q (by simp))
  unfold RWay RLt rLb at y0 ⊢
  simp only [e6, e7, e8, e9, e10, e11, e12, e13, e14, e15, e17, e18, e19, e20, d16]
  exact y0
theorem RWt_fr {W V : List Nat} {σ σ' : RS} {K : List AK} {s : Nat} {w : List AL} (h : Fr W V σ σ') (q : fr0 [6, 7, 8, 9, 10, 11, 12, 13, 14, 15, 85] W [16] V = true) (y0 : RWt K σ s w) : RWt K σ' s w := by
  have e6 : σ'.1 6 = σ.1 6 := h.1 6 (fr0_1 q (by simp))
  have e7 : σ'.1 7 = σ.1 7 := h.1 7 (fr0_1 q (by simp))
  have e8 : σ'.1 8 = σ.1 8 := h.1 8 (fr0_1 q (by simp))
  have e9 : σ'.1 9 = σ.1 9 := h.1 9 (fr0_1 q (by simp))
  have e10 : σ'.1 10 = σ.1 10 := h.1 10 (fr0_1 q (by simp))
  have e11 : σ'.1 11 = σ.1 11 := h.1 11 (fr0_1 q (by simp))
  have e12 : σ'.1 12 = σ.1 12 := h.1 12 (fr0_1 q (by simp))
  have e13 : σ'.1 13 = σ.1 13 := h.1 13 (fr0_1 q (by simp))
  have e14 : σ'.1 14 = σ.1 14 := h.1 14 (fr0_1 q (by simp))
  have e15 : σ'.1 15 = σ.1 15 := h.1 15 (fr0_1 q (by simp))
  have e85 : σ'.1 85 = σ.1 85 := h.1 85 (fr0_1 q (by simp))
  have d16 : σ'.2 16 = σ.2 16 := h.2 16 (fr0_2 q (by simp))
  unfold RWt RLt rLb at y0 ⊢
  simp only [e6, e7, e8, e9, e10, e11, e12, e13, e14, e15, e85, d16]
  exact y0
theorem RLt_fr {W V : List Nat} {σ σ' : RS} {K : List AK} {k : Nat} {l : AL} (h : Fr W V σ σ') (q : fr0 [6, 7, 8, 9, 10, 11, 12, 13, 14, 15] W [16] V = true) (y0 : RLt K σ k l) : RLt K σ' k l := by
  have e6 : σ'.1 6 = σ.1 6 := h.1 6 (fr0_1 q (by simp))
  have e7 : σ'.1 7 = σ.1 7 := h.1 7 (fr0_1 q (by simp))
  have e8 : σ'.1 8 = σ.1 8 := h.1 8 (fr0_1 q (by simp))
  have e9 : σ'.1 9 = σ.1 9 := h.1 9 (fr0_1 q (by simp))
  have e10 : σ'.1 10 = σ.1 10 := h.1 10 (fr0_1 q (by simp))
  have e11 : σ'.1 11 = σ.1 11 := h.1 11 (fr0_1 q (by simp))
  have e12 : σ'.1 12 = σ.1 12 := h.1 12 (fr0_1 q (by simp))
  have e13 : σ'.1 13 = σ.1 13 := h.1 13 (fr0_1 q (by simp))
  have e14 : σ'.1 14 = σ.1 14 := h.1 14 (fr0_1 q (by simp))
  have e15 : σ'.1 15 = σ.1 15 := h.1 15 (fr0_1 q (by simp))
  have d16 : σ'.2 16 = σ.2 16 := h.2 16 (fr0_2 q (by simp))
  unfold RLt rLb at y0 ⊢
  simp only [e6, e7, e8, e9, e10, e11, e12, e13, e14, e15, d16]
  exact y0
theorem RLog_fr {W V : List Nat} {σ σ' : RS} {K : List AK} {s : Nat} {b : Int32} {g : List AE} (h : Fr W V σ σ') (q : fr0 [59, 60, 61] W [63] V = true) (y0 : RLog K σ s b g) : RLog K σ' s b g := by
  have e59 : σ'.1 59 = σ.1 59 := h.1 59 (fr0_1 q (by simp))
  have e60 : σ'.1 60 = σ.1 60 := h.1 60 (fr0_1 q (by simp))
  have e61 : σ'.1 61 = σ.1 61 := h.1 61 (fr0_1 q (by simp))
  have d63 : σ'.2 63 = σ.2 63 := h.2 63 (fr0_2 q (by simp))
  unfold RLog at y0 ⊢
  simp only [e59, e60, e61, d63]
  exact y0
theorem RDk_fr {W V : List Nat} {σ σ' : RS} {K : List AK} {s : Nat} {fc fk : Nat → AF} (h : Fr W V σ σ') (q : fr0 [37, 38, 39, 40, 41, 42, 44] W [36] V = true) (y0 : RDk K σ s fc fk) : RDk K σ' s fc fk := by
  have e37 : σ'.1 37 = σ.1 37 := h.1 37 (fr0_1 q (by simp))
  have e38 : σ'.1 38 = σ.1 38 := h.1 38 (fr0_1 q (by simp))
  have e39 : σ'.1 39 = σ.1 39 := h.1 39 (fr0_1 q (by simp))
  have e40 : σ'.1 40 = σ.1 40 := h.1 40 (fr0_1 q (by simp))
  have e41 : σ'.1 41 = σ.1 41 := h.1 41 (fr0_1 q (by simp))
  have e42 : σ'.1 42 = σ.1 42 := h.1 42 (fr0_1 q (by simp))
  have e44 : σ'.1 44 = σ.1 44 := h.1 44 (fr0_1 q (by simp))
  have d36 : σ'.2 36 = σ.2 36 := h.2 36 (fr0_2 q (by simp))
  have eg : ∀ g, g ∈ [37, 38, 39, 40, 41, 42] → σ'.1 g = σ.1 g := by
    intro g hg
    exact h.1 g (fr0_1 q (by simp at hg ⊢; omega))
  intro f hf
  obtain ⟨z1, z2, z3, z4⟩ := y0 f hf
  refine ⟨by unfold RFl at z1 ⊢; rw [e37, e38, e39, e40, e41, e42, d36]; exact z1, by unfold RFl at z2 ⊢; rw [e37, e38, e39, e40, e41, e42, d36]; exact z2, by rw [e44]; exact z3, fun y => ?_⟩
  rw [e44] at y
  rw [e37, d36]
  exact ⟨fun g hg => by rw [eg g hg]; exact (z4 y).1 g hg, (z4 y).2⟩
theorem RSl_fr {W V : List Nat} {σ σ' : RS} {s : Nat} {wr : Int32} {fc fk : Nat → AF} (h : Fr W V σ σ') (q : fr0 [41, 48] W [] V = true) (y0 : RSl σ s wr fc fk) : RSl σ' s wr fc fk := by
  have e41 : σ'.1 41 = σ.1 41 := h.1 41 (fr0_1 q (by simp))
  have e48 : σ'.1 48 = σ.1 48 := h.1 48 (fr0_1 q (by simp))
  unfold RSl at y0 ⊢
  simp only [e41, e48]
  exact y0
theorem RCh_fr {W V : List Nat} {σ σ' : RS} {s : Nat} {fc : Nat → AF} {ch : List Nat} (h : Fr W V σ σ') (q : fr0 [49, 50, 51] W [] V = true) (y0 : RCh σ s fc ch) : RCh σ' s fc ch := by
  have e49 : σ'.1 49 = σ.1 49 := h.1 49 (fr0_1 q (by simp))
  have e50 : σ'.1 50 = σ.1 50 := h.1 50 (fr0_1 q (by simp))
  have e51 : σ'.1 51 = σ.1 51 := h.1 51 (fr0_1 q (by simp))
  unfold RCh at y0 ⊢
  simp only [e49, e50, e51]
  exact y0
theorem RAt_fr {W V : List Nat} {σ σ' : RS} {s : Nat} {b : Int32} {g : List AE} {fc : Nat → AF} {ch : List Nat} (h : Fr W V σ σ') (q : fr0 [62] W [] V = true) (y0 : RAt σ s b g fc ch) : RAt σ' s b g fc ch := by
  have e62 : σ'.1 62 = σ.1 62 := h.1 62 (fr0_1 q (by simp))
  unfold RAt at y0 ⊢
  simp only [e62]
  exact y0
theorem RMc_fr {W V : List Nat} {σ σ' : RS} {s : Nat} {M : AM} (h : Fr W V σ σ') (q : fr0 [106, 107, 108, 109, 110, 111, 112, 113, 114, 115, 116, 117, 118, 119] W [] V = true) (y0 : RMc σ s M) : RMc σ' s M := by
  have e106 : σ'.1 106 = σ.1 106 := h.1 106 (fr0_1 q (by simp))
  have e107 : σ'.1 107 = σ.1 107 := h.1 107 (fr0_1 q (by simp))
  have e108 : σ'.1 108 = σ.1 108 := h.1 108 (fr0_1 q (by simp))
  have e109 : σ'.1 109 = σ.1 109 := h.1 109 (fr0_1 q (by simp))
  have e110 : σ'.1 110 = σ.1 110 := h.1 110 (fr0_1 q (by simp))
  have e111 : σ'.1 111 = σ.1 111 := h.1 111 (fr0_1 q (by simp))
  have e112 : σ'.1 112 = σ.1 112 := h.1 112 (fr0_1 q (by simp))
  have e113 : σ'.1 113 = σ.1 113 := h.1 113 (fr0_1 q (by simp))
  have e114 : σ'.1 114 = σ.1 114 := h.1 114 (fr0_1 q (by simp))
  have e115 : σ'.1 115 = σ.1 115 := h.1 115 (fr0_1 q (by simp))
  have e116 : σ'.1 116 = σ.1 116 := h.1 116 (fr0_1 q (by simp))
  have e117 : σ'.1 117 = σ.1 117 := h.1 117 (fr0_1 q (by simp))
  have e118 : σ'.1 118 = σ.1 118 := h.1 118 (fr0_1 q (by simp))
  have e119 : σ'.1 119 = σ.1 119 := h.1 119 (fr0_1 q (by simp))
  unfold RMc at y0 ⊢
  simp only [e106, e107, e108, e109, e110, e111, e112, e113, e114, e115, e116, e117, e118, e119]
  exact y0
theorem RSh_fr {W V : List Nat} {σ σ' : RS} {s : Nat} {z : Int32} {M : AM} (h : Fr W V σ σ') (q : fr0 [66] W [] V = true) (y0 : RSh σ s z M) : RSh σ' s z M := by
  have e66 : σ'.1 66 = σ.1 66 := h.1 66 (fr0_1 q (by simp))
  unfold RSh at y0 ⊢
  simp only [e66]
  exact y0
theorem RPc_fr {W V : List Nat} {σ σ' : RS} {s : Nat} {pb pg : Int32} {M : AM} (h : Fr W V σ σ') (q : fr0 [68] W [] V = true) (y0 : RPc σ s pb pg M) : RPc σ' s pb pg M := by
  have e68 : σ'.1 68 = σ.1 68 := h.1 68 (fr0_1 q (by simp))
  unfold RPc at y0 ⊢
  simp only [e68]
  exact y0
theorem RRq_fr {W V : List Nat} {σ σ' : RS} {K : List AK} {s d : Nat} {n : Int32} {rq : List AQ} (h : Fr W V σ σ') (q : fr0 [94, 95, 96, 97, 98, 99, 100, 101, 102, 103, 104, 105] W [] V = true) (y0 : RRq K σ s d n rq) : RRq K σ' s d n rq := by
  have e94 : σ'.1 94 = σ.1 94 := h.1 94 (fr0_1 q (by simp))
  have e95 : σ'.1 95 = σ.1 95 := h.1 95 (fr0_1 q (by simp))
  have e96 : σ'.1 96 = σ.1 96 := h.1 96 (fr0_1 q (by simp))
  have e97 : σ'.1 97 = σ.1 97 := h.1 97 (fr0_1 q (by simp))
  have e98 : σ'.1 98 = σ.1 98 := h.1 98 (fr0_1 q (by simp))
  have e99 : σ'.1 99 = σ.1 99 := h.1 99 (fr0_1 q (by simp))
  have e100 : σ'.1 100 = σ.1 100 := h.1 100 (fr0_1 q (by simp))
  have e101 : σ'.1 101 = σ.1 101 := h.1 101 (fr0_1 q (by simp))
  have e102 : σ'.1 102 = σ.1 102 := h.1 102 (fr0_1 q (by simp))
  have e103 : σ'.1 103 = σ.1 103 := h.1 103 (fr0_1 q (by simp))
  have e104 : σ'.1 104 = σ.1 104 := h.1 104 (fr0_1 q (by simp))
  have e105 : σ'.1 105 = σ.1 105 := h.1 105 (fr0_1 q (by simp))
  unfold RRq RRq1 at y0 ⊢
  simp only [e94, e95, e96, e97, e98, e99, e100, e101, e102, e103, e104, e105]
  exact y0
theorem RAk_fr {W V : List Nat} {σ σ' : RS} {K : List AK} (h : Fr W V σ σ') (q : fr0 [140, 142] W [] V = true) (y0 : RAk σ K) : RAk σ' K := by
  have e140 : σ'.1 140 = σ.1 140 := h.1 140 (fr0_1 q (by simp))
  have e142 : σ'.1 142 = σ.1 142 := h.1 142 (fr0_1 q (by simp))
  unfold RAk at y0 ⊢
  simp only [e140, e142]
  exact y0
theorem RWn_fr {W V : List Nat} {σ σ' : RS} {K : List AK} {b j : Int32} {c : Nat} (h : Fr W V σ σ') (q : fr0 [132, 133, 134, 135, 136] W [] V = true) (y0 : RWn σ K b j c) : RWn σ' K b j c := by
  have e132 : σ'.1 132 = σ.1 132 := h.1 132 (fr0_1 q (by simp))
  have e133 : σ'.1 133 = σ.1 133 := h.1 133 (fr0_1 q (by simp))
  have e134 : σ'.1 134 = σ.1 134 := h.1 134 (fr0_1 q (by simp))
  have e135 : σ'.1 135 = σ.1 135 := h.1 135 (fr0_1 q (by simp))
  have e136 : σ'.1 136 = σ.1 136 := h.1 136 (fr0_1 q (by simp))
  unfold RWn at y0 ⊢
  simp only [e132, e133, e134, e135, e136]
  exact y0
theorem RTp_fr {W V : List Nat} {σ σ' : RS} {t : List Int32} (h : Fr W V σ σ') (q : fr0 [4, 5] W [] V = true) (y0 : RTp σ t) : RTp σ' t := by
  have e4 : σ'.1 4 = σ.1 4 := h.1 4 (fr0_1 q (by simp))
  have e5 : σ'.1 5 = σ.1 5 := h.1 5 (fr0_1 q (by simp))
  unfold RTp at y0 ⊢
  simp only [e4, e5]
  exact y0
theorem RRe_fr {W V : List Nat} {σ σ' : RS} {t : List Int32} (h : Fr W V σ σ') (q : fr0 [143, 144] W [] V = true) (y0 : RRe σ t) : RRe σ' t := by
  have e143 : σ'.1 143 = σ.1 143 := h.1 143 (fr0_1 q (by simp))
  have e144 : σ'.1 144 = σ.1 144 := h.1 144 (fr0_1 q (by simp))
  unfold RRe at y0 ⊢
  simp only [e143, e144]
  exact y0
theorem RDn_fr {W V : List Nat} {σ σ' : RS} {c : Nat} {t : List Int32} (h : Fr W V σ σ') (q : fr0 [138, 139] W [] V = true) (y0 : RDn σ c t) : RDn σ' c t := by
  have e138 : σ'.1 138 = σ.1 138 := h.1 138 (fr0_1 q (by simp))
  have e139 : σ'.1 139 = σ.1 139 := h.1 139 (fr0_1 q (by simp))
  unfold RDn at y0 ⊢
  simp only [e138, e139]
  exact y0
theorem RSum_fr {W V : List Nat} {σ σ' : RS} {x : Int32} (h : Fr W V σ σ') (q : fr0 [48] W [] V = true) (y0 : σ.1 48 0 = x) : σ'.1 48 0 = x := by
  have e48 : σ'.1 48 = σ.1 48 := h.1 48 (fr0_1 q (by simp))
  simp only [e48]
  exact y0
/-! numbers that stand by themselves -/
def freeF : List Nat := [0, 1, 2, 3, 21, 22, 23, 24, 25, 26, 29, 30, 31, 32, 47, 53, 54, 57, 58, 64, 65, 71, 72, 74, 78, 79, 80, 81, 82, 83, 89, 91, 92, 93, 125, 126, 127, 128, 129, 130, 131, 141, 145]
theorem RSc_I {σ : RS} {a : AA} {f i : Nat} {v : Int32} (h : RSc σ a) : RSc (setI σ f i v) (aI a f i v) := by
  refine ⟨fun g hg j hj => ?_, h.2.1, h.2.2⟩
  show (if g = f ∧ j = i then v else σ.1 g j) = (if g = f ∧ j = i then v else a.1.1 g j)
  by_cases q : g = f ∧ j = i
  · rw [if_pos q, if_pos q]
  · rw [if_neg q, if_neg q]
    exact h.1 g hg j hj
theorem aS_I {a : AA} {f i g j : Nat} {v : Int32} : aS (aI a f i v) g j = if g = f ∧ j = i then v else aS a g j := rfl
theorem aS_If {a : AA} {f i g j : Nat} {v : Int32} (h : g ≠ f) : aS (aI a f i v) g j = aS a g j := if_neg (fun z => h z.1)
theorem RM_I {σ : RS} {a : AA} {u : AU} {f i : Nat} {v : Int32} (h : RM σ a u) (hf : f ∈ freeF) : RM (setI σ f i v) (aI a f i v) u := by
  have hF : Fr [f] [] σ (setI σ f i v) := Fr_I
  have nf : ∀ g, g ∉ freeF → ∀ j, aS (aI a f i v) g j = aS a g j := fun g hg j => aS_If (fun z => hg (z ▸ hf))
  have n55 := nf 55 (by decide)
  have n67 := nf 67 (by decide)
  have n69 := nf 69 (by decide)
  have n70 := nf 70 (by decide)
  have n124 := nf 124 (by decide)
  have n137 := nf 137 (by decide)
  have n150 := nf 150 (by decide)
  have n27 := nf 27 (by decide)
  have n43 := nf 43 (by decide)
  have n52 := nf 52 (by decide)
  have n56 := nf 56 (by decide)
  have n73 := nf 73 (by decide)
  have n75 := nf 75 (by decide)
  have n76 := nf 76 (by decide)
  have n77 := nf 77 (by decide)
  have n86 := nf 86 (by decide)
  have n88 := nf 88 (by decide)
  have n87 := nf 87 (by decide)
  have n90 := nf 90 (by decide)
  have n45 := nf 45 (by decide)
  have n46 := nf 46 (by decide)
  have n151 := nf 151 (by decide)
  unfold RM aLoc WLg WCh WMk WLd aBase aLast
  rw [show aSum (aI a f i v) = aSum a by unfold aSum; simp only [n150]]
  simp only [n73, n75, n76, n77, n86, n87, n88, n90, n27, n43, n45, n52, n56, n46, n55, n67, n69, n70, n124, n137, n150, n151]
  exact ⟨RSc_I h.1, RWay_fr hF ((by decide : ∀ f ∈ freeF, fr0 [6, 7, 8, 9, 10, 11, 12, 13, 14, 15, 17, 18, 19, 20] [f] [16] [] = true) f hf) h.2.1, fun s hs => RWt_fr hF ((by decide : ∀ f ∈ freeF, fr0 [6, 7, 8, 9, 10, 11, 12, 13, 14, 15, 85] [f] [16] [] = true) f hf) (h.2.2.1 s hs), fun l hl => RLt_fr hF ((by decide : ∀ f ∈ freeF, fr0 [6, 7, 8, 9, 10, 11, 12, 13, 14, 15] [f] [16] [] = true) f hf) (h.2.2.2.1 l hl), fun s hs => RLog_fr hF ((by decide : ∀ f ∈ freeF, fr0 [59, 60, 61] [f] [63] [] = true) f hf) (h.2.2.2.2.1 s hs), fun s hs => RDk_fr hF ((by decide : ∀ f ∈ freeF, fr0 [37, 38, 39, 40, 41, 42, 44] [f] [36] [] = true) f hf) (h.2.2.2.2.2.1 s hs), fun s hs => RSl_fr hF ((by decide : ∀ f ∈ freeF, fr0 [41, 48] [f] [] [] = true) f hf) (h.2.2.2.2.2.2.1 s hs), fun s hs hu => RCh_fr hF ((by decide : ∀ f ∈ freeF, fr0 [49, 50, 51] [f] [] [] = true) f hf) (h.2.2.2.2.2.2.2.1 s hs hu), fun s hs hu => RAt_fr hF ((by decide : ∀ f ∈ freeF, fr0 [62] [f] [] [] = true) f hf) (h.2.2.2.2.2.2.2.2.1 s hs hu), fun s hs => RMc_fr hF ((by decide : ∀ f ∈ freeF, fr0 [106, 107, 108, 109, 110, 111, 112, 113, 114, 115, 116, 117, 118, 119] [f] [] [] = true) f hf) (h.2.2.2.2.2.2.2.2.2.1 s hs), fun s hs => RSh_fr hF ((by decide : ∀ f ∈ freeF, fr0 [66] [f] [] [] = true) f hf) (h.2.2.2.2.2.2.2.2.2.2.1 s hs), fun s hs => RPc_fr hF ((by decide : ∀ f ∈ freeF, fr0 [68] [f] [] [] = true) f hf) (h.2.2.2.2.2.2.2.2.2.2.2.1 s hs), fun s hs => RRq_fr hF ((by decide : ∀ f ∈ freeF, fr0 [94, 95, 96, 97, 98, 99, 100, 101, 102, 103, 104, 105] [f] [] [] = true) f hf) (h.2.2.2.2.2.2.2.2.2.2.2.2.1 s hs), RAk_fr hF ((by decide : ∀ f ∈ freeF, fr0 [140, 142] [f] [] [] = true) f hf) h.2.2.2.2.2.2.2.2.2.2.2.2.2.1, fun s hs => RWn_fr hF ((by decide : ∀ f ∈ freeF, fr0 [132, 133, 134, 135, 136] [f] [] [] = true) f hf) (h.2.2.2.2.2.2.2.2.2.2.2.2.2.2.1 s hs), RTp_fr hF ((by decide : ∀ f ∈ freeF, fr0 [4, 5] [f] [] [] = true) f hf) h.2.2.2.2.2.2.2.2.2.2.2.2.2.2.2.1, RRe_fr hF ((by decide : ∀ f ∈ freeF, fr0 [143, 144] [f] [] [] = true) f hf) h.2.2.2.2.2.2.2.2.2.2.2.2.2.2.2.2.1, fun s hs => RDn_fr hF ((by decide : ∀ f ∈ freeF, fr0 [138, 139] [f] [] [] = true) f hf) (h.2.2.2.2.2.2.2.2.2.2.2.2.2.2.2.2.2.1 s hs), RSum_fr hF ((by decide : ∀ f ∈ freeF, fr0 [48] [f] [] [] = true) f hf) h.2.2.2.2.2.2.2.2.2.2.2.2.2.2.2.2.2.2.1, h.2.2.2.2.2.2.2.2.2.2.2.2.2.2.2.2.2.2.2.1, h.2.2.2.2.2.2.2.2.2.2.2.2.2.2.2.2.2.2.2.2.1, h.2.2.2.2.2.2.2.2.2.2.2.2.2.2.2.2.2.2.2.2.2.1, h.2.2.2.2.2.2.2.2.2.2.2.2.2.2.2.2.2.2.2.2.2.2.1, h.2.2.2.2.2.2.2.2.2.2.2.2.2.2.2.2.2.2.2.2.2.2.2⟩
/-- sinceSync ends -/
theorem RM_46 {σ : RS} {a : AA} {u : AU} {s : Nat} (h : RM σ a u) : RM (setI σ 46 s 0) (aI a 46 s 0) u := by
  have hF : Fr [46] [] σ (setI σ 46 s 0) := Fr_I
  refine ⟨RSc_I h.1, RWay_fr hF (by decide) h.2.1, fun s hs => RWt_fr hF (by decide) (h.2.2.1 s hs), fun l hl => RLt_fr hF (by decide) (h.2.2.2.1 l hl), fun s hs => RLog_fr hF (by decide) (h.2.2.2.2.1 s hs), fun s hs => RDk_fr hF (by decide) (h.2.2.2.2.2.1 s hs), fun s hs => RSl_fr hF (by decide) (h.2.2.2.2.2.2.1 s hs), fun s hs hu => RCh_fr hF (by decide) (h.2.2.2.2.2.2.2.1 s hs hu), fun s hs hu => RAt_fr hF (by decide) (h.2.2.2.2.2.2.2.2.1 s hs hu), fun s hs => RMc_fr hF (by decide) (h.2.2.2.2.2.2.2.2.2.1 s hs), fun s hs => RSh_fr hF (by decide) (h.2.2.2.2.2.2.2.2.2.2.1 s hs), fun s hs => RPc_fr hF (by decide) (h.2.2.2.2.2.2.2.2.2.2.2.1 s hs), fun s hs => RRq_fr hF (by decide) (h.2.2.2.2.2.2.2.2.2.2.2.2.1 s hs), RAk_fr hF (by decide) h.2.2.2.2.2.2.2.2.2.2.2.2.2.1, fun s hs => RWn_fr hF (by decide) (h.2.2.2.2.2.2.2.2.2.2.2.2.2.2.1 s hs), RTp_fr hF (by decide) h.2.2.2.2.2.2.2.2.2.2.2.2.2.2.2.1, RRe_fr hF (by decide) h.2.2.2.2.2.2.2.2.2.2.2.2.2.2.2.2.1, fun s hs => RDn_fr hF (by decide) (h.2.2.2.2.2.2.2.2.2.2.2.2.2.2.2.2.2.1 s hs), RSum_fr hF (by decide) h.2.2.2.2.2.2.2.2.2.2.2.2.2.2.2.2.2.2.1, ⟨h.2.2.2.2.2.2.2.2.2.2.2.2.2.2.2.2.2.2.2.1.1, h.2.2.2.2.2.2.2.2.2.2.2.2.2.2.2.2.2.2.2.1.2.1, h.2.2.2.2.2.2.2.2.2.2.2.2.2.2.2.2.2.2.2.1.2.2.1, h.2.2.2.2.2.2.2.2.2.2.2.2.2.2.2.2.2.2.2.1.2.2.2.1, fun t ht => ⟨(h.2.2.2.2.2.2.2.2.2.2.2.2.2.2.2.2.2.2.2.1.2.2.2.2 t ht).1, ?_⟩⟩, h.2.2.2.2.2.2.2.2.2.2.2.2.2.2.2.2.2.2.2.2.1, h.2.2.2.2.2.2.2.2.2.2.2.2.2.2.2.2.2.2.2.2.2.1, h.2.2.2.2.2.2.2.2.2.2.2.2.2.2.2.2.2.2.2.2.2.2.1, h.2.2.2.2.2.2.2.2.2.2.2.2.2.2.2.2.2.2.2.2.2.2.2⟩
  by_cases q : t = s
  · left
    rw [q]
    exact if_pos ⟨rfl, rfl⟩
  · rcases (h.2.2.2.2.2.2.2.2.2.2.2.2.2.2.2.2.2.2.2.1.2.2.2.2 t ht).2 with z | z
    · left
      exact (if_neg (fun x => q x.2)).trans z
    · exact Or.inr z
/-- the slot that was written last -/
theorem RM_45 {σ : RS} {a : AA} {u : AU} {s : Nat} {v : Int32} (h : RM σ a u) (hv : v = 0 ∨ v = 1 ∨ (v = -1 ∧ aS a 46 s = 0)) : RM (setI σ 45 s v) (aI a 45 s v) u := by
  have hF : Fr [45] [] σ (setI σ 45 s v) := Fr_I
  have e : ∀ t, aS (aI a 45 s v) 45 t = if t = s then v else aS a 45 t := by
    intro t
    rw [aS_I]
    by_cases q : t = s
    · rw [if_pos ⟨rfl, q⟩, if_pos q]
    · rw [if_neg (fun z => q z.2), if_neg q]
  refine ⟨RSc_I h.1, RWay_fr hF (by decide) h.2.1, fun s hs => RWt_fr hF (by decide) (h.2.2.1 s hs), fun l hl => RLt_fr hF (by decide) (h.2.2.2.1 l hl), fun s hs => RLog_fr hF (by decide) (h.2.2.2.2.1 s hs), fun s hs => RDk_fr hF (by decide) (h.2.2.2.2.2.1 s hs), fun s hs => RSl_fr hF (by decide) (h.2.2.2.2.2.2.1 s hs), fun s hs hu => RCh_fr hF (by decide) (h.2.2.2.2.2.2.2.1 s hs hu), fun s hs hu => RAt_fr hF (by decide) (h.2.2.2.2.2.2.2.2.1 s hs hu), fun s hs => RMc_fr hF (by decide) (h.2.2.2.2.2.2.2.2.2.1 s hs), fun s hs => RSh_fr hF (by decide) (h.2.2.2.2.2.2.2.2.2.2.1 s hs), fun s hs => RPc_fr hF (by decide) (h.2.2.2.2.2.2.2.2.2.2.2.1 s hs), fun s hs => RRq_fr hF (by decide) (h.2.2.2.2.2.2.2.2.2.2.2.2.1 s hs), RAk_fr hF (by decide) h.2.2.2.2.2.2.2.2.2.2.2.2.2.1, fun s hs => RWn_fr hF (by decide) (h.2.2.2.2.2.2.2.2.2.2.2.2.2.2.1 s hs), RTp_fr hF (by decide) h.2.2.2.2.2.2.2.2.2.2.2.2.2.2.2.1, RRe_fr hF (by decide) h.2.2.2.2.2.2.2.2.2.2.2.2.2.2.2.2.1, fun s hs => RDn_fr hF (by decide) (h.2.2.2.2.2.2.2.2.2.2.2.2.2.2.2.2.2.1 s hs), RSum_fr hF (by decide) h.2.2.2.2.2.2.2.2.2.2.2.2.2.2.2.2.2.2.1, ⟨h.2.2.2.2.2.2.2.2.2.2.2.2.2.2.2.2.2.2.2.1.1, h.2.2.2.2.2.2.2.2.2.2.2.2.2.2.2.2.2.2.2.1.2.1, h.2.2.2.2.2.2.2.2.2.2.2.2.2.2.2.2.2.2.2.1.2.2.1, h.2.2.2.2.2.2.2.2.2.2.2.2.2.2.2.2.2.2.2.1.2.2.2.1, fun t ht => ?_⟩, h.2.2.2.2.2.2.2.2.2.2.2.2.2.2.2.2.2.2.2.2.1, h.2.2.2.2.2.2.2.2.2.2.2.2.2.2.2.2.2.2.2.2.2.1, h.2.2.2.2.2.2.2.2.2.2.2.2.2.2.2.2.2.2.2.2.2.2.1, h.2.2.2.2.2.2.2.2.2.2.2.2.2.2.2.2.2.2.2.2.2.2.2⟩
  have z := h.2.2.2.2.2.2.2.2.2.2.2.2.2.2.2.2.2.2.2.1.2.2.2.2 t ht
  rw [e, show aS (aI a 45 s v) 46 t = aS a 46 t from rfl]
  by_cases q : t = s
  · rw [if_pos q, q]
    rcases hv with x | x | x
    · exact ⟨Or.inr (Or.inl x), Or.inr (Or.inl x)⟩
    · exact ⟨Or.inr (Or.inr x), Or.inr (Or.inr x)⟩
    · exact ⟨Or.inl x.1, Or.inl x.2⟩
  · rw [if_neg q]
    exact z
/-- sinceSync begins -/
theorem RM_46b {σ : RS} {a : AA} {u : AU} {s : Nat} {v : Int32} (h : RM σ a u) (hv : aS a 45 s = 0 ∨ aS a 45 s = 1) : RM (setI σ 46 s v) (aI a 46 s v) u := by
  have hF : Fr [46] [] σ (setI σ 46 s v) := Fr_I
  refine ⟨RSc_I h.1, RWay_fr hF (by decide) h.2.1, fun s hs => RWt_fr hF (by decide) (h.2.2.1 s hs), fun l hl => RLt_fr hF (by decide) (h.2.2.2.1 l hl), fun s hs => RLog_fr hF (by decide) (h.2.2.2.2.1 s hs), fun s hs => RDk_fr hF (by decide) (h.2.2.2.2.2.1 s hs), fun s hs => RSl_fr hF (by decide) (h.2.2.2.2.2.2.1 s hs), fun s hs hu => RCh_fr hF (by decide) (h.2.2.2.2.2.2.2.1 s hs hu), fun s hs hu => RAt_fr hF (by decide) (h.2.2.2.2.2.2.2.2.1 s hs hu), fun s hs => RMc_fr hF (by decide) (h.2.2.2.2.2.2.2.2.2.1 s hs), fun s hs => RSh_fr hF (by decide) (h.2.2.2.2.2.2.2.2.2.2.1 s hs), fun s hs => RPc_fr hF (by decide) (h.2.2.2.2.2.2.2.2.2.2.2.1 s hs), fun s hs => RRq_fr hF (by decide) (h.2.2.2.2.2.2.2.2.2.2.2.2.1 s hs), RAk_fr hF (by decide) h.2.2.2.2.2.2.2.2.2.2.2.2.2.1, fun s hs => RWn_fr hF (by decide) (h.2.2.2.2.2.2.2.2.2.2.2.2.2.2.1 s hs), RTp_fr hF (by decide) h.2.2.2.2.2.2.2.2.2.2.2.2.2.2.2.1, RRe_fr hF (by decide) h.2.2.2.2.2.2.2.2.2.2.2.2.2.2.2.2.1, fun s hs => RDn_fr hF (by decide) (h.2.2.2.2.2.2.2.2.2.2.2.2.2.2.2.2.2.1 s hs), RSum_fr hF (by decide) h.2.2.2.2.2.2.2.2.2.2.2.2.2.2.2.2.2.2.1, ⟨h.2.2.2.2.2.2.2.2.2.2.2.2.2.2.2.2.2.2.2.1.1, h.2.2.2.2.2.2.2.2.2.2.2.2.2.2.2.2.2.2.2.1.2.1, h.2.2.2.2.2.2.2.2.2.2.2.2.2.2.2.2.2.2.2.1.2.2.1, h.2.2.2.2.2.2.2.2.2.2.2.2.2.2.2.2.2.2.2.1.2.2.2.1, fun t ht => ⟨(h.2.2.2.2.2.2.2.2.2.2.2.2.2.2.2.2.2.2.2.1.2.2.2.2 t ht).1, ?_⟩⟩, h.2.2.2.2.2.2.2.2.2.2.2.2.2.2.2.2.2.2.2.2.1, h.2.2.2.2.2.2.2.2.2.2.2.2.2.2.2.2.2.2.2.2.2.1, h.2.2.2.2.2.2.2.2.2.2.2.2.2.2.2.2.2.2.2.2.2.2.1, h.2.2.2.2.2.2.2.2.2.2.2.2.2.2.2.2.2.2.2.2.2.2.2⟩
  by_cases q : t = s
  · right
    rw [q]
    exact hv
  · rcases (h.2.2.2.2.2.2.2.2.2.2.2.2.2.2.2.2.2.2.2.1.2.2.2.2 t ht).2 with z | z
    · left
      exact (if_neg (fun x => q x.2)).trans z
    · exact Or.inr z
/-- roles, marks, what a leader knows -/
theorem aS_7 {a : AA} {f g i j : Nat} {v : Int32} : aS (aI a f i v) g j = if g = f ∧ j = i then v else aS a g j := rfl
theorem RM_73 {σ : RS} {a : AA} {u : AU} {s : Nat} {v : Int32} (h : RM σ a u) (hv : ¬ v = 3 ∨ ¬ u.2 (7 + s)) : RM (setI σ 73 s v) (aI a 73 s v) u := by
  have hF : Fr [73] [] σ (setI σ 73 s v) := Fr_I
  refine ⟨RSc_I h.1, RWay_fr hF (by decide) h.2.1, fun s hs => RWt_fr hF (by decide) (h.2.2.1 s hs), fun l hl => RLt_fr hF (by decide) (h.2.2.2.1 l hl), fun s hs => RLog_fr hF (by decide) (h.2.2.2.2.1 s hs), fun s hs => RDk_fr hF (by decide) (h.2.2.2.2.2.1 s hs), fun s hs => RSl_fr hF (by decide) (h.2.2.2.2.2.2.1 s hs), fun s hs hu => RCh_fr hF (by decide) (h.2.2.2.2.2.2.2.1 s hs hu), fun s hs hu => RAt_fr hF (by decide) (h.2.2.2.2.2.2.2.2.1 s hs hu), fun s hs => RMc_fr hF (by decide) (h.2.2.2.2.2.2.2.2.2.1 s hs), fun s hs => RSh_fr hF (by decide) (h.2.2.2.2.2.2.2.2.2.2.1 s hs), fun s hs => RPc_fr hF (by decide) (h.2.2.2.2.2.2.2.2.2.2.2.1 s hs), fun s hs => RRq_fr hF (by decide) (h.2.2.2.2.2.2.2.2.2.2.2.2.1 s hs), RAk_fr hF (by decide) h.2.2.2.2.2.2.2.2.2.2.2.2.2.1, fun s hs => RWn_fr hF (by decide) (h.2.2.2.2.2.2.2.2.2.2.2.2.2.2.1 s hs), RTp_fr hF (by decide) h.2.2.2.2.2.2.2.2.2.2.2.2.2.2.2.1, RRe_fr hF (by decide) h.2.2.2.2.2.2.2.2.2.2.2.2.2.2.2.2.1, fun s hs => RDn_fr hF (by decide) (h.2.2.2.2.2.2.2.2.2.2.2.2.2.2.2.2.2.1 s hs), RSum_fr hF (by decide) h.2.2.2.2.2.2.2.2.2.2.2.2.2.2.2.2.2.2.1, h.2.2.2.2.2.2.2.2.2.2.2.2.2.2.2.2.2.2.2.1, h.2.2.2.2.2.2.2.2.2.2.2.2.2.2.2.2.2.2.2.2.1, h.2.2.2.2.2.2.2.2.2.2.2.2.2.2.2.2.2.2.2.2.2.1, h.2.2.2.2.2.2.2.2.2.2.2.2.2.2.2.2.2.2.2.2.2.2.1, fun t ht hz => ?_⟩
  rw [aS_7]
  by_cases q : t = s
  · rw [if_pos ⟨rfl, q⟩]
    intro hv3
    rw [q] at hz
    rcases hv with x | x
    · exact absurd hv3 x
    · exact absurd hz x
  · rw [if_neg (fun z => q z.2)]
    exact h.2.2.2.2.2.2.2.2.2.2.2.2.2.2.2.2.2.2.2.2.2.2.2 t ht hz
theorem RM_mk {σ : RS} {a : AA} {u : AU} {f s : Nat} {v : Int32} (h : RM σ a u) (hf : f = 75 ∨ f = 76 ∨ f = 77) (hv : u.2 (14 + s) → WMk a s → WMk (aI a f s v) s) : RM (setI σ f s v) (aI a f s v) u := by
  have hF : Fr [f] [] σ (setI σ f s v) := Fr_I
  have hmk : ∀ t, t < 7 → u.2 (14 + t) → WMk (aI a f s v) t := by
    intro t ht hz
    by_cases q : t = s
    · rw [q] at hz ⊢
      exact hv hz (h.2.2.2.2.2.2.2.2.2.2.2.2.2.2.2.2.2.2.2.2.2.2.1 s (by omega) hz)
    · have := h.2.2.2.2.2.2.2.2.2.2.2.2.2.2.2.2.2.2.2.2.2.2.1 t ht hz
      have e : ∀ g, aS (aI a f s v) g t = aS a g t := fun g => if_neg (fun z => q z.2)
      unfold WMk aBase aLast at this ⊢
      rw [e, e, e, e, e]
      exact this
  rcases hf with rfl | rfl | rfl
  · exact ⟨RSc_I h.1, RWay_fr hF (by decide) h.2.1, fun s hs => RWt_fr hF (by decide) (h.2.2.1 s hs), fun l hl => RLt_fr hF (by decide) (h.2.2.2.1 l hl), fun s hs => RLog_fr hF (by decide) (h.2.2.2.2.1 s hs), fun s hs => RDk_fr hF (by decide) (h.2.2.2.2.2.1 s hs), fun s hs => RSl_fr hF (by decide) (h.2.2.2.2.2.2.1 s hs), fun s hs hu => RCh_fr hF (by decide) (h.2.2.2.2.2.2.2.1 s hs hu), fun s hs hu => RAt_fr hF (by decide) (h.2.2.2.2.2.2.2.2.1 s hs hu), fun s hs => RMc_fr hF (by decide) (h.2.2.2.2.2.2.2.2.2.1 s hs), fun s hs => RSh_fr hF (by decide) (h.2.2.2.2.2.2.2.2.2.2.1 s hs), fun s hs => RPc_fr hF (by decide) (h.2.2.2.2.2.2.2.2.2.2.2.1 s hs), fun s hs => RRq_fr hF (by decide) (h.2.2.2.2.2.2.2.2.2.2.2.2.1 s hs), RAk_fr hF (by decide) h.2.2.2.2.2.2.2.2.2.2.2.2.2.1, fun s hs => RWn_fr hF (by decide) (h.2.2.2.2.2.2.2.2.2.2.2.2.2.2.1 s hs), RTp_fr hF (by decide) h.2.2.2.2.2.2.2.2.2.2.2.2.2.2.2.1, RRe_fr hF (by decide) h.2.2.2.2.2.2.2.2.2.2.2.2.2.2.2.2.1, fun s hs => RDn_fr hF (by decide) (h.2.2.2.2.2.2.2.2.2.2.2.2.2.2.2.2.2.1 s hs), RSum_fr hF (by decide) h.2.2.2.2.2.2.2.2.2.2.2.2.2.2.2.2.2.2.1, h.2.2.2.2.2.2.2.2.2.2.2.2.2.2.2.2.2.2.2.1, h.2.2.2.2.2.2.2.2.2.2.2.2.2.2.2.2.2.2.2.2.1, h.2.2.2.2.2.2.2.2.2.2.2.2.2.2.2.2.2.2.2.2.2.1, hmk, h.2.2.2.2.2.2.2.2.2.2.2.2.2.2.2.2.2.2.2.2.2.2.2⟩
  · exact ⟨RSc_I h.1, RWay_fr hF (by decide) h.2.1, fun s hs => RWt_fr hF (by decide) (h.2.2.1 s hs), fun l hl => RLt_fr hF (by decide) (h.2.2.2.1 l hl), fun s hs => RLog_fr hF (by decide) (h.2.2.2.2.1 s hs), fun s hs => RDk_fr hF (by decide) (h.2.2.2.2.2.1 s hs), fun s hs => RSl_fr hF (by decide) (h.2.2.2.2.2.2.1 s hs), fun s hs hu => RCh_fr hF (by decide) (h.2.2.2.2.2.2.2.1 s hs hu), fun s hs hu => RAt_fr hF (by decide) (h.2.2.2.2.2.2.2.2.1 s hs hu), fun s hs => RMc_fr hF (by decide) (h.2.2.2.2.2.2.2.2.2.1 s hs), fun s hs => RSh_fr hF (by decide) (h.2.2.2.2.2.2.2.2.2.2.1 s hs), fun s hs => RPc_fr hF (by decide) (h.2.2.2.2.2.2.2.2.2.2.2.1 s hs), fun s hs => RRq_fr hF (by decide) (h.2.2.2.2.2.2.2.2.2.2.2.2.1 s hs), RAk_fr hF (by decide) h.2.2.2.2.2.2.2.2.2.2.2.2.2.1, fun s hs => RWn_fr hF (by decide) (h.2.2.2.2.2.2.2.2.2.2.2.2.2.2.1 s hs), RTp_fr hF (by decide) h.2.2.2.2.2.2.2.2.2.2.2.2.2.2.2.1, RRe_fr hF (by decide) h.2.2.2.2.2.2.2.2.2.2.2.2.2.2.2.2.1, fun s hs => RDn_fr hF (by decide) (h.2.2.2.2.2.2.2.2.2.2.2.2.2.2.2.2.2.1 s hs), RSum_fr hF (by decide) h.2.2.2.2.2.2.2.2.2.2.2.2.2.2.2.2.2.2.1, h.2.2.2.2.2.2.2.2.2.2.2.2.2.2.2.2.2.2.2.1, h.2.2.2.2.2.2.2.2.2.2.2.2.2.2.2.2.2.2.2.2.1, h.2.2.2.2.2.2.2.2.2.2.2.2.2.2.2.2.2.2.2.2.2.1, hmk, h.2.2.2.2.2.2.2.2.2.2.2.2.2.2.2.2.2.2.2.2.2.2.2⟩
  · exact ⟨RSc_I h.1, RWay_fr hF (by decide) h.2.1, fun s hs => RWt_fr hF (by decide) (h.2.2.1 s hs), fun l hl => RLt_fr hF (by decide) (h.2.2.2.1 l hl), fun s hs => RLog_fr hF (by decide) (h.2.2.2.2.1 s hs), fun s hs => RDk_fr hF (by decide) (h.2.2.2.2.2.1 s hs), fun s hs => RSl_fr hF (by decide) (h.2.2.2.2.2.2.1 s hs), fun s hs hu => RCh_fr hF (by decide) (h.2.2.2.2.2.2.2.1 s hs hu), fun s hs hu => RAt_fr hF (by decide) (h.2.2.2.2.2.2.2.2.1 s hs hu), fun s hs => RMc_fr hF (by decide) (h.2.2.2.2.2.2.2.2.2.1 s hs), fun s hs => RSh_fr hF (by decide) (h.2.2.2.2.2.2.2.2.2.2.1 s hs), fun s hs => RPc_fr hF (by decide) (h.2.2.2.2.2.2.2.2.2.2.2.1 s hs), fun s hs => RRq_fr hF (by decide) (h.2.2.2.2.2.2.2.2.2.2.2.2.1 s hs), RAk_fr hF (by decide) h.2.2.2.2.2.2.2.2.2.2.2.2.2.1, fun s hs => RWn_fr hF (by decide) (h.2.2.2.2.2.2.2.2.2.2.2.2.2.2.1 s hs), RTp_fr hF (by decide) h.2.2.2.2.2.2.2.2.2.2.2.2.2.2.2.1, RRe_fr hF (by decide) h.2.2.2.2.2.2.2.2.2.2.2.2.2.2.2.2.1, fun s hs => RDn_fr hF (by decide) (h.2.2.2.2.2.2.2.2.2.2.2.2.2.2.2.2.2.1 s hs), RSum_fr hF (by decide) h.2.2.2.2.2.2.2.2.2.2.2.2.2.2.2.2.2.2.1, h.2.2.2.2.2.2.2.2.2.2.2.2.2.2.2.2.2.2.2.1, h.2.2.2.2.2.2.2.2.2.2.2.2.2.2.2.2.2.2.2.2.1, h.2.2.2.2.2.2.2.2.2.2.2.2.2.2.2.2.2.2.2.2.2.1, hmk, h.2.2.2.2.2.2.2.2.2.2.2.2.2.2.2.2.2.2.2.2.2.2.2⟩
theorem RM_ld {σ : RS} {a : AA} {u : AU} {f s p : Nat} {v : Int32} (h : RM σ a u) (hp : p < 7) (hf : f = 86 ∨ f = 87 ∨ f = 88 ∨ f = 90) (hv : u.2 (7 + s) → aS a 73 s = 3 → WLd a s → (f = 86 → 1 ≤ v ∧ v ≤ aLast a s + 1) ∧ (f = 87 → v ≤ aLast a s) ∧ (f = 90 → 0 ≤ v ∧ v ≤ aS a 67 s) ∧ (f = 88 → 0 ≤ v)) : RM (setI σ f (7 * s + p) v) (aI a f (7 * s + p) v) u := by
  have hF : Fr [f] [] σ (setI σ f (7 * s + p) v) := Fr_I
  have hld : ∀ t, t < 7 → u.2 (7 + t) → aS a 73 t = 3 → WLd (aI a f (7 * s + p) v) t := by
    intro t ht hz hr x hx
    have old := h.2.2.2.2.2.2.2.2.2.2.2.2.2.2.2.2.2.2.2.2.2.2.2 t ht hz hr
    have oldx := old x hx
    have el : aLast (aI a f (7 * s + p) v) t = aLast a t := if_neg (fun z => by omega)
    have e67 : aS (aI a f (7 * s + p) v) 67 t = aS a 67 t := if_neg (fun z => by omega)
    rw [el, e67, aS_7, aS_7, aS_7, aS_7]
    by_cases q : 7 * t + x = 7 * s + p
    · have : t = s := by omega
      subst this
      obtain ⟨y1, y2, y3, y4⟩ := hv hz hr old
      rcases hf with rfl | rfl | rfl | rfl
      · rw [if_pos ⟨rfl, q⟩, if_neg (fun z => by omega), if_neg (fun z => by omega), if_neg (fun z => by omega)]
        exact ⟨(y1 rfl).1, (y1 rfl).2, oldx.2.2⟩
      · rw [if_neg (fun z => by omega), if_pos ⟨rfl, q⟩, if_neg (fun z => by omega), if_neg (fun z => by omega)]
        exact ⟨oldx.1, oldx.2.1, y2 rfl, oldx.2.2.2⟩
      · rw [if_neg (fun z => by omega), if_neg (fun z => by omega), if_neg (fun z => by omega), if_pos ⟨rfl, q⟩]
        exact ⟨oldx.1, oldx.2.1, oldx.2.2.1, oldx.2.2.2.1, oldx.2.2.2.2.1, y4 rfl⟩
      · rw [if_neg (fun z => by omega), if_neg (fun z => by omega), if_pos ⟨rfl, q⟩, if_neg (fun z => by omega)]
        exact ⟨oldx.1, oldx.2.1, oldx.2.2.1, (y3 rfl).1, (y3 rfl).2, oldx.2.2.2.2.2⟩
    · rw [if_neg (fun z => q z.2), if_neg (fun z => q z.2), if_neg (fun z => q z.2), if_neg (fun z => q z.2)]
      exact oldx
  rcases hf with rfl | rfl | rfl | rfl
  · exact ⟨RSc_I h.1, RWay_fr hF (by decide) h.2.1, fun s hs => RWt_fr hF (by decide) (h.2.2.1 s hs), fun l hl => RLt_fr hF (by decide) (h.2.2.2.1 l hl), fun s hs => RLog_fr hF (by decide) (h.2.2.2.2.1 s hs), fun s hs => RDk_fr hF (by decide) (h.2.2.2.2.2.1 s hs), fun s hs => RSl_fr hF (by decide) (h.2.2.2.2.2.2.1 s hs), fun s hs hu => RCh_fr hF (by decide) (h.2.2.2.2.2.2.2.1 s hs hu), fun s hs hu => RAt_fr hF (by decide) (h.2.2.2.2.2.2.2.2.1 s hs hu), fun s hs => RMc_fr hF (by decide) (h.2.2.2.2.2.2.2.2.2.1 s hs), fun s hs => RSh_fr hF (by decide) (h.2.2.2.2.2.2.2.2.2.2.1 s hs), fun s hs => RPc_fr hF (by decide) (h.2.2.2.2.2.2.2.2.2.2.2.1 s hs), fun s hs => RRq_fr hF (by decide) (h.2.2.2.2.2.2.2.2.2.2.2.2.1 s hs), RAk_fr hF (by decide) h.2.2.2.2.2.2.2.2.2.2.2.2.2.1, fun s hs => RWn_fr hF (by decide) (h.2.2.2.2.2.2.2.2.2.2.2.2.2.2.1 s hs), RTp_fr hF (by decide) h.2.2.2.2.2.2.2.2.2.2.2.2.2.2.2.1, RRe_fr hF (by decide) h.2.2.2.2.2.2.2.2.2.2.2.2.2.2.2.2.1, fun s hs => RDn_fr hF (by decide) (h.2.2.2.2.2.2.2.2.2.2.2.2.2.2.2.2.2.1 s hs), RSum_fr hF (by decide) h.2.2.2.2.2.2.2.2.2.2.2.2.2.2.2.2.2.2.1, h.2.2.2.2.2.2.2.2.2.2.2.2.2.2.2.2.2.2.2.1, h.2.2.2.2.2.2.2.2.2.2.2.2.2.2.2.2.2.2.2.2.1, h.2.2.2.2.2.2.2.2.2.2.2.2.2.2.2.2.2.2.2.2.2.1, h.2.2.2.2.2.2.2.2.2.2.2.2.2.2.2.2.2.2.2.2.2.2.1, hld⟩
  · exact ⟨RSc_I h.1, RWay_fr hF (by decide) h.2.1, fun s hs => RWt_fr hF (by decide) (h.2.2.1 s hs), fun l hl => RLt_fr hF (by decide) (h.2.2.2.1 l hl), fun s hs => RLog_fr hF (by decide) (h.2.2.2.2.1 s hs), fun s hs => RDk_fr hF (by decide) (h.2.2.2.2.2.1 s hs), fun s hs => RSl_fr hF (by decide) (h.2.2.2.2.2.2.1 s hs), fun s hs hu => RCh_fr hF (by decide) (h.2.2.2.2.2.2.2.1 s hs hu), fun s hs hu => RAt_fr hF (by decide) (h.2.2.2.2.2.2.2.2.1 s hs hu), fun s hs => RMc_fr hF (by decide) (h.2.2.2.2.2.2.2.2.2.1 s hs), fun s hs => RSh_fr hF (by decide) (h.2.2.2.2.2.2.2.2.2.2.1 s hs), fun s hs => RPc_fr hF (by decide) (h.2.2.2.2.2.2.2.2.2.2.2.1 s hs), fun s hs => RRq_fr hF (by decide) (h.2.2.2.2.2.2.2.2.2.2.2.2.1 s hs), RAk_fr hF (by decide) h.2.2.2.2.2.2.2.2.2.2.2.2.2.1, fun s hs => RWn_fr hF (by decide) (h.2.2.2.2.2.2.2.2.2.2.2.2.2.2.1 s hs), RTp_fr hF (by decide) h.2.2.2.2.2.2.2.2.2.2.2.2.2.2.2.1, RRe_fr hF (by decide) h.2.2.2.2.2.2.2.2.2.2.2.2.2.2.2.2.1, fun s hs => RDn_fr hF (by decide) (h.2.2.2.2.2.2.2.2.2.2.2.2.2.2.2.2.2.1 s hs), RSum_fr hF (by decide) h.2.2.2.2.2.2.2.2.2.2.2.2.2.2.2.2.2.2.1, h.2.2.2.2.2.2.2.2.2.2.2.2.2.2.2.2.2.2.2.1, h.2.2.2.2.2.2.2.2.2.2.2.2.2.2.2.2.2.2.2.2.1, h.2.2.2.2.2.2.2.2.2.2.2.2.2.2.2.2.2.2.2.2.2.1, h.2.2.2.2.2.2.2.2.2.2.2.2.2.2.2.2.2.2.2.2.2.2.1, hld⟩
  · exact ⟨RSc_I h.1, RWay_fr hF (by decide) h.2.1, fun s hs => RWt_fr hF (by decide) (h.2.2.1 s hs), fun l hl => RLt_fr hF (by decide) (h.2.2.2.1 l hl), fun s hs => RLog_fr hF (by decide) (h.2.2.2.2.1 s hs), fun s hs => RDk_fr hF (by decide) (h.2.2.2.2.2.1 s hs), fun s hs => RSl_fr hF (by decide) (h.2.2.2.2.2.2.1 s hs), fun s hs hu => RCh_fr hF (by decide) (h.2.2.2.2.2.2.2.1 s hs hu), fun s hs hu => RAt_fr hF (by decide) (h.2.2.2.2.2.2.2.2.1 s hs hu), fun s hs => RMc_fr hF (by decide) (h.2.2.2.2.2.2.2.2.2.1 s hs), fun s hs => RSh_fr hF (by decide) (h.2.2.2.2.2.2.2.2.2.2.1 s hs), fun s hs => RPc_fr hF (by decide) (h.2.2.2.2.2.2.2.2.2.2.2.1 s hs), fun s hs => RRq_fr hF (by decide) (h.2.2.2.2.2.2.2.2.2.2.2.2.1 s hs), RAk_fr hF (by decide) h.2.2.2.2.2.2.2.2.2.2.2.2.2.1, fun s hs => RWn_fr hF (by decide) (h.2.2.2.2.2.2.2.2.2.2.2.2.2.2.1 s hs), RTp_fr hF (by decide) h.2.2.2.2.2.2.2.2.2.2.2.2.2.2.2.1, RRe_fr hF (by decide) h.2.2.2.2.2.2.2.2.2.2.2.2.2.2.2.2.1, fun s hs => RDn_fr hF (by decide) (h.2.2.2.2.2.2.2.2.2.2.2.2.2.2.2.2.2.1 s hs), RSum_fr hF (by decide) h.2.2.2.2.2.2.2.2.2.2.2.2.2.2.2.2.2.2.1, h.2.2.2.2.2.2.2.2.2.2.2.2.2.2.2.2.2.2.2.1, h.2.2.2.2.2.2.2.2.2.2.2.2.2.2.2.2.2.2.2.2.1, h.2.2.2.2.2.2.2.2.2.2.2.2.2.2.2.2.2.2.2.2.2.1, h.2.2.2.2.2.2.2.2.2.2.2.2.2.2.2.2.2.2.2.2.2.2.1, hld⟩
  · exact ⟨RSc_I h.1, RWay_fr hF (by decide) h.2.1, fun s hs => RWt_fr hF (by decide) (h.2.2.1 s hs), fun l hl => RLt_fr hF (by decide) (h.2.2.2.1 l hl), fun s hs => RLog_fr hF (by decide) (h.2.2.2.2.1 s hs), fun s hs => RDk_fr hF (by decide) (h.2.2.2.2.2.1 s hs), fun s hs => RSl_fr hF (by decide) (h.2.2.2.2.2.2.1 s hs), fun s hs hu => RCh_fr hF (by decide) (h.2.2.2.2.2.2.2.1 s hs hu), fun s hs hu => RAt_fr hF (by decide) (h.2.2.2.2.2.2.2.2.1 s hs hu), fun s hs => RMc_fr hF (by decide) (h.2.2.2.2.2.2.2.2.2.1 s hs), fun s hs => RSh_fr hF (by decide) (h.2.2.2.2.2.2.2.2.2.2.1 s hs), fun s hs => RPc_fr hF (by decide) (h.2.2.2.2.2.2.2.2.2.2.2.1 s hs), fun s hs => RRq_fr hF (by decide) (h.2.2.2.2.2.2.2.2.2.2.2.2.1 s hs), RAk_fr hF (by decide) h.2.2.2.2.2.2.2.2.2.2.2.2.2.1, fun s hs => RWn_fr hF (by decide) (h.2.2.2.2.2.2.2.2.2.2.2.2.2.2.1 s hs), RTp_fr hF (by decide) h.2.2.2.2.2.2.2.2.2.2.2.2.2.2.2.1, RRe_fr hF (by decide) h.2.2.2.2.2.2.2.2.2.2.2.2.2.2.2.2.1, fun s hs => RDn_fr hF (by decide) (h.2.2.2.2.2.2.2.2.2.2.2.2.2.2.2.2.2.1 s hs), RSum_fr hF (by decide) h.2.2.2.2.2.2.2.2.2.2.2.2.2.2.2.2.2.2.1, h.2.2.2.2.2.2.2.2.2.2.2.2.2.2.2.2.2.2.2.1, h.2.2.2.2.2.2.2.2.2.2.2.2.2.2.2.2.2.2.2.2.1, h.2.2.2.2.2.2.2.2.2.2.2.2.2.2.2.2.2.2.2.2.2.1, h.2.2.2.2.2.2.2.2.2.2.2.2.2.2.2.2.2.2.2.2.2.2.1, hld⟩
