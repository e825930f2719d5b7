/-! letters that wait are posted -/
section GHOST
variable {s : Nat} {l : List Nat}
/-- the memory with another list of waiting letters -/
def gh (s : Nat) (l : List Nat) (c : CS) : CS := (c.1, c.2.1, c.2.2.1, (fun a b x => if a = 13 ∧ b = s ∧ x = 7 then l else c.2.2.2.1 a b x), c.2.2.2.2.1, c.2.2.2.2.2)
theorem gb1 {x : Option CS} {f f' : CS → Option CS} (h : ∀ c, f' (gh s l c) = (f c).map (gh s l)) : (x.map (gh s l)).bind f' = (x.bind f).map (gh s l) := by
  cases x with
  | none => rfl
  | some c => exact h c
theorem gb2 {α : Type} {x : Option (α × CS)} {f f' : α × CS → Option CS} (h : ∀ p, f' (p.1, gh s l p.2) = (f p).map (gh s l)) : (x.map (fun p => (p.1, gh s l p.2))).bind f' = (x.bind f).map (gh s l) := by
  cases x with
  | none => rfl
  | some p => exact h p
theorem gbI {c : CS} {a i f j : Nat} {x : Int32} {k k' : CS → Option CS} (h : k' (gh s l (csI c a i f j x)) = (k (csI c a i f j x)).map (gh s l)) : (some (csI (gh s l c) a i f j x)).bind k' = ((some (csI c a i f j x)).bind k).map (gh s l) := h
theorem csS_gh {c : CS} {i f n : Nat} {L : List Nat} {T : Nat × Nat} : csS (gh s l c) 14 i f L n T = gh s l (csS c 14 i f L n T) := by
  refine Prod.ext rfl (Prod.ext rfl (Prod.ext rfl (Prod.ext (funext fun a => funext fun b => funext fun x => ?_) rfl)))
  show (if a = 14 ∧ b = i ∧ x = f then L else if a = 13 ∧ b = s ∧ x = 7 then l else c.2.2.2.1 a b x) = (if a = 13 ∧ b = s ∧ x = 7 then l else if a = 14 ∧ b = i ∧ x = f then L else c.2.2.2.1 a b x)
  by_cases q : a = 13 ∧ b = s ∧ x = 7
  · rw [if_neg (fun z => by omega), if_pos q, if_pos q]
  · rw [if_neg q, if_neg q]
theorem clput_gh {c : CS} {f : Nat} {L : List Nat} : clput (gh s l c) 14 0 f L = (clput c 14 0 f L).map (gh s l) := by
  have e1 : cL (gh s l c) 14 0 f = cL c 14 0 f := rfl
  have e2 : cS (gh s l c) 14 0 f = cS c 14 0 f := rfl
  have e3 : cT (gh s l c) = cT c := rfl
  unfold clput
  rw [e1, e2, e3, csS_gh, csS_gh]
  by_cases q : 100000 < cL c 14 0 f
  · rw [if_pos q, if_pos q]
    rfl
  · rw [if_neg q, if_neg q]
    by_cases q2 : (cS c 14 0 f).length < cL c 14 0 f
    · rw [if_pos q2, if_pos q2]
      rfl
    · rw [if_neg q2, if_neg q2]
      rfl
theorem clins_gh {c : CS} {f ad : Nat} {j : Int32} : clins (gh s l c) 14 0 f j ad = (clins c 14 0 f j ad).map (gh s l) := by
  have e2 : cS (gh s l c) 14 0 f = cS c 14 0 f := rfl
  unfold clins
  rw [e2, clput_gh]
  by_cases q : j < 0 ∨ (cS c 14 0 f).length < j.toNatClampNeg
  · rw [if_pos q, if_pos q]
    rfl
  · rw [if_neg q, if_neg q]
theorem ccpy_gh {c : CS} {a i f a' i' f' : Nat} {x y z : Int32} : ccpy (gh s l c) a i f x a' i' f' y z = (ccpy c a i f x a' i' f' y z).map (gh s l) := by
  have e1 : cal (gh s l c) = cal c := rfl
  have e2 : cI (gh s l c) = cI c := rfl
  unfold ccpy
  rw [e1, e2]
  split
  · rfl
  · rfl
theorem lose_gh {c : CS} {ad : Nat} : k_World_lose (gh s l c) 0 ad = (k_World_lose c 0 ad).map (gh s l) := by
  show (clput (gh s l (csI c 14 0 4 0 (cI c 14 0 4 0 + 1))) 14 0 16 (cS c 14 0 16 ++ [ad])).bind (fun σ4 => some σ4) = ((clput (csI c 14 0 4 0 (cI c 14 0 4 0 + 1)) 14 0 16 (cS c 14 0 16 ++ [ad])).bind (fun σ4 => some σ4)).map (gh s l)
  rw [clput_gh]
  exact gb1 (fun _ => rfl)
theorem launchL_gh {F ad : Nat} {t : Int32} : ∀ (n : Nat) (c : CS) (j : Int32), k_World_launch_b74 F n (gh s l c) 0 ad t j = (k_World_launch_b74 F n c 0 ad t j).map (gh s l) := by
  intro n
  induction n with
  | zero => exact fun _ _ => rfl
  | succ n ih =>
    intro c j
    unfold k_World_launch_b74
    dsimp only
    unfold k_World_launch_b104
    have e3 : (clins (gh s l c) 14 0 15 j ad).bind (fun σ2 => some σ2) = ((clins c 14 0 15 j ad).bind (fun σ2 => some σ2)).map (gh s l) := by
      rw [clins_gh]
      exact gb1 (fun _ => rfl)
    rw [e3]
    by_cases q : xc0 .le j = true
    · rw [if_pos q, if_pos q]
    · rw [if_neg q, if_neg q]
      have e4 : clget (gh s l c) 14 0 15 (j - 1) = clget c 14 0 15 (j - 1) := rfl
      rw [e4]
      cases clget c 14 0 15 (j - 1) with
      | none => rfl
      | some x =>
        show (if xc2 .le (cI c 8 x 0 0) t = true then _ else _) = Option.map (gh s l) (if xc2 .le (cI c 8 x 0 0) t = true then _ else _)
        by_cases q2 : xc2 .le (cI c 8 x 0 0) t = true
        · rw [if_pos q2, if_pos q2]
        · rw [if_neg q2, if_neg q2]
          exact ih c (j + -1)
theorem launch_gh {F : Nat} {c : CS} {ad : Nat} {t : Int32} : k_World_launch F (gh s l c) 0 ad t = (k_World_launch F c 0 ad t).map (gh s l) := by
  unfold k_World_launch k_World_launch_b0
  have e1 : clsz (gh s l c) 14 0 15 = clsz c 14 0 15 := rfl
  rw [e1]
  by_cases q : xc2 .lt (clsz c 14 0 15) 128 = true
  · rw [if_pos q, if_pos q]
    have n0 : ∀ C : CS, clsz (gh s l C) 14 0 15 = clsz C 14 0 15 := fun _ => rfl
    refine gbI (gbI (gbI (gbI ?_)))
    rw [n0]
    exact launchL_gh F _ _
  · rw [if_neg q, if_neg q]
    show (clput (gh s l (csI c 14 0 4 0 (cI c 14 0 4 0 + 1))) 14 0 16 (cS c 14 0 16 ++ [ad])).bind (fun σ4 => some σ4) = ((clput (csI c 14 0 4 0 (cI c 14 0 4 0 + 1)) 14 0 16 (cS c 14 0 16 ++ [ad])).bind (fun σ4 => some σ4)).map (gh s l)
    rw [clput_gh]
    exact gb1 (fun _ => rfl)
theorem drawn_gh {c : CS} {m : Int32} : k_World_drawn (gh s l c) 0 m = (k_World_drawn c 0 m).map (fun p => (p.1, gh s l p.2)) := by
  unfold k_World_drawn k_World_drawn_b0 k_World_drawn_b36
  by_cases q : xc2 .ge m 1 = true
  · by_cases q2 : m.toInt64 = 0
    · show (if xc2 .ge m 1 = true then (if m.toInt64 = 0 then none else _) else _) = Option.map _ (if xc2 .ge m 1 = true then (if m.toInt64 = 0 then none else _) else _)
      rw [if_pos q, if_pos q, if_pos q2, if_pos q2]
      rfl
    · show (if xc2 .ge m 1 = true then (if m.toInt64 = 0 then none else _) else _) = Option.map _ (if xc2 .ge m 1 = true then (if m.toInt64 = 0 then none else _) else _)
      rw [if_pos q, if_pos q, if_neg q2, if_neg q2]
      rfl
  · show (if xc2 .ge m 1 = true then _ else _) = Option.map _ (if xc2 .ge m 1 = true then _ else _)
    rw [if_neg q, if_neg q]
    rfl
theorem copy_gh {c : CS} {a b : Nat} : k_Letter_copyFrom (gh s l c) a b = (k_Letter_copyFrom c a b).map (gh s l) := by
  unfold k_Letter_copyFrom k_Letter_copyFrom_b0
  have key : ∀ C : CS, ((ccpy (gh s l C) 8 b 18 0 8 a 18 0 (Int32.ofNat (cal (gh s l C) 8 a 18))).bind fun σ33 => (ccpy σ33 8 b 19 0 8 a 19 0 (Int32.ofNat (cal σ33 8 a 19))).bind fun σ35 => some σ35) = ((ccpy C 8 b 18 0 8 a 18 0 (Int32.ofNat (cal C 8 a 18))).bind fun σ33 => (ccpy σ33 8 b 19 0 8 a 19 0 (Int32.ofNat (cal σ33 8 a 19))).bind fun σ35 => some σ35).map (gh s l) := by
    intro C
    rw [ccpy_gh]
    refine gb1 (fun c2 => ?_)
    rw [ccpy_gh]
    exact gb1 (fun _ => rfl)
  refine gbI (gbI (gbI (gbI (gbI (gbI (gbI (gbI (gbI (gbI (gbI (gbI (gbI (gbI (gbI (gbI ?_)))))))))))))))
  exact key _
theorem post172_gh {F : Nat} {c : CS} {ad : Nat} {t : Int32} {o : Option Nat} : k_World_post_b172 F (gh s l c) 0 ad t o = (k_World_post_b172 F c 0 ad t o).map (gh s l) := by
  unfold k_World_post_b172 k_World_post_b212
  have e1 : cI (gh s l c) 14 0 8 0 = cI c 14 0 8 0 := rfl
  rw [e1, drawn_gh]
  refine gb2 (fun p => ?_)
  dsimp only
  rw [launch_gh]
  refine gb1 (fun c4 => ?_)
  by_cases q : o = none
  · rw [if_pos q, if_pos q]
    rfl
  · rw [if_neg q, if_neg q]
    have e2 : cI (gh s l c4) 14 0 8 0 = cI c4 14 0 8 0 := rfl
    rw [e2, drawn_gh]
    refine gb2 (fun p10 => ?_)
    cases o with
    | none => rfl
    | some x =>
      show (k_World_launch F (gh s l p10.2) 0 x (t + p10.1)).bind (fun p15 => some p15) = ((k_World_launch F p10.2 0 x (t + p10.1)).bind (fun p15 => some p15)).map (gh s l)
      rw [launch_gh]
      exact gb1 (fun _ => rfl)
theorem post159_gh {F : Nat} {c : CS} {ad : Nat} {t : Int32} {o : Option Nat} : k_World_post_b159 F (gh s l c) o 0 ad t = (k_World_post_b159 F c o 0 ad t).map (gh s l) := by
  unfold k_World_post_b159
  by_cases q : o = none
  · rw [if_pos q, if_pos q]
    exact post172_gh
  · rw [if_neg q, if_neg q]
    cases o with
    | none => rfl
    | some x =>
      show (k_Letter_copyFrom (gh s l c) x ad).bind (fun p29 => k_World_post_b172 F p29 0 ad t (some x)) = ((k_Letter_copyFrom c x ad).bind (fun p29 => k_World_post_b172 F p29 0 ad t (some x))).map (gh s l)
      rw [copy_gh]
      exact gb1 (fun _ => post172_gh)
theorem clrem_gh {c : CS} {j : Int32} : clrem (gh s l c) 14 0 16 j = (clrem c 14 0 16 j).map (fun p => (p.1, gh s l p.2)) := by
  unfold clrem
  have e4 : clget (gh s l c) 14 0 16 j = clget c 14 0 16 j := rfl
  have e5 : cS (gh s l c) 14 0 16 = cS c 14 0 16 := rfl
  have e6 : cL (gh s l c) 14 0 16 = cL c 14 0 16 := rfl
  have e7 : cT (gh s l c) = cT c := rfl
  rw [e4, e5, e6, e7]
  cases clget c 14 0 16 j with
  | none => rfl
  | some x =>
    show some (x, csS (gh s l c) 14 0 16 ((cS c 14 0 16).eraseIdx j.toNatClampNeg) (cL c 14 0 16) (cT c)) = some (x, gh s l (csS c 14 0 16 ((cS c 14 0 16).eraseIdx j.toNatClampNeg) (cL c 14 0 16) (cT c)))
    rw [csS_gh]
theorem post111_gh {F : Nat} {c : CS} {ad : Nat} {t b : Int32} : k_World_post_b111 F (gh s l c) b 0 ad t = (k_World_post_b111 F c b 0 ad t).map (gh s l) := by
  unfold k_World_post_b111
  have e1 : clemp (gh s l c) 14 0 16 = clemp c 14 0 16 := rfl
  have e2 : clsz (gh s l c) 14 0 16 = clsz c 14 0 16 := rfl
  rw [e1, e2]
  by_cases q : xc0 .ne b = true
  · rw [if_pos q, if_pos q]
    by_cases q2 : xc0 .eq (clemp c 14 0 16) = true
    · rw [if_pos q2, if_pos q2, clrem_gh]
      exact gb2 (fun p => post159_gh)
    · rw [if_neg q2, if_neg q2]
      exact post159_gh (c := csN c)
  · rw [if_neg q, if_neg q]
    exact post159_gh
theorem post72_gh {F : Nat} {c : CS} {ad : Nat} {t : Int32} : k_World_post_b72 F (gh s l c) 0 ad t = (k_World_post_b72 F c 0 ad t).map (gh s l) := by
  unfold k_World_post_b72
  rw [drawn_gh]
  refine gb2 (fun p => ?_)
  have e1 : cI (gh s l p.2) 14 0 6 0 = cI p.2 14 0 6 0 := rfl
  dsimp only
  rw [e1]
  by_cases q : xc2 .ge p.1 (cI p.2 14 0 6 0) = true
  · rw [if_pos q, if_pos q, drawn_gh]
    refine gb2 (fun p2 => ?_)
    have e2 : cI (gh s l p2.2) 14 0 7 0 = cI p2.2 14 0 7 0 := rfl
    dsimp only
    rw [e2]
    by_cases q2 : xc2 .ge p2.1 (cI p2.2 14 0 7 0) = true
    · rw [if_pos q2, if_pos q2]
      exact post111_gh
    · rw [if_neg q2, if_neg q2]
      exact post111_gh
  · rw [if_neg q, if_neg q, lose_gh]
    exact gb1 (fun _ => rfl)
theorem post_gh {F : Nat} {c : CS} {ad : Nat} : k_World_post F (gh s l c) 0 ad = (k_World_post F c 0 ad).map (gh s l) := by
  unfold k_World_post k_World_post_b0
  have e1 : k_World_areParted (gh s l c) 0 (cI (gh s l c) 8 ad 2 0) (cI (gh s l c) 8 ad 3 0) = k_World_areParted c 0 (cI c 8 ad 2 0) (cI c 8 ad 3 0) := rfl
  have e2 : crd (gh s l c) 14 0 12 (cI (gh s l c) 8 ad 2 0 * 16 + cI (gh s l c) 8 ad 3 0) = crd c 14 0 12 (cI c 8 ad 2 0 * 16 + cI c 8 ad 3 0) := rfl
  have e6 : cI (gh s l c) 14 0 6 0 = cI c 14 0 6 0 := rfl
  have e7 : cI (gh s l c) 14 0 7 0 = cI c 14 0 7 0 := rfl
  have e8 : cI (gh s l c) 14 0 8 0 = cI c 14 0 8 0 := rfl
  have e0 : cI (gh s l c) 14 0 0 0 = cI c 14 0 0 0 := rfl
  rw [e1, e2, e6, e7, e8, e0, lose_gh]
  cases k_World_areParted c 0 (cI c 8 ad 2 0) (cI c 8 ad 3 0) with
  | none => rfl
  | some x =>
    show (if xc0 .eq x = true then _ else _) = Option.map (gh s l) (if xc0 .eq x = true then _ else _)
    by_cases q : xc0 .eq x = true
    · rw [if_pos q, if_pos q]
      cases crd c 14 0 12 (cI c 8 ad 2 0 * 16 + cI c 8 ad 3 0) with
      | none => rfl
      | some y =>
        show (if xc0 .ne (cI c 14 0 6 0) = true then _ else _) = Option.map (gh s l) (if xc0 .ne (cI c 14 0 6 0) = true then _ else _)
        by_cases q6 : xc0 .ne (cI c 14 0 6 0) = true
        · rw [if_pos q6, if_pos q6]
          exact post72_gh
        · rw [if_neg q6, if_neg q6]
          by_cases q7 : xc0 .ne (cI c 14 0 7 0) = true
          · rw [if_pos q7, if_pos q7]
            exact post72_gh
          · rw [if_neg q7, if_neg q7]
            by_cases q8 : xc0 .ne (cI c 14 0 8 0) = true
            · rw [if_pos q8, if_pos q8]
              exact post72_gh
            · rw [if_neg q8, if_neg q8, launch_gh]
              exact gb1 (fun _ => rfl)
    · rw [if_neg q, if_neg q]
      exact gb1 (fun _ => rfl)
end GHOST
theorem gh_self {c : CS} {s : Nat} : gh s (cS c 13 s 7) c = c := by
  refine Prod.ext rfl (Prod.ext rfl (Prod.ext rfl (Prod.ext (funext fun a => funext fun b => funext fun x => ?_) rfl)))
  show (if a = 13 ∧ b = s ∧ x = 7 then c.2.2.2.1 13 s 7 else c.2.2.2.1 a b x) = c.2.2.2.1 a b x
  by_cases q : a = 13 ∧ b = s ∧ x = 7
  · rw [if_pos q, q.1, q.2.1, q.2.2]
  · rw [if_neg q]
theorem gh_gh {c : CS} {s : Nat} {l l' : List Nat} : gh s l' (gh s l c) = gh s l' c := by
  refine Prod.ext rfl (Prod.ext rfl (Prod.ext rfl (Prod.ext (funext fun a => funext fun b => funext fun x => ?_) rfl)))
  show (if a = 13 ∧ b = s ∧ x = 7 then l' else if a = 13 ∧ b = s ∧ x = 7 then l else c.2.2.2.1 a b x) = if a = 13 ∧ b = s ∧ x = 7 then l' else c.2.2.2.1 a b x
  by_cases q : a = 13 ∧ b = s ∧ x = 7
  · rw [if_pos q, if_pos q]
  · rw [if_neg q, if_neg q, if_neg q]
