/-! Disk's constructor: a page, the loop -/
section CD2
variable {pF : Nat → List Value → xH → Option (Option Value × xH)} {d : Nat} {ret : Option FieldType} {rr : Option Value} {hh : xH} {lv : xL} {st : List Value} {G : Nat → xC} {b u : Nat} {hd : List xC}
/-- new Page() -/
theorem b_page (hp0 : xNPc pF) {pc p1 p2 p3 p : Nat} (hh6 : hd.length = 6) (hl1 : xAt kT40 pc (.new 9) p1) (hl2 : xAt kT40 p1 .dup p2) (hl3 : xAt kT40 p2 (.invokespecial 37) p3) (hc : xcat (.ref (b + (6 + 4 * p)) :: st) ≤ 8)
    (kk : xR pF (d + 1) kT40 6 2 true ret rr hh (p3, lv, .ref (b + (6 + 4 * p)) :: st, (hbl G b (hd ++ pgs b (p + 1)), b + (6 + 4 * (p + 1)), pgu u (p + 1)))) :
    xR pF (d + 1) kT40 6 2 true ret rr hh (pc, lv, st, (hbl G b (hd ++ pgs b p), b + (6 + 4 * p), pgu u p)) := by
  have hN : (hd ++ pgs b p).length = 6 + 4 * p := by rw [List.length_append, hh6, pgs_len]
  refine bE_new (ci := 11) (N := 6 + 4 * p) hl1 (by decide +kernel) (by decide +kernel) hN ?_
  refine eE_dup hl2 rfl ?_
  refine bE_init (as := []) (n := 0) (y := 108) (m := 4) (ci := 11) (F := c108_F (b + (6 + 4 * p))) (u' := pgu u (p + 1)) hl3 (by decide +kernel) (by decide +kernel) rfl rfl hc (by decide +kernel) hN (c108_ok (d := d) hp0) ?_
  rw [List.append_assoc]
  exact kk
theorem cpg_s {k : Nat} (h : k < 2 ∨ 4 ≤ k) : cpg (k + 1) = cpg k + 2 ∧ ckp k = cpg k + 1 := by
  unfold cpg ckp
  rcases h with h | h
  · have : k = 0 ∨ k = 1 := by omega
    rcases this with rfl | rfl <;> exact ⟨rfl, rfl⟩
  · rw [if_neg (by omega), if_neg (by omega), if_neg (by omega), if_neg (by omega), if_neg (by omega), if_neg (by omega), if_neg (by omega), if_neg (by omega), if_neg (by omega)]
    omega
theorem cpg_t {k : Nat} (h : 2 ≤ k ∧ k < 4) : cpg (k + 1) = cpg k + 1 ∧ ckp k = cpg k := by
  have : k = 2 ∨ k = 3 := by omega
  rcases this with rfl | rfl <;> exact ⟨rfl, rfl⟩
/-- the two arrays of pages, k places written -/
def pga (b k : Nat) : Nat → Value := fun y => if y < k then .ref (b + (6 + 4 * cpg y)) else .null
def pgb (b k : Nat) : Nat → Value := fun y => if y < k then .ref (b + (6 + 4 * ckp y)) else .null
theorem pga_s (b k : Nat) : updV (pga b k) k (.ref (b + (6 + 4 * cpg k))) = pga b (k + 1) := by
  funext y
  show (if y = k then _ else if y < k then _ else _) = (if y < k + 1 then _ else _)
  by_cases h : y = k
  · rw [if_pos h, if_pos (by omega), h]
  · rw [if_neg h]
    by_cases h2 : y < k
    · rw [if_pos h2, if_pos (by omega)]
    · rw [if_neg h2, if_neg (by omega)]
theorem pgb_s (b k : Nat) : updV (pgb b k) k (.ref (b + (6 + 4 * ckp k))) = pgb b (k + 1) := by
  funext y
  show (if y = k then _ else if y < k then _ else _) = (if y < k + 1 then _ else _)
  by_cases h : y = k
  · rw [if_pos h, if_pos (by omega), h]
  · rw [if_neg h]
    by_cases h2 : y < k
    · rw [if_pos h2, if_pos (by omega)]
    · rw [if_neg h2, if_neg (by omega)]
end CD2
