/-! who is there stays there; what an object leads to is there -/
theorem cob_mon {c c' : CS} {cl i : Nat} (h : cMon c c') (ho : cob c cl i) : cob c' cl i := by
  obtain ⟨h1, h2, h3⟩ := ho
  refine ⟨h1, h2, ?_⟩
  by_cases q : cl = 8
  · rw [if_pos q] at h3 ⊢; exact h _ h3
  · rw [if_neg q] at h3 ⊢; exact h3
theorem cob_any {c c' : CS} {cl i : Nat} (hq : (cl == 8) = false) (ho : cob c cl i) : cob c' cl i := by
  obtain ⟨h1, h2, h3⟩ := ho
  have q : ¬ cl = 8 := by
    intro e; subst e; cases hq
  refine ⟨h1, h2, ?_⟩
  rw [if_neg q] at h3 ⊢; exact h3
theorem cob8 {c : CS} {a : Nat} (h : clt c a = true) : cob c 8 a := ⟨by omega, by omega, by rw [if_pos rfl]; exact h⟩
theorem clt8 {c : CS} {a : Nat} (h : cob c 8 a) : clt c a = true := by
  have := h.2.2
  rw [if_pos rfl] at this
  exact this
theorem cob_lt {c : CS} {cl i : Nat} (hq : (cl == 8) = false) (ho : cob c cl i) : i < ccnt cl := by
  have q : ¬ cl = 8 := by
    intro e; subst e; cases hq
  have := ho.2.2
  rw [if_neg q] at this
  exact this
theorem cob_of_lt {c : CS} {cl i : Nat} (h1 : 4 ≤ cl ∧ cl ≤ 15) (hq : (cl == 8) = false) (h : i < ccnt cl) : cob c cl i := by
  have q : ¬ cl = 8 := by
    intro e; subst e; cases hq
  refine ⟨h1.1, h1.2, ?_⟩
  rw [if_neg q]
  exact h
theorem cput_mon {c c' : CS} {cl i f j : Nat} {v : Int32} (h : some (csI c cl i f j v) = some c') : cMon c c' := by cases h; exact cMon_r
theorem cputJ_mon {c c' : CS} {cl i f j : Nat} {v : Int64} (h : some (csJ c cl i f j v) = some c') : cMon c c' := by cases h; exact cMon_r
theorem cwr_mon {c c' : CS} {cl i f : Nat} {j v : Int32} (h : cwr c cl i f j v = some c') : cMon c c' := by
  obtain ⟨-, rfl⟩ := cif_s h
  exact cMon_r
theorem cwrJ_mon {c c' : CS} {cl i f : Nat} {j : Int32} {v : Int64} (h : cwrJ c cl i f j v = some c') : cMon c c' := by
  obtain ⟨-, rfl⟩ := cif_s h
  exact cMon_r
theorem cgrow_mon {c c' : CS} {cl i f : Nat} {n : Int32} (h : cgrow c cl i f n = some c') : cMon c c' := by
  obtain ⟨-, rfl⟩ := cif_s h
  exact cMon_r
theorem cext_mon {c c' : CS} {cl i f : Nat} {n : Int32} (h : cext c cl i f n = some c') : cMon c c' := by
  obtain ⟨-, rfl⟩ := cif_s h
  exact cMon_r
theorem ccpy_mon {c c' : CS} {a i f a' i' f' : Nat} {s t n : Int32} (h : ccpy c a i f s a' i' f' t n = some c') : cMon c c' := by
  obtain ⟨-, rfl⟩ := cif_s h
  exact cMon_r
theorem cix_lt {cl f n : Nat} {j : Int32} (h : cix cl f j = some n) : n < cln cl f := by
  obtain ⟨h1, rfl⟩ := cif_s h
  omega
/-- links: an object of a server, of the face -/
theorem cob_s {c : CS} {cl i : Nat} (ho : cob c 13 i) (h1 : 4 ≤ cl ∧ cl ≤ 15) (hq : (cl == 8) = false) (h7 : ccnt cl = 7) : cob c cl i := cob_of_lt h1 hq (by rw [h7]; exact cob_lt (cl := 13) rfl ho)
theorem cob_0 {c : CS} {cl : Nat} (h1 : 4 ≤ cl ∧ cl ≤ 15) (hq : (cl == 8) = false) (h7 : ccnt cl = 1) : cob c cl 0 := cob_of_lt h1 hq (by rw [h7]; omega)
theorem cpg_lt : ∀ j, j < 16 → cpg j < 30 ∧ ckp j < 30 := by decide
theorem cob_pg {c : CS} {i n : Nat} (ho : cob c 6 i) (hn : n < 16) : cob c 11 (30 * i + cpg n) ∧ cob c 11 (30 * i + ckp n) := by
  have h := cob_lt (cl := 6) rfl ho
  have e : ccnt 6 = 7 := rfl
  have e2 : ccnt 11 = 210 := rfl
  obtain ⟨h1, h2⟩ := cpg_lt n hn
  exact ⟨cob_of_lt ⟨by omega, by omega⟩ rfl (by omega), cob_of_lt ⟨by omega, by omega⟩ rfl (by omega)⟩
/-- what the class's methods ask of pF -/
def xNPc (pF : Nat → List Value → xH → Option (Option Value × xH)) : Prop := ∀ y, (15 ≤ y ∧ y ≤ 239) ∨ y = 390 ∨ y = 392 ∨ y = 393 ∨ y = 394 ∨ y = 395 ∨ y = 398 → ∀ as h, pF y as h = none
def lcAll (pF : Nat → List Value → xH → Option (Option Value × xH)) : Prop := ∀ d, lcSz pF (d + 8) ∧ lcEmp pF (d + 8) ∧ lcGet pF (d + 8) ∧ lcAdd pF (d + 8) ∧ lcIns pF (d + 8) ∧ lcRem pF (d + 8) ∧ lcClr pF (d + 8)
