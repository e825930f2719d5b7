/-! who is there stays there; what an object leads to is there -/
theorem cob_mon {c c' : CS} {cl i : Nat} (h : cMon c c') (ho : cob c cl i) : cob c' cl i := by
  obtain ⟨h1, h2, h3⟩ := ho
  refine ⟨h1, h2, ?_⟩
  by_cases q : cl = 8
  · rw [if_pos q] at h3 ⊢; exact h _ h3
  · rw [if_neg q] at h3 ⊢; exact h3
theorem cob_any {c c' : CS} {cl i : Nat} (hq : (cl == 8) = false) (ho : cob c cl i) : cob c' cl i := by
  obtain ⟨h1, h2, h3⟩ := ho
  have q : ¬ cl = 8 := by
    intro e; subst e; cases hq
  refine ⟨h1, h2, ?_⟩
  rw [if_neg q] at h3 ⊢; exact h3
theorem cob8 {c : CS} {a : Nat} (h : clt c a = true) : cob c 8 a := ⟨by omega, by omega, by rw [if_pos rfl]; exact h⟩
theorem clt8 {c : CS} {a : Nat} (h : cob c 8 a) : clt c a = true := by
  have := h.2.2
  rw [if_pos rfl] at this
  exact this
theorem cob_lt {c : CS} {cl i : Nat} (hq : (cl == 8) = false) (ho : cob c cl i) : i < ccnt cl := by
  have q : ¬ cl = 8 := by
    intro e; subst e; cases hq
  have := ho.2.2
  rw [if_neg q] at this
  exact this
theorem cob_of_lt {c : CS} {cl i : Nat} (h1 : 4 ≤ cl ∧ cl ≤ 15) (hq : (cl == 8) = false) (h : i < ccnt cl) : cob c cl i := by
  have q : ¬ cl = 8 := by
    intro e; subst e; cases hq
  refine ⟨h1.1, h1.2, ?_⟩
  rw [if_neg q]
  exact h
theorem cput_mon {c c' : CS} {cl i f j : Nat} {v : Int32} (h : some (csI c cl i f j v) = some c') : cMon c c' := by cases h; exact cMon_r
theorem cputJ_mon {c c' : CS} {cl i f j : Nat} {v : Int64} (h : some (csJ c cl i f j v) = some c') : cMon c c' := by cases h; exact cMon_r
theorem cwr_mon {c c' : CS} {cl i f : Nat} {j v : Int32} (h : cwr c cl i f j v = some c') : cMon c c' := by
  obtain ⟨-, rfl⟩ := cif_s h
  exact cMon_r
theorem cwrJ_mon {c c' : CS} {cl i f : Nat} {j : Int32} {v : Int64} (h : cwrJ c cl i f j v = some c') : cMon c c' := by
  obtain ⟨-, rfl⟩ := cif_s h
  exact cMon_r
theorem cgrow_mon {c c' : CS} {cl i f : Nat} {n : Int32} (h : cgrow c cl i f n = some c') : cMon c c' := by
  obtain ⟨-, rfl⟩ := cif_s h
  exact cMon_r
theorem cext_mon {c c' : CS} {cl i f : Nat} {n : Int32} (h : cext c cl i f n = some c') : cMon c c' := by
  obtain ⟨-, rfl⟩ := cif_s h
  exact cMon_r
theorem ccpy_mon {c c' : CS} {a i f a' i' f' : Nat} {s t n : Int32} (h : ccpy c a i f s a' i' f' t n = some c') : cMon c c' := by
  obtain ⟨-, rfl⟩ := cif_s h
  exact cMon_r
theorem cix_lt {cl f n : Nat} {j : Int32} (h : cix cl f j = some n) : n < cln cl f := by
  obtain ⟨h1, rfl⟩ := cif_s h
  omega
/-- links: an object of a server, of the face -/
theorem cob_s {c : CS} {cl i : Nat} (ho : cob c 13 i) (h1 : 4 ≤ cl ∧ cl ≤ 15) (hq : (cl == 8) = false) (h7 : ccnt cl = 7) : cob c cl i := cob_of_lt h1 hq (by rw [h7]; exact cob_lt (cl := 13) rfl ho)
theorem cob_0 {c : CS} {cl : Nat} (h1 : 4 ≤ cl ∧ cl ≤ 15) (hq : (cl == 8) = false) (h7 : ccnt cl = 1) : cob c cl 0 := cob_of_lt h1 hq (by rw [h7]; omega)
theorem cpg_lt : ∀ j, j < 16 → cpg j < 30 ∧ ckp j < 30 := by decide
theorem cob_pg {c : CS} {i n : Nat} (ho : cob c 6 i) (hn : n < 16) : cob c 11 (30 * i + cpg n) ∧ cob c 11 (30 * i + ckp n) := by
  have h := cob_lt (cl := 6) rfl ho
  have e : ccnt 6 = 7 := rfl
  have e2 : ccnt 11 = 210 := rfl
  obtain ⟨h1, h2⟩ := cpg_lt n hn
  exact ⟨cob_of_lt ⟨by omega, by omega⟩ rfl (by omega), cob_of_lt ⟨by omega, by omega⟩ rfl (by omega)⟩
/-- what the class's methods ask of pF -/
def xNPc (pF : Nat → List Value → xH → Option (Option Value × xH)) : Prop := ∀ y, (15 ≤ y ∧ y ≤ 239) ∨ y = 390 ∨ y = 392 ∨ y = 393 ∨ y = 394 ∨ y = 395 ∨ y = 398 → ∀ as h, pF y as h = none
def lcAll (E0 : CE) (pF : Nat → List Value → xH → Option (Option Value × xH)) : Prop := ∀ d, lcSz pF (d + 9) ∧ lcEmp pF (d + 9) ∧ lcGet pF (d + 9) ∧ lcAdd E0 pF (d + 9) ∧ lcIns E0 pF (d + 9) ∧ lcRem pF (d + 9) ∧ lcClr pF (d + 9)
def cputZ (c : CS) (cl i f : Nat) (v : Int32) : Option CS := if v = 0 ∨ v = 1 then some (csI c cl i f 0 v) else none
theorem cputZ_mon {c c' : CS} {cl i f : Nat} {v : Int32} (h : cputZ c cl i f v = some c') : cMon c c' := by
  unfold cputZ at h
  split at h
  · exact cput_mon h
  · cases h
theorem clput_mon {c c' : CS} {cl i f : Nat} {l : List Nat} (h : clput c cl i f l = some c') : cMon c c' := by
  unfold clput at h
  split at h
  · cases h
  · split at h <;> (cases h; exact cMon_r)
theorem cladd_mon {c c' : CS} {cl i f a : Nat} (h : cladd c cl i f a = some c') : cMon c c' := clput_mon h
theorem clins_mon {c c' : CS} {cl i f a : Nat} {j : Int32} (h : clins c cl i f j a = some c') : cMon c c' := by
  unfold clins at h
  split at h
  · cases h
  · exact clput_mon h
theorem clrem_mon {c : CS} {cl i f : Nat} {j : Int32} {p : Nat × CS} (h : clrem c cl i f j = some p) : cMon c p.2 := by
  obtain ⟨a, -, h2⟩ := Option.bind_eq_some_iff.mp h
  cases h2
  exact cMon_r
theorem clrem_lt {E : CE} {g : CG} {c : CS} {h : xH} {cl i f : Nat} {j : Int32} {p : Nat × CS} (hc : CRep E g c h) (hr : clrem c cl i f j = some p) : cob p.2 8 p.1 := by
  obtain ⟨a, h1, h2⟩ := Option.bind_eq_some_iff.mp hr
  cases h2
  have h3 := clget_lt hc h1
  exact cob8 h3
theorem lcClr_s {E : CE} {g : CG} {c c' : CS} {pF : Nat → List Value → xH → Option (Option Value × xH)} {d cl i f : Nat} (h : lcClr pF d) (hk : cK cl f = 5) (ho : cob c cl i) (hx : some (clclr c cl i f) = some c') : cCo E cQ1 pF d 3 [.ref (car E g cl i f)] none c' g c := by
  cases hx
  exact h E g c cl i f hk ho
theorem clclr_mon {c c' : CS} {cl i f : Nat} (hx : some (clclr c cl i f) = some c') : cMon c c' := by
  cases hx
  exact cMon_r
/-- Arrays.fill -/
def csfill (c : CS) (cl i f : Nat) (v : Int32) : CS := csA c cl i f (fun y => if y < cal c cl i f then v else cI c cl i f y)
def csfillr (c : CS) (cl i f : Nat) (a b v : Int32) : Option CS := if a < 0 ∨ b < a ∨ cal c cl i f < b.toNatClampNeg then none else some (csA c cl i f (fun y => if a.toNatClampNeg ≤ y ∧ y < b.toNatClampNeg then v else cI c cl i f y))
def lcFill (pF : Nat → List Value → xH → Option (Option Value × xH)) (d : Nat) : Prop := ∀ E g c c' cl i f v, cK cl f = 2 → ctag cl f = 20 → cob c cl i → some (csfill c cl i f v) = some c' → cCo E cQ1 pF d 393 [.ref (car E g cl i f), .int v] none c' g c
def lcFillr (pF : Nat → List Value → xH → Option (Option Value × xH)) (d : Nat) : Prop := ∀ E g c c' cl i f a b v, cK cl f = 2 → ctag cl f = 20 → cob c cl i → csfillr c cl i f a b v = some c' → cCo E cQ1 pF d 394 [.ref (car E g cl i f), .int a, .int b, .int v] none c' g c
theorem csfill_mon {c c' : CS} {cl i f : Nat} {v : Int32} (hx : some (csfill c cl i f v) = some c') : cMon c c' := by
  cases hx
  exact cMon_r
theorem csfillr_mon {c c' : CS} {cl i f : Nat} {a b v : Int32} (h : csfillr c cl i f a b v = some c') : cMon c c' := by
  obtain ⟨-, rfl⟩ := cif_s h
  exact cMon_r
def lcF (pF : Nat → List Value → xH → Option (Option Value × xH)) : Prop := ∀ d, lcFill pF (d + 9) ∧ lcFillr pF (d + 9)
section CRZ
variable {E : CE} {Q : Nat → Bool} {pF : Nat → List Value → xH → Option (Option Value × xH)} {d : Nat} {k : xK} {o nL : Nat} {pc np : Nat} {lv lv' : xL} {st : List Value} {ret : Option FieldType} {rr : Option Value} {cf c c' : CS} {g : CG}
theorem cR_putZ {idx cl i f : Nat} {v : Int32} (hl : xAt k pc (.putfield idx) np) (hf : xfR o idx = some (cl, f)) (hk : cK cl f = 0) (ho : cob c cl i) (hp : f < (xCl cl).2.2 ∧ ((xCl cl).2.1 f).2.2.2 = false ∧ xfty cl f = some .boolean) (hc' : cputZ c cl i f v = some c') (kk : cR E Q pF d k o nL ret rr cf g c' (np, lv, st)) : cR E Q pF d k o nL ret rr cf g c (pc, lv, .int v :: .ref (coa E cl i) :: st) := by
  unfold cputZ at hc'
  split at hc'
  next q =>
    refine cR_putI hl hf hk ho hp ?_ hc' kk
    rcases q with rfl | rfl <;> rfl
  next => cases hc'
/-- the range of a static method's memory: it is not needed -/
theorem cR_tsw {dd lo hi : Int} {offs : Array Int} {x : Int32} {off : Int} {t : Nat} (hl : xAt k pc (.tableswitch dd lo hi offs) np) (hx : ¬ (x.toInt < lo ∨ hi < x.toInt)) (ho : offs[(x.toInt - lo).toNat]? = some off) (ht : (pc : Int) + off = (t : Int)) (kk : cR E Q pF d k o nL ret rr cf g c (t, lv, st)) : cR E Q pF d k o nL ret rr cf g c (pc, lv, .int x :: st) := cR_lift (fun _ _ q => eE_tsw hl hx ho ht q) kk
theorem cR_tswD {dd lo hi : Int} {offs : Array Int} {x : Int32} {t : Nat} (hl : xAt k pc (.tableswitch dd lo hi offs) np) (hx : x.toInt < lo ∨ hi < x.toInt) (ht : (pc : Int) + dd = (t : Int)) (kk : cR E Q pF d k o nL ret rr cf g c (t, lv, st)) : cR E Q pF d k o nL ret rr cf g c (pc, lv, .int x :: st) := cR_lift (fun _ _ q => eE_tswD hl hx ht q) kk
theorem cR_lsw {dd : Int} {ps : Array (Int × Int)} {x : Int32} {off : Int} {t : Nat} (hl : xAt k pc (.lookupswitch dd ps) np) (hs : (ps.toList.zip (ps.toList.drop 1)).all (fun (a, next) => a.1 < next.1) = true) (ho : Op.lookupswitch.offset ps.toList dd x.toInt = off) (ht : (pc : Int) + off = (t : Int)) (kk : cR E Q pF d k o nL ret rr cf g c (t, lv, st)) : cR E Q pF d k o nL ret rr cf g c (pc, lv, .int x :: st) := by
  obtain ⟨h1, h2⟩ := xj_of ht
  refine cR_lift (fun _ _ q => xE_p hl rfl (fun len _ _ => ?_) q) kk
  simp only [xpure, hs, if_true, ho, xjp, if_pos h1, h2]
end CRZ
theorem cvo_cat {x : Option Nat} : (cvo x).category = 1 := by cases x <;> rfl
theorem cat_i {x : Int32} : (Value.int x).category = 1 := rfl
theorem cat_j {x : Int64} : (Value.long x).category = 2 := rfl
theorem cat_r {x : Nat} : (Value.ref x).category = 1 := rfl
