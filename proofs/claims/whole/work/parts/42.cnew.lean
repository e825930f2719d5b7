/-! rules: a field gets a new array; arrays copied; references compared; null -/
def cgrow (c : CS) (cl i f : Nat) (n : Int32) : Option CS := if n < 0 ∨ 1000000 < n.toNatClampNeg then none else some (csG c cl i f n.toNatClampNeg (fun _ => 0))
section CRN
variable {E : CE} {Q : Nat → Bool} {pF : Nat → List Value → xH → Option (Option Value × xH)} {d : Nat} {k : xK} {o nL : Nat} {pc p1 np : Nat} {lv lv' : xL} {st : List Value} {ret : Option FieldType} {rr : Option Value} {cf c c' : CS} {g : CG}
theorem cR_newG {idx cl i f j : Nat} {t : ArrayType} {n : Int32} {ty : FieldType} (hl : xAt k pc (.newarray t) p1) (hl2 : xAt k p1 (.putfield idx) np) (hj : xaty t = some j) (htg : ctag cl f = 20 + j) (ht : ctag cl f ≠ 21) (hd : defaultValue (newarray.typeOf t) = .int 0) (hf : xfR o idx = some (cl, f)) (hk : cK cl f = 3) (ho : cob c cl i) (hp : f < (xCl cl).2.2 ∧ ((xCl cl).2.1 f).2.2.2 = false ∧ xfty cl f = some (.array ty)) (hc' : cgrow c cl i f n = some c') (hQ : Q cl = false) (kk : ∀ g1, (∀ x, x ≠ cl → g1 x = g x) → cR E Q pF d k o nL ret rr cf g1 c' (np, lv, st)) : cR E Q pF d k o nL ret rr cf g c (pc, lv, .int n :: .ref (coa E cl i) :: st) := by
  obtain ⟨hn, rfl⟩ := cif_s hc'
  intro h hc
  obtain ⟨g', h', e1, e2, e3, e4⟩ := kk _ (cgs_ne g cl i f h.2.1) _ (CRep_grow (n := n.toNatClampNeg) (v := fun _ => 0) hc hk ht ho)
  refine ⟨g', h', e1, fun x hx => (e2 x hx).trans (cgs_ne g cl i f h.2.1 x (fun e => by rw [e, hQ] at hx; cases hx)), e3, ?_⟩
  refine xE_m hl rfl (fun len => by simp [xpure]) (h' := (xset h.1 h.2.1 (20 + j, n.toNatClampNeg, fun _ => .int 0), h.2.1 + 1, h.2.2 + n.toNatClampNeg)) (pc' := pc + 2) (st' := .ref h.2.1 :: .ref (coa E cl i) :: st) (lv' := lv) ?_ ?_
  · have : n.toNatClampNeg ≤ 1000000 := by omega
    have : ¬ n < 0 := fun z => hn (Or.inl z)
    simp [xmem, hj, hd, *]
  · have hpc : pc + 2 = p1 := by
      obtain ⟨len, -, q2, q3⟩ := hl
      simp only [xlen] at q2
      omega
    rw [hpc]
    refine xE_m hl2 rfl (fun len => by simp [xpure]) ?_ e4
    obtain ⟨len, -, q2, q3⟩ := hl2
    obtain rfl : len = 3 := by simp only [xlen] at q2; omega
    subst q3
    have hlt : coa E cl i < h.2.1 := (hc.1 _ (cob_lv ho)).2
    have hne : coa E cl i ≠ h.2.1 := by omega
    have e2 : (xset h.1 h.2.1 (20 + j, n.toNatClampNeg, fun _ => Value.int 0)) (coa E cl i) = (cl + 1, cnf cl, cfv E g c cl i) := by
      simp only [xset, if_neg hne, CRep_obj hc ho]
    simp only [xmem, hf, e2, hp.1, hp.2.1, hp.2.2, xfit, true_or, and_self, if_true, htg]
/-- an array copied into another (or itself) -/
def ccpy (c : CS) (a i f : Nat) (s : Int32) (a' i' f' : Nat) (t n : Int32) : Option CS := if s < 0 ∨ t < 0 ∨ n < 0 ∨ cal c a i f < s.toNatClampNeg + n.toNatClampNeg ∨ cal c a' i' f' < t.toNatClampNeg + n.toNatClampNeg then none
  else some (csA c a' i' f' (fun y => if t.toNatClampNeg ≤ y ∧ y < t.toNatClampNeg + n.toNatClampNeg then cI c a i f (s.toNatClampNeg + (y - t.toNatClampNeg)) else cI c a' i' f' y))
theorem cR_cpy {idx a i f a' i' f' : Nat} {s t n : Int32} (hl : xAt k pc (.invokestatic idx) np) (hm : xmR o idx = none) (hx : xCp.contains (o, idx) = true) (hk : cK a f = 2 ∨ cK a f = 3) (hk' : cK a' f' = 2 ∨ cK a' f' = 3) (ht : ctag a f = ctag a' f' ∧ (ctag a f = 20 ∨ ctag a f = 22 ∨ ctag a f = 23)) (ho : cob c a i) (ho' : cob c a' i') (hcat : xcat st ≤ 8) (hc' : ccpy c a i f s a' i' f' t n = some c') (kk : cR E Q pF d k o nL ret rr cf g c' (np, lv, st)) : cR E Q pF d k o nL ret rr cf g c (pc, lv, .int n :: .int t :: .ref (car E g a' i' f') :: .int s :: .ref (car E g a i f) :: st) := by
  obtain ⟨hn, rfl⟩ := cif_s hc'
  refine cR_write (c' := csA c a' i' f' (fun y => if t.toNatClampNeg ≤ y ∧ y < t.toNatClampNeg + n.toNatClampNeg then cI c a i f (s.toNatClampNeg + (y - t.toNatClampNeg)) else cI c a' i' f' y)) (1, a', i', f') (carr_lv ho' (by omega)) rfl rfl rfl rfl (fun n' q1 q2 => ccell_ne csA_o rfl rfl q1 (by rw [cnm_arr hk']; exact q2)) (fun h hh hc q => ?_) kk
  refine xE_m hl rfl (fun len => by simp [xpure]) ?_ q
  obtain ⟨len, -, h2, h3⟩ := hl
  obtain rfl : len = 3 := by simp only [xlen] at h2; omega
  subst h3
  have e2 := CRep_arr hc ho (show cK a f = 2 ∨ cK a f = 3 ∨ cK a f = 6 by omega)
  have e3 := CRep_arr hc ho' (show cK a' f' = 2 ∨ cK a' f' = 3 ∨ cK a' f' = 6 by omega)
  have e4 : cad E g (1, a', i', f') = car E g a' i' f' := rfl
  have q1 : ¬ s < 0 := fun z => hn (Or.inl z)
  have q2 : ¬ t < 0 := fun z => hn (Or.inr (Or.inl z))
  have q3 : ¬ n < 0 := fun z => hn (Or.inr (Or.inr (Or.inl z)))
  have q4 : s.toNatClampNeg + n.toNatClampNeg ≤ cal c a i f := by omega
  have q5 : t.toNatClampNeg + n.toNatClampNeg ≤ cal c a' i' f' := by omega
  have q6 : 20 ≤ ctag a' f' ∧ ctag a' f' ≤ 23 := by omega
  simp only [xmem, hm, hx, if_true, xcopy, e2, e3, ht.1, q1, q2, q3, q4, q5, q6.1, q6.2, hcat, not_false_eq_true, true_and, and_self, e4]
  congr 6
  unfold ccell
  rw [if_neg (by show ¬ (1 = 0); omega), if_pos rfl]
  simp only [Prod.mk.injEq, true_and]
  refine ⟨rfl, ?_⟩
  funext y
  unfold va_cpy cav
  have z1 : ¬ cK a f = 6 := by omega
  have z2 : ¬ cK a' f' = 6 := by omega
  have z3 : ¬ ctag a f = 21 := by omega
  have z4 : ¬ ctag a' f' = 21 := by omega
  simp only [if_neg z1, if_neg z2, if_neg z3, if_neg z4]
  by_cases qy : t.toNatClampNeg ≤ y ∧ y < t.toNatClampNeg + n.toNatClampNeg
  · simp [csA, cI, qy]
  · simp [csA, cI, qy]
/-- two objects compared -/
theorem cR_acmp {cl i i' : Nat} {eq : Bool} {off : Int} {t : Nat} (hl : xAt k pc (.if_acmp (if eq then .eq else .ne) off) np) (ht : (pc : Int) + off = (t : Int)) (ho : cob c cl i) (ho' : cob c cl i') (kt : (i = i') = (eq = true) → cR E Q pF d k o nL ret rr cf g c (t, lv, st)) (kf : ¬ ((i = i') = (eq = true)) → cR E Q pF d k o nL ret rr cf g c (np, lv, st)) : cR E Q pF d k o nL ret rr cf g c (pc, lv, .ref (coa E cl i') :: .ref (coa E cl i) :: st) := by
  intro h hc
  have hinj : coa E cl i = coa E cl i' ↔ i = i' := by
    constructor
    · intro e
      have := hc.2.1 (0, cl, i, 0) (0, cl, i', 0) (cob_lv ho) (cob_lv ho') e
      simpa using this
    · rintro rfl; rfl
  obtain ⟨j1, j2⟩ := xj_of ht
  by_cases qi : i = i'
  · subst qi
    cases eq with
    | true =>
      obtain ⟨g', h', e1, e2, e3, e4⟩ := kt (by simp) h hc
      refine ⟨g', h', e1, e2, e3, xE_p hl rfl (fun len _ _ => ?_) e4⟩
      simp [xpure, xbr, j1, j2]
    | false =>
      obtain ⟨g', h', e1, e2, e3, e4⟩ := kf (by simp) h hc
      refine ⟨g', h', e1, e2, e3, xE_p hl rfl (fun len q1 q2 => ?_) e4⟩
      obtain rfl : len = 3 := by simp only [xlen] at q2; omega
      simp [xpure, xbr, j1, q1]
  · have hne : ¬ coa E cl i = coa E cl i' := fun e => qi (hinj.mp e)
    cases eq with
    | true =>
      obtain ⟨g', h', e1, e2, e3, e4⟩ := kf (by simp [qi]) h hc
      refine ⟨g', h', e1, e2, e3, xE_p hl rfl (fun len q1 q2 => ?_) e4⟩
      obtain rfl : len = 3 := by simp only [xlen] at q2; omega
      simp [xpure, xbr, j1, q1, hne]
    | false =>
      obtain ⟨g', h', e1, e2, e3, e4⟩ := kt (by simp [qi]) h hc
      refine ⟨g', h', e1, e2, e3, xE_p hl rfl (fun len _ _ => ?_) e4⟩
      simp [xpure, xbr, j1, j2, hne]
/-- a letter or null -/
def cvo (x : Option Nat) : Value := match x with
  | some a => .ref a
  | none => .null
theorem cR_ldO {j : Nat} {x : Option Nat} {i : Instr} (hl : xAt k pc i np) (hi : i = .aload j ∨ ∃ q : Fin 4, i = .aload_n q ∧ (q : Nat) = j) (hg : xg lv j = some (cvo x)) (kk : cR E Q pF d k o nL ret rr cf g c (np, lv, cvo x :: st)) : cR E Q pF d k o nL ret rr cf g c (pc, lv, st) := by
  refine cR_lift (fun h hh q => ?_) kk
  refine xE_p hl (by rcases hi with rfl | ⟨q', rfl, rfl⟩ <;> rfl) (fun len q1 q2 => ?_) q
  rcases hi with rfl | ⟨q', rfl, rfl⟩
  · obtain rfl : len = 2 := by simp only [xlen] at q2; omega
    subst q1
    cases x <;> simp_all [xpure, xldA, cvo]
  · obtain rfl : len = 1 := by simp only [xlen] at q2; omega
    subst q1
    cases x <;> simp_all [xpure, xldA, cvo]
theorem cR_stO {j : Nat} {x : Option Nat} {i : Instr} (hl : xAt k pc i np) (hi : i = .astore j ∨ ∃ q : Fin 4, i = .astore_n q ∧ (q : Nat) = j) (hn : j < nL) (kk : ∀ lv', xg lv' j = some (cvo x) → xKeep j lv lv' → cR E Q pF d k o nL ret rr cf g c (np, lv', st)) : cR E Q pF d k o nL ret rr cf g c (pc, lv, cvo x :: st) := by
  refine cR_lift (fun h hh q => ?_) (kk _ xs1_keep.1 xs1_keep.2)
  refine xE_p hl (by rcases hi with rfl | ⟨q', rfl, rfl⟩ <;> rfl) (fun len q1 q2 => ?_) q
  rcases hi with rfl | ⟨q', rfl, rfl⟩
  · obtain rfl : len = 2 := by simp only [xlen] at q2; omega
    subst q1
    cases x <;> simp [xpure, xstA, cvo, hn]
  · obtain rfl : len = 1 := by simp only [xlen] at q2; omega
    subst q1
    cases x <;> simp [xpure, xstA, cvo, hn]
theorem cR_ifnull {off : Int} {t : Nat} {x : Option Nat} (hl : xAt k pc (.ifnull off) np) (ht : (pc : Int) + off = (t : Int)) (kt : x = none → cR E Q pF d k o nL ret rr cf g c (t, lv, st)) (kf : ∀ a, x = some a → cR E Q pF d k o nL ret rr cf g c (np, lv, st)) : cR E Q pF d k o nL ret rr cf g c (pc, lv, cvo x :: st) := by
  obtain ⟨j1, j2⟩ := xj_of ht
  cases x with
  | none => exact cR_lift (fun h hh q => xE_p hl rfl (fun len _ _ => by simp [xpure, cvo, xjp, j1, j2]) q) (kt rfl)
  | some a => exact cR_lift (fun h hh q => xE_p hl rfl (fun len q1 q2 => by
      obtain rfl : len = 3 := by simp only [xlen] at q2; omega
      simp [xpure, cvo, q1]) q) (kf a rfl)
theorem cR_ifnonnull {off : Int} {t : Nat} {x : Option Nat} (hl : xAt k pc (.ifnonnull off) np) (ht : (pc : Int) + off = (t : Int)) (kt : ∀ a, x = some a → cR E Q pF d k o nL ret rr cf g c (t, lv, st)) (kf : x = none → cR E Q pF d k o nL ret rr cf g c (np, lv, st)) : cR E Q pF d k o nL ret rr cf g c (pc, lv, cvo x :: st) := by
  obtain ⟨j1, j2⟩ := xj_of ht
  cases x with
  | some a => exact cR_lift (fun h hh q => xE_p hl rfl (fun len _ _ => by simp [xpure, cvo, xjp, j1, j2]) q) (kt a rfl)
  | none => exact cR_lift (fun h hh q => xE_p hl rfl (fun len q1 q2 => by
      obtain rfl : len = 3 := by simp only [xlen] at q2; omega
      simp [xpure, cvo, q1]) q) (kf rfl)
theorem cR_null (hl : xAt k pc .aconst_null np) (kk : cR E Q pF d k o nL ret rr cf g c (np, lv, cvo none :: st)) : cR E Q pF d k o nL ret rr cf g c (pc, lv, st) := cR_lift (fun h hh q => eE_null hl q) kk
theorem cR_cast {idx cl i : Nat} (hl : xAt k pc (.checkcast idx) np) (hx : xkR o idx = some cl) (ho : cob c cl i) (kk : cR E Q pF d k o nL ret rr cf g c (np, lv, .ref (coa E cl i) :: st)) : cR E Q pF d k o nL ret rr cf g c (pc, lv, .ref (coa E cl i) :: st) := by
  refine cR_look (fun h hh hc q => ?_) kk
  refine xE_p hl rfl (fun len h1 h2 => ?_) q
  obtain rfl : len = 3 := by simp only [xlen] at h2; omega
  subst h1
  simp [xpure, hx, CRep_obj hc ho]
end CRN
