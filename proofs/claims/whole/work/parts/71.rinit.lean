/-! the reference's constructor: its 122 arrays (printed by wip/whole/gen_rinit.py) -/
def rZ : RS := (fun _ _ => 0, fun _ _ => 0)
/-- the reference's memory behind k arrays -/
def rin (aR k : Nat) (G : Nat → xC) : Nat → xC := fun a =>
  if a = aR then (17, 147, fun f => if rK f = 0 then .int 0 else if rK f = 1 then .long 0 else if rpos f ≤ k then .ref (aR + rpos f) else .null)
  else if aR < a ∧ a ≤ aR + k then (rtag (rfld (a - aR)), rlen (rfld (a - aR)), fun _ => if rtag (rfld (a - aR)) = 21 then .long 0 else .int 0)
  else G a
def rsl : Nat → Nat
  | 0 => 0
  | k + 1 => rsl k + rlen (rfld (k + 1))
theorem r_k3 (f : Nat) : rK f = 0 ∨ rK f = 1 ∨ rK f = 2 := by
  by_cases q : f < 147
  · exact (by decide +kernel : ∀ f, f < 147 → rK f = 0 ∨ rK f = 1 ∨ rK f = 2) f q
  · left
    have e1 : rTab[f]? = none := List.getElem?_eq_none (by have : rTab.length = 147 := rfl
                                                           omega)
    unfold rK
    rw [List.getD_eq_getElem?_getD, e1]
    rfl
theorem rin_in {aR k a : Nat} {G : Nat → xC} (q : a ≠ aR) (y : aR < a ∧ a ≤ aR + k) : rin aR k G a = (rtag (rfld (a - aR)), rlen (rfld (a - aR)), fun _ => if rtag (rfld (a - aR)) = 21 then .long 0 else .int 0) := by
  unfold rin
  rw [if_neg q, if_pos y]
theorem rin_out {aR k a : Nat} {G : Nat → xC} (q : a ≠ aR) (y : ¬ (aR < a ∧ a ≤ aR + k)) : rin aR k G a = G a := by
  unfold rin
  rw [if_neg q, if_neg y]
theorem rin_at {aR k : Nat} {G : Nat → xC} : rin aR k G aR = (17, 147, fun f => if rK f = 0 then .int 0 else if rK f = 1 then .long 0 else if rpos f ≤ k then .ref (aR + rpos f) else .null) := by
  unfold rin
  rw [if_pos rfl]
theorem rin_put {aR k : Nat} {G : Nat → xC} (hk : k < 122) {dv : Value} (hd : dv = if rtag (rfld (k + 1)) = 21 then .long 0 else .int 0) :
    xset (xset (rin aR k G) (aR + k + 1) (rtag (rfld (k + 1)), rlen (rfld (k + 1)), fun _ => dv)) aR (17, 147, updV (rin aR k G aR).2.2 (rfld (k + 1)) (.ref (aR + k + 1))) = rin aR (k + 1) G := by
  obtain ⟨f1, f2⟩ := r_fld (k + 1) (by omega) (by omega)
  funext a
  show (if a = aR then _ else if a = aR + k + 1 then _ else rin aR k G a) = _
  by_cases q : a = aR
  · rw [if_pos q, q, rin_at, rin_at]
    refine Prod.ext rfl (Prod.ext rfl ?_)
    funext f
    show (if f = rfld (k + 1) then _ else (if rK f = 0 then _ else if rK f = 1 then _ else if rpos f ≤ k then _ else _)) = (if rK f = 0 then _ else if rK f = 1 then _ else if rpos f ≤ k + 1 then _ else _)
    by_cases z : f = rfld (k + 1)
    · subst z
      rw [if_pos rfl]
      simp only [f1, f2]
      show _ = (if k + 1 ≤ k + 1 then Value.ref (aR + (k + 1)) else .null)
      rw [if_pos (Nat.le_refl _)]
      rfl
    · rw [if_neg z]
      rcases r_k3 f with e | e | e
      · simp only [e, if_true]
      · simp only [e]; rfl
      · have hne : rpos f ≠ k + 1 := fun y => z (by rw [← y]; exact (r_ok f (r_lt e) e).2.2.1.symm)
        simp only [e]
        show (if rpos f ≤ k then _ else _) = (if rpos f ≤ k + 1 then _ else _)
        by_cases y : rpos f ≤ k
        · rw [if_pos y, if_pos (by omega)]
        · rw [if_neg y, if_neg (by omega)]
  · rw [if_neg q]
    by_cases z : a = aR + k + 1
    · rw [if_pos z, rin_in q ⟨by omega, by omega⟩, show a - aR = k + 1 by omega, hd]
    · rw [if_neg z]
      by_cases y : aR < a ∧ a ≤ aR + k
      · rw [rin_in q y, rin_in q ⟨y.1, by omega⟩]
      · rw [rin_out q y, rin_out q (by omega)]
theorem rin_all {aR : Nat} {G : Nat → xC} : rin aR 122 G = layR aR rZ G := by
  funext a
  show _ = (if aR ≤ a ∧ a ≤ aR + 122 then rcell aR rZ (a - aR) else G a)
  by_cases q : a = aR
  · rw [if_pos (by omega), q, Nat.sub_self, rin_at]
    unfold rcell
    rw [if_pos rfl]
    refine Prod.ext rfl (Prod.ext rfl ?_)
    funext f
    show (if rK f = 0 then _ else if rK f = 1 then _ else if rpos f ≤ 122 then _ else _) = (if rK f = 0 then _ else if rK f = 1 then _ else _)
    rcases r_k3 f with e | e | e
    · simp only [e, if_true]; rfl
    · simp only [e]; rfl
    · simp only [e]
      show (if rpos f ≤ 122 then _ else _) = _
      rw [if_pos (r_ok f (r_lt e) e).2.1]
      rfl
  · by_cases y : aR < a ∧ a ≤ aR + 122
    · refine Eq.trans (rin_in q y) (Eq.trans ?_ (if_pos ⟨by omega, y.2⟩).symm)
      have e : rcell aR rZ (a - aR) = (rtag (rfld (a - aR)), rlen (rfld (a - aR)), fun i => if rtag (rfld (a - aR)) = 21 then .long (rZ.2 (rfld (a - aR)) i) else .int (rZ.1 (rfld (a - aR)) i)) := if_neg (by omega)
      rw [e]
      rfl
    · rw [rin_out q y, if_neg (by omega)]
def xcv (i : Nat) : Int32 := (xcR 16 i).getD 0
def r_aty (f : Nat) : Bool := match xfty 16 f with
  | some (.array _) => true
  | _ => false
theorem r_ft : ∀ p, p < 123 → 1 ≤ p → r_aty (rfld p) = true ∧ rfld p < (xCl 16).2.2 ∧ ((xCl 16).2.1 (rfld p)).1 = xOwn 16 := by decide +kernel
section RI
variable {pF : Nat → List Value → xH → Option (Option Value × xH)} {d aR u : Nat} {G : Nat → xC} {lv : xL} {ret : Option FieldType} {rr : Option Value} {hh : xH}
theorem r_alloc {K pc p1 p2 p3 p4 idx j : Nat} {t : ArrayType} {n : Int32} (hl0 : xAt kT297 pc (.aload_n 0) p1) (push : ∀ st h, xR pF d kT297 16 6 true ret rr hh (p2, lv, .int n :: st, h) → xR pF d kT297 16 6 true ret rr hh (p1, lv, st, h))
    (hl2 : xAt kT297 p2 (.newarray t) p3) (hl3 : xAt kT297 p3 (.putfield idx) p4) (hj : xaty t = some j) (hf : xfR 16 idx = some (16, rfld (K + 1))) (hn : n.toNatClampNeg = rlen (rfld (K + 1)) ∧ (¬ n < 0 ∧ n.toNatClampNeg ≤ 1000000) ∧ K < 122) (ht : 20 + j = rtag (rfld (K + 1)))
    (hdv : defaultValue (newarray.typeOf t) = if rtag (rfld (K + 1)) = 21 then .long 0 else .int 0) (hlv : xg lv 0 = some (.ref aR)) (kk : xR pF d kT297 16 6 true ret rr hh (p4, lv, [], (rin aR (K + 1) G, aR + (K + 1) + 1, u + rsl (K + 1)))) :
    xR pF d kT297 16 6 true ret rr hh (pc, lv, [], (rin aR K G, aR + K + 1, u + rsl K)) := by
  obtain ⟨n1, n2, hK⟩ := hn
  obtain ⟨a1, a2, a3⟩ := r_ft (K + 1) (by omega) (by omega)
  obtain ⟨ty, hty⟩ : ∃ ty, xfty 16 (rfld (K + 1)) = some (.array ty) := by
    unfold r_aty at a1
    split at a1
    next ty e => exact ⟨ty, e⟩
    next => cases a1
  refine eE_aload_n (j := 0) hl0 hlv ?_
  refine push _ _ ?_
  obtain ⟨h1, e1⟩ : ∃ h1 : xH, h1 = (xset (rin aR K G) (aR + K + 1) (20 + j, n.toNatClampNeg, fun _ => defaultValue (newarray.typeOf t)), aR + K + 1 + 1, u + rsl K + n.toNatClampNeg) := ⟨_, rfl⟩
  refine eE_newa (h' := h1) hl2 hj n2 e1 ?_
  have hne : aR ≠ aR + K + 1 := by omega
  have ea : h1.1 aR = rin aR K G aR := by rw [e1]; simp only [xset, if_neg hne]
  have e17 : (rin aR K G aR).1 = 17 ∧ (rin aR K G aR).2.1 = 147 := by unfold rin; rw [if_pos rfl]; exact ⟨rfl, rfl⟩
  refine eE_put (ci := 16) (a := aR) (v := .ref (aR + K + 1)) hl3 hf (by rw [ea]; exact e17.1) a2 (Or.inr ⟨rfl, a3⟩) hty rfl rfl ?_
  rw [ea, e17.1, e17.2, e1]
  dsimp only
  rw [ht, n1, hdv, rin_put hK rfl, show aR + K + 1 + 1 = aR + (K + 1) + 1 by omega, show u + rsl K + rlen (rfld (K + 1)) = u + rsl (K + 1) from Nat.add_assoc _ _ _]
  exact kk
end RI
set_option maxRecDepth 100000
theorem yl297_0 : xAt kT297 0 (.aload_n 0) 1 := ⟨1, rfl, Or.inr rfl, rfl⟩
theorem yl297_1 : xAt kT297 1 (.invokespecial 1) 4 := ⟨3, rfl, Or.inr rfl, rfl⟩
theorem yl297_4 : xAt kT297 4 (.aload_n 0) 5 := ⟨1, rfl, Or.inr rfl, rfl⟩
theorem yl297_5 : xAt kT297 5 (.sipush 400) 8 := ⟨3, rfl, Or.inr rfl, rfl⟩
theorem yl297_8 : xAt kT297 8 (.newarray .byte) 10 := ⟨2, rfl, Or.inr rfl, rfl⟩
theorem yl297_10 : xAt kT297 10 (.putfield 7) 13 := ⟨3, rfl, Or.inr rfl, rfl⟩
theorem yl297_13 : xAt kT297 13 (.aload_n 0) 14 := ⟨1, rfl, Or.inr rfl, rfl⟩
theorem yl297_14 : xAt kT297 14 (.sipush 354) 17 := ⟨3, rfl, Or.inr rfl, rfl⟩
theorem yl297_17 : xAt kT297 17 (.newarray .int) 19 := ⟨2, rfl, Or.inr rfl, rfl⟩
theorem yl297_19 : xAt kT297 19 (.putfield 13) 22 := ⟨3, rfl, Or.inr rfl, rfl⟩
theorem yl297_22 : xAt kT297 22 (.aload_n 0) 23 := ⟨1, rfl, Or.inr rfl, rfl⟩
theorem yl297_23 : xAt kT297 23 (.sipush 354) 26 := ⟨3, rfl, Or.inr rfl, rfl⟩
theorem yl297_26 : xAt kT297 26 (.newarray .int) 28 := ⟨2, rfl, Or.inr rfl, rfl⟩
theorem yl297_28 : xAt kT297 28 (.putfield 17) 31 := ⟨3, rfl, Or.inr rfl, rfl⟩
theorem yl297_31 : xAt kT297 31 (.aload_n 0) 32 := ⟨1, rfl, Or.inr rfl, rfl⟩
theorem yl297_32 : xAt kT297 32 (.sipush 354) 35 := ⟨3, rfl, Or.inr rfl, rfl⟩
theorem yl297_35 : xAt kT297 35 (.newarray .int) 37 := ⟨2, rfl, Or.inr rfl, rfl⟩
theorem yl297_37 : xAt kT297 37 (.putfield 20) 40 := ⟨3, rfl, Or.inr rfl, rfl⟩
theorem yl297_40 : xAt kT297 40 (.aload_n 0) 41 := ⟨1, rfl, Or.inr rfl, rfl⟩
theorem yl297_41 : xAt kT297 41 (.sipush 354) 44 := ⟨3, rfl, Or.inr rfl, rfl⟩
theorem yl297_44 : xAt kT297 44 (.newarray .int) 46 := ⟨2, rfl, Or.inr rfl, rfl⟩
theorem yl297_46 : xAt kT297 46 (.putfield 23) 49 := ⟨3, rfl, Or.inr rfl, rfl⟩
theorem yl297_49 : xAt kT297 49 (.aload_n 0) 50 := ⟨1, rfl, Or.inr rfl, rfl⟩
theorem yl297_50 : xAt kT297 50 (.sipush 354) 53 := ⟨3, rfl, Or.inr rfl, rfl⟩
theorem yl297_53 : xAt kT297 53 (.newarray .int) 55 := ⟨2, rfl, Or.inr rfl, rfl⟩
theorem yl297_55 : xAt kT297 55 (.putfield 26) 58 := ⟨3, rfl, Or.inr rfl, rfl⟩
theorem yl297_58 : xAt kT297 58 (.aload_n 0) 59 := ⟨1, rfl, Or.inr rfl, rfl⟩
theorem yl297_59 : xAt kT297 59 (.sipush 354) 62 := ⟨3, rfl, Or.inr rfl, rfl⟩
theorem yl297_62 : xAt kT297 62 (.newarray .int) 64 := ⟨2, rfl, Or.inr rfl, rfl⟩
theorem yl297_64 : xAt kT297 64 (.putfield 29) 67 := ⟨3, rfl, Or.inr rfl, rfl⟩
theorem yl297_67 : xAt kT297 67 (.aload_n 0) 68 := ⟨1, rfl, Or.inr rfl, rfl⟩
theorem yl297_68 : xAt kT297 68 (.sipush 2832) 71 := ⟨3, rfl, Or.inr rfl, rfl⟩
theorem yl297_71 : xAt kT297 71 (.newarray .int) 73 := ⟨2, rfl, Or.inr rfl, rfl⟩
theorem yl297_73 : xAt kT297 73 (.putfield 32) 76 := ⟨3, rfl, Or.inr rfl, rfl⟩
theorem yl297_76 : xAt kT297 76 (.aload_n 0) 77 := ⟨1, rfl, Or.inr rfl, rfl⟩
theorem yl297_77 : xAt kT297 77 (.sipush 2124) 80 := ⟨3, rfl, Or.inr rfl, rfl⟩
theorem yl297_80 : xAt kT297 80 (.newarray .int) 82 := ⟨2, rfl, Or.inr rfl, rfl⟩
theorem yl297_82 : xAt kT297 82 (.putfield 35) 85 := ⟨3, rfl, Or.inr rfl, rfl⟩
theorem yl297_85 : xAt kT297 85 (.aload_n 0) 86 := ⟨1, rfl, Or.inr rfl, rfl⟩
theorem yl297_86 : xAt kT297 86 (.sipush 2124) 89 := ⟨3, rfl, Or.inr rfl, rfl⟩
theorem yl297_89 : xAt kT297 89 (.newarray .int) 91 := ⟨2, rfl, Or.inr rfl, rfl⟩
theorem yl297_91 : xAt kT297 91 (.putfield 38) 94 := ⟨3, rfl, Or.inr rfl, rfl⟩
theorem yl297_94 : xAt kT297 94 (.aload_n 0) 95 := ⟨1, rfl, Or.inr rfl, rfl⟩
theorem yl297_95 : xAt kT297 95 (.sipush 2124) 98 := ⟨3, rfl, Or.inr rfl, rfl⟩
theorem yl297_98 : xAt kT297 98 (.newarray .int) 100 := ⟨2, rfl, Or.inr rfl, rfl⟩
theorem yl297_100 : xAt kT297 100 (.putfield 41) 103 := ⟨3, rfl, Or.inr rfl, rfl⟩
theorem yl297_103 : xAt kT297 103 (.aload_n 0) 104 := ⟨1, rfl, Or.inr rfl, rfl⟩
theorem yl297_104 : xAt kT297 104 (.ldc 44) 106 := ⟨2, rfl, Or.inr rfl, rfl⟩
theorem yl297_106 : xAt kT297 106 (.newarray .long) 108 := ⟨2, rfl, Or.inr rfl, rfl⟩
theorem yl297_108 : xAt kT297 108 (.putfield 45) 111 := ⟨3, rfl, Or.inr rfl, rfl⟩
theorem yl297_111 : xAt kT297 111 (.aload_n 0) 112 := ⟨1, rfl, Or.inr rfl, rfl⟩
theorem yl297_112 : xAt kT297 112 (.sipush 128) 115 := ⟨3, rfl, Or.inr rfl, rfl⟩
theorem yl297_115 : xAt kT297 115 (.newarray .boolean) 117 := ⟨2, rfl, Or.inr rfl, rfl⟩
theorem yl297_117 : xAt kT297 117 (.putfield 49) 120 := ⟨3, rfl, Or.inr rfl, rfl⟩
theorem yl297_120 : xAt kT297 120 (.aload_n 0) 121 := ⟨1, rfl, Or.inr rfl, rfl⟩
theorem yl297_121 : xAt kT297 121 (.sipush 128) 124 := ⟨3, rfl, Or.inr rfl, rfl⟩
theorem yl297_124 : xAt kT297 124 (.newarray .int) 126 := ⟨2, rfl, Or.inr rfl, rfl⟩
theorem yl297_126 : xAt kT297 126 (.putfield 53) 129 := ⟨3, rfl, Or.inr rfl, rfl⟩
theorem yl297_129 : xAt kT297 129 (.aload_n 0) 130 := ⟨1, rfl, Or.inr rfl, rfl⟩
theorem yl297_130 : xAt kT297 130 (.sipush 128) 133 := ⟨3, rfl, Or.inr rfl, rfl⟩
theorem yl297_133 : xAt kT297 133 (.newarray .int) 135 := ⟨2, rfl, Or.inr rfl, rfl⟩
theorem yl297_135 : xAt kT297 135 (.putfield 56) 138 := ⟨3, rfl, Or.inr rfl, rfl⟩
theorem yl297_138 : xAt kT297 138 (.aload_n 0) 139 := ⟨1, rfl, Or.inr rfl, rfl⟩
theorem yl297_139 : xAt kT297 139 (.sipush 256) 142 := ⟨3, rfl, Or.inr rfl, rfl⟩
theorem yl297_142 : xAt kT297 142 (.newarray .int) 144 := ⟨2, rfl, Or.inr rfl, rfl⟩
theorem yl297_144 : xAt kT297 144 (.putfield 59) 147 := ⟨3, rfl, Or.inr rfl, rfl⟩
theorem yl297_147 : xAt kT297 147 (.aload_n 0) 148 := ⟨1, rfl, Or.inr rfl, rfl⟩
theorem yl297_148 : xAt kT297 148 (.bipush 16) 150 := ⟨2, rfl, Or.inr rfl, rfl⟩
theorem yl297_150 : xAt kT297 150 (.newarray .int) 152 := ⟨2, rfl, Or.inr rfl, rfl⟩
theorem yl297_152 : xAt kT297 152 (.putfield 62) 155 := ⟨3, rfl, Or.inr rfl, rfl⟩
theorem yl297_155 : xAt kT297 155 (.aload_n 0) 156 := ⟨1, rfl, Or.inr rfl, rfl⟩
theorem yl297_156 : xAt kT297 156 (.bipush 16) 158 := ⟨2, rfl, Or.inr rfl, rfl⟩
theorem yl297_158 : xAt kT297 158 (.newarray .int) 160 := ⟨2, rfl, Or.inr rfl, rfl⟩
theorem yl297_160 : xAt kT297 160 (.putfield 65) 163 := ⟨3, rfl, Or.inr rfl, rfl⟩
theorem yl297_163 : xAt kT297 163 (.aload_n 0) 164 := ⟨1, rfl, Or.inr rfl, rfl⟩
theorem yl297_164 : xAt kT297 164 (.bipush 7) 166 := ⟨2, rfl, Or.inr rfl, rfl⟩
theorem yl297_166 : xAt kT297 166 (.newarray .int) 168 := ⟨2, rfl, Or.inr rfl, rfl⟩
theorem yl297_168 : xAt kT297 168 (.putfield 68) 171 := ⟨3, rfl, Or.inr rfl, rfl⟩
theorem yl297_171 : xAt kT297 171 (.aload_n 0) 172 := ⟨1, rfl, Or.inr rfl, rfl⟩
theorem yl297_172 : xAt kT297 172 (.bipush 7) 174 := ⟨2, rfl, Or.inr rfl, rfl⟩
theorem yl297_174 : xAt kT297 174 (.newarray .int) 176 := ⟨2, rfl, Or.inr rfl, rfl⟩
theorem yl297_176 : xAt kT297 176 (.putfield 71) 179 := ⟨3, rfl, Or.inr rfl, rfl⟩
theorem yl297_179 : xAt kT297 179 (.aload_n 0) 180 := ⟨1, rfl, Or.inr rfl, rfl⟩
theorem yl297_180 : xAt kT297 180 (.ldc 74) 182 := ⟨2, rfl, Or.inr rfl, rfl⟩
theorem yl297_182 : xAt kT297 182 (.newarray .long) 184 := ⟨2, rfl, Or.inr rfl, rfl⟩
theorem yl297_184 : xAt kT297 184 (.putfield 75) 187 := ⟨3, rfl, Or.inr rfl, rfl⟩
theorem yl297_187 : xAt kT297 187 (.aload_n 0) 188 := ⟨1, rfl, Or.inr rfl, rfl⟩
theorem yl297_188 : xAt kT297 188 (.sipush 224) 191 := ⟨3, rfl, Or.inr rfl, rfl⟩
theorem yl297_191 : xAt kT297 191 (.newarray .int) 193 := ⟨2, rfl, Or.inr rfl, rfl⟩
theorem yl297_193 : xAt kT297 193 (.putfield 78) 196 := ⟨3, rfl, Or.inr rfl, rfl⟩
theorem yl297_196 : xAt kT297 196 (.aload_n 0) 197 := ⟨1, rfl, Or.inr rfl, rfl⟩
theorem yl297_197 : xAt kT297 197 (.sipush 224) 200 := ⟨3, rfl, Or.inr rfl, rfl⟩
theorem yl297_200 : xAt kT297 200 (.newarray .boolean) 202 := ⟨2, rfl, Or.inr rfl, rfl⟩
theorem yl297_202 : xAt kT297 202 (.putfield 81) 205 := ⟨3, rfl, Or.inr rfl, rfl⟩
theorem yl297_205 : xAt kT297 205 (.aload_n 0) 206 := ⟨1, rfl, Or.inr rfl, rfl⟩
theorem yl297_206 : xAt kT297 206 (.sipush 224) 209 := ⟨3, rfl, Or.inr rfl, rfl⟩
theorem yl297_209 : xAt kT297 209 (.newarray .int) 211 := ⟨2, rfl, Or.inr rfl, rfl⟩
theorem yl297_211 : xAt kT297 211 (.putfield 84) 214 := ⟨3, rfl, Or.inr rfl, rfl⟩
theorem yl297_214 : xAt kT297 214 (.aload_n 0) 215 := ⟨1, rfl, Or.inr rfl, rfl⟩
theorem yl297_215 : xAt kT297 215 (.sipush 224) 218 := ⟨3, rfl, Or.inr rfl, rfl⟩
theorem yl297_218 : xAt kT297 218 (.newarray .int) 220 := ⟨2, rfl, Or.inr rfl, rfl⟩
theorem yl297_220 : xAt kT297 220 (.putfield 87) 223 := ⟨3, rfl, Or.inr rfl, rfl⟩
theorem yl297_223 : xAt kT297 223 (.aload_n 0) 224 := ⟨1, rfl, Or.inr rfl, rfl⟩
theorem yl297_224 : xAt kT297 224 (.sipush 224) 227 := ⟨3, rfl, Or.inr rfl, rfl⟩
theorem yl297_227 : xAt kT297 227 (.newarray .int) 229 := ⟨2, rfl, Or.inr rfl, rfl⟩
theorem yl297_229 : xAt kT297 229 (.putfield 90) 232 := ⟨3, rfl, Or.inr rfl, rfl⟩
theorem yl297_232 : xAt kT297 232 (.aload_n 0) 233 := ⟨1, rfl, Or.inr rfl, rfl⟩
theorem yl297_233 : xAt kT297 233 (.sipush 224) 236 := ⟨3, rfl, Or.inr rfl, rfl⟩
theorem yl297_236 : xAt kT297 236 (.newarray .int) 238 := ⟨2, rfl, Or.inr rfl, rfl⟩
theorem yl297_238 : xAt kT297 238 (.putfield 93) 241 := ⟨3, rfl, Or.inr rfl, rfl⟩
theorem yl297_241 : xAt kT297 241 (.aload_n 0) 242 := ⟨1, rfl, Or.inr rfl, rfl⟩
theorem yl297_242 : xAt kT297 242 (.bipush 112) 244 := ⟨2, rfl, Or.inr rfl, rfl⟩
theorem yl297_244 : xAt kT297 244 (.newarray .int) 246 := ⟨2, rfl, Or.inr rfl, rfl⟩
theorem yl297_246 : xAt kT297 246 (.putfield 96) 249 := ⟨3, rfl, Or.inr rfl, rfl⟩
theorem yl297_249 : xAt kT297 249 (.aload_n 0) 250 := ⟨1, rfl, Or.inr rfl, rfl⟩
theorem yl297_250 : xAt kT297 250 (.bipush 112) 252 := ⟨2, rfl, Or.inr rfl, rfl⟩
theorem yl297_252 : xAt kT297 252 (.newarray .boolean) 254 := ⟨2, rfl, Or.inr rfl, rfl⟩
theorem yl297_254 : xAt kT297 254 (.putfield 99) 257 := ⟨3, rfl, Or.inr rfl, rfl⟩
theorem yl297_257 : xAt kT297 257 (.aload_n 0) 258 := ⟨1, rfl, Or.inr rfl, rfl⟩
theorem yl297_258 : xAt kT297 258 (.bipush 7) 260 := ⟨2, rfl, Or.inr rfl, rfl⟩
theorem yl297_260 : xAt kT297 260 (.newarray .int) 262 := ⟨2, rfl, Or.inr rfl, rfl⟩
theorem yl297_262 : xAt kT297 262 (.putfield 102) 265 := ⟨3, rfl, Or.inr rfl, rfl⟩
theorem yl297_265 : xAt kT297 265 (.aload_n 0) 266 := ⟨1, rfl, Or.inr rfl, rfl⟩
theorem yl297_266 : xAt kT297 266 (.bipush 7) 268 := ⟨2, rfl, Or.inr rfl, rfl⟩
theorem yl297_268 : xAt kT297 268 (.newarray .boolean) 270 := ⟨2, rfl, Or.inr rfl, rfl⟩
theorem yl297_270 : xAt kT297 270 (.putfield 105) 273 := ⟨3, rfl, Or.inr rfl, rfl⟩
theorem yl297_273 : xAt kT297 273 (.aload_n 0) 274 := ⟨1, rfl, Or.inr rfl, rfl⟩
theorem yl297_274 : xAt kT297 274 (.bipush 7) 276 := ⟨2, rfl, Or.inr rfl, rfl⟩
theorem yl297_276 : xAt kT297 276 (.newarray .int) 278 := ⟨2, rfl, Or.inr rfl, rfl⟩
theorem yl297_278 : xAt kT297 278 (.putfield 108) 281 := ⟨3, rfl, Or.inr rfl, rfl⟩
theorem yl297_281 : xAt kT297 281 (.aload_n 0) 282 := ⟨1, rfl, Or.inr rfl, rfl⟩
theorem yl297_282 : xAt kT297 282 (.bipush 7) 284 := ⟨2, rfl, Or.inr rfl, rfl⟩
theorem yl297_284 : xAt kT297 284 (.newarray .int) 286 := ⟨2, rfl, Or.inr rfl, rfl⟩
theorem yl297_286 : xAt kT297 286 (.putfield 111) 289 := ⟨3, rfl, Or.inr rfl, rfl⟩
theorem yl297_289 : xAt kT297 289 (.aload_n 0) 290 := ⟨1, rfl, Or.inr rfl, rfl⟩
theorem yl297_290 : xAt kT297 290 (.bipush 84) 292 := ⟨2, rfl, Or.inr rfl, rfl⟩
theorem yl297_292 : xAt kT297 292 (.newarray .int) 294 := ⟨2, rfl, Or.inr rfl, rfl⟩
theorem yl297_294 : xAt kT297 294 (.putfield 114) 297 := ⟨3, rfl, Or.inr rfl, rfl⟩
theorem yl297_297 : xAt kT297 297 (.aload_n 0) 298 := ⟨1, rfl, Or.inr rfl, rfl⟩
theorem yl297_298 : xAt kT297 298 (.bipush 84) 300 := ⟨2, rfl, Or.inr rfl, rfl⟩
theorem yl297_300 : xAt kT297 300 (.newarray .int) 302 := ⟨2, rfl, Or.inr rfl, rfl⟩
theorem yl297_302 : xAt kT297 302 (.putfield 117) 305 := ⟨3, rfl, Or.inr rfl, rfl⟩
theorem yl297_305 : xAt kT297 305 (.aload_n 0) 306 := ⟨1, rfl, Or.inr rfl, rfl⟩
theorem yl297_306 : xAt kT297 306 (.bipush 7) 308 := ⟨2, rfl, Or.inr rfl, rfl⟩
theorem yl297_308 : xAt kT297 308 (.newarray .boolean) 310 := ⟨2, rfl, Or.inr rfl, rfl⟩
theorem yl297_310 : xAt kT297 310 (.putfield 120) 313 := ⟨3, rfl, Or.inr rfl, rfl⟩
theorem yl297_313 : xAt kT297 313 (.aload_n 0) 314 := ⟨1, rfl, Or.inr rfl, rfl⟩
theorem yl297_314 : xAt kT297 314 (.bipush 7) 316 := ⟨2, rfl, Or.inr rfl, rfl⟩
theorem yl297_316 : xAt kT297 316 (.newarray .int) 318 := ⟨2, rfl, Or.inr rfl, rfl⟩
theorem yl297_318 : xAt kT297 318 (.putfield 123) 321 := ⟨3, rfl, Or.inr rfl, rfl⟩
theorem yl297_321 : xAt kT297 321 (.aload_n 0) 322 := ⟨1, rfl, Or.inr rfl, rfl⟩
theorem yl297_322 : xAt kT297 322 (.bipush 7) 324 := ⟨2, rfl, Or.inr rfl, rfl⟩
theorem yl297_324 : xAt kT297 324 (.newarray .int) 326 := ⟨2, rfl, Or.inr rfl, rfl⟩
theorem yl297_326 : xAt kT297 326 (.putfield 126) 329 := ⟨3, rfl, Or.inr rfl, rfl⟩
theorem yl297_329 : xAt kT297 329 (.aload_n 0) 330 := ⟨1, rfl, Or.inr rfl, rfl⟩
theorem yl297_330 : xAt kT297 330 (.bipush 7) 332 := ⟨2, rfl, Or.inr rfl, rfl⟩
theorem yl297_332 : xAt kT297 332 (.newarray .int) 334 := ⟨2, rfl, Or.inr rfl, rfl⟩
theorem yl297_334 : xAt kT297 334 (.putfield 129) 337 := ⟨3, rfl, Or.inr rfl, rfl⟩
theorem yl297_337 : xAt kT297 337 (.aload_n 0) 338 := ⟨1, rfl, Or.inr rfl, rfl⟩
theorem yl297_338 : xAt kT297 338 (.bipush 7) 340 := ⟨2, rfl, Or.inr rfl, rfl⟩
theorem yl297_340 : xAt kT297 340 (.newarray .int) 342 := ⟨2, rfl, Or.inr rfl, rfl⟩
theorem yl297_342 : xAt kT297 342 (.putfield 132) 345 := ⟨3, rfl, Or.inr rfl, rfl⟩
theorem yl297_345 : xAt kT297 345 (.aload_n 0) 346 := ⟨1, rfl, Or.inr rfl, rfl⟩
theorem yl297_346 : xAt kT297 346 (.bipush 7) 348 := ⟨2, rfl, Or.inr rfl, rfl⟩
theorem yl297_348 : xAt kT297 348 (.newarray .int) 350 := ⟨2, rfl, Or.inr rfl, rfl⟩
theorem yl297_350 : xAt kT297 350 (.putfield 135) 353 := ⟨3, rfl, Or.inr rfl, rfl⟩
theorem yl297_353 : xAt kT297 353 (.aload_n 0) 354 := ⟨1, rfl, Or.inr rfl, rfl⟩
theorem yl297_354 : xAt kT297 354 (.bipush 7) 356 := ⟨2, rfl, Or.inr rfl, rfl⟩
theorem yl297_356 : xAt kT297 356 (.newarray .int) 358 := ⟨2, rfl, Or.inr rfl, rfl⟩
theorem yl297_358 : xAt kT297 358 (.putfield 138) 361 := ⟨3, rfl, Or.inr rfl, rfl⟩
theorem yl297_361 : xAt kT297 361 (.aload_n 0) 362 := ⟨1, rfl, Or.inr rfl, rfl⟩
theorem yl297_362 : xAt kT297 362 (.sipush 3584) 365 := ⟨3, rfl, Or.inr rfl, rfl⟩
theorem yl297_365 : xAt kT297 365 (.newarray .int) 367 := ⟨2, rfl, Or.inr rfl, rfl⟩
theorem yl297_367 : xAt kT297 367 (.putfield 141) 370 := ⟨3, rfl, Or.inr rfl, rfl⟩
theorem yl297_370 : xAt kT297 370 (.aload_n 0) 371 := ⟨1, rfl, Or.inr rfl, rfl⟩
theorem yl297_371 : xAt kT297 371 (.sipush 3584) 374 := ⟨3, rfl, Or.inr rfl, rfl⟩
theorem yl297_374 : xAt kT297 374 (.newarray .int) 376 := ⟨2, rfl, Or.inr rfl, rfl⟩
theorem yl297_376 : xAt kT297 376 (.putfield 144) 379 := ⟨3, rfl, Or.inr rfl, rfl⟩
theorem yl297_379 : xAt kT297 379 (.aload_n 0) 380 := ⟨1, rfl, Or.inr rfl, rfl⟩
theorem yl297_380 : xAt kT297 380 (.sipush 3584) 383 := ⟨3, rfl, Or.inr rfl, rfl⟩
theorem yl297_383 : xAt kT297 383 (.newarray .int) 385 := ⟨2, rfl, Or.inr rfl, rfl⟩
theorem yl297_385 : xAt kT297 385 (.putfield 147) 388 := ⟨3, rfl, Or.inr rfl, rfl⟩
theorem yl297_388 : xAt kT297 388 (.aload_n 0) 389 := ⟨1, rfl, Or.inr rfl, rfl⟩
theorem yl297_389 : xAt kT297 389 (.sipush 3584) 392 := ⟨3, rfl, Or.inr rfl, rfl⟩
theorem yl297_392 : xAt kT297 392 (.newarray .int) 394 := ⟨2, rfl, Or.inr rfl, rfl⟩
theorem yl297_394 : xAt kT297 394 (.putfield 150) 397 := ⟨3, rfl, Or.inr rfl, rfl⟩
theorem yl297_397 : xAt kT297 397 (.aload_n 0) 398 := ⟨1, rfl, Or.inr rfl, rfl⟩
theorem yl297_398 : xAt kT297 398 (.ldc 153) 400 := ⟨2, rfl, Or.inr rfl, rfl⟩
theorem yl297_400 : xAt kT297 400 (.newarray .long) 402 := ⟨2, rfl, Or.inr rfl, rfl⟩
theorem yl297_402 : xAt kT297 402 (.putfield 154) 405 := ⟨3, rfl, Or.inr rfl, rfl⟩
theorem yl297_405 : xAt kT297 405 (.aload_n 0) 406 := ⟨1, rfl, Or.inr rfl, rfl⟩
theorem yl297_406 : xAt kT297 406 (.bipush 7) 408 := ⟨2, rfl, Or.inr rfl, rfl⟩
theorem yl297_408 : xAt kT297 408 (.newarray .int) 410 := ⟨2, rfl, Or.inr rfl, rfl⟩
theorem yl297_410 : xAt kT297 410 (.putfield 157) 413 := ⟨3, rfl, Or.inr rfl, rfl⟩
theorem yl297_413 : xAt kT297 413 (.aload_n 0) 414 := ⟨1, rfl, Or.inr rfl, rfl⟩
theorem yl297_414 : xAt kT297 414 (.bipush 7) 416 := ⟨2, rfl, Or.inr rfl, rfl⟩
theorem yl297_416 : xAt kT297 416 (.newarray .int) 418 := ⟨2, rfl, Or.inr rfl, rfl⟩
theorem yl297_418 : xAt kT297 418 (.putfield 160) 421 := ⟨3, rfl, Or.inr rfl, rfl⟩
theorem yl297_421 : xAt kT297 421 (.aload_n 0) 422 := ⟨1, rfl, Or.inr rfl, rfl⟩
theorem yl297_422 : xAt kT297 422 (.ldc 163) 424 := ⟨2, rfl, Or.inr rfl, rfl⟩
theorem yl297_424 : xAt kT297 424 (.newarray .byte) 426 := ⟨2, rfl, Or.inr rfl, rfl⟩
theorem yl297_426 : xAt kT297 426 (.putfield 164) 429 := ⟨3, rfl, Or.inr rfl, rfl⟩
theorem yl297_429 : xAt kT297 429 (.aload_n 0) 430 := ⟨1, rfl, Or.inr rfl, rfl⟩
theorem yl297_430 : xAt kT297 430 (.bipush 7) 432 := ⟨2, rfl, Or.inr rfl, rfl⟩
theorem yl297_432 : xAt kT297 432 (.newarray .int) 434 := ⟨2, rfl, Or.inr rfl, rfl⟩
theorem yl297_434 : xAt kT297 434 (.putfield 167) 437 := ⟨3, rfl, Or.inr rfl, rfl⟩
theorem yl297_437 : xAt kT297 437 (.aload_n 0) 438 := ⟨1, rfl, Or.inr rfl, rfl⟩
theorem yl297_438 : xAt kT297 438 (.ldc 163) 440 := ⟨2, rfl, Or.inr rfl, rfl⟩
theorem yl297_440 : xAt kT297 440 (.newarray .byte) 442 := ⟨2, rfl, Or.inr rfl, rfl⟩
theorem yl297_442 : xAt kT297 442 (.putfield 170) 445 := ⟨3, rfl, Or.inr rfl, rfl⟩
theorem yl297_445 : xAt kT297 445 (.aload_n 0) 446 := ⟨1, rfl, Or.inr rfl, rfl⟩
theorem yl297_446 : xAt kT297 446 (.bipush 7) 448 := ⟨2, rfl, Or.inr rfl, rfl⟩
theorem yl297_448 : xAt kT297 448 (.newarray .int) 450 := ⟨2, rfl, Or.inr rfl, rfl⟩
theorem yl297_450 : xAt kT297 450 (.putfield 173) 453 := ⟨3, rfl, Or.inr rfl, rfl⟩
theorem yl297_453 : xAt kT297 453 (.aload_n 0) 454 := ⟨1, rfl, Or.inr rfl, rfl⟩
theorem yl297_454 : xAt kT297 454 (.bipush 7) 456 := ⟨2, rfl, Or.inr rfl, rfl⟩
theorem yl297_456 : xAt kT297 456 (.newarray .int) 458 := ⟨2, rfl, Or.inr rfl, rfl⟩
theorem yl297_458 : xAt kT297 458 (.putfield 176) 461 := ⟨3, rfl, Or.inr rfl, rfl⟩
theorem yl297_461 : xAt kT297 461 (.aload_n 0) 462 := ⟨1, rfl, Or.inr rfl, rfl⟩
theorem yl297_462 : xAt kT297 462 (.bipush 7) 464 := ⟨2, rfl, Or.inr rfl, rfl⟩
theorem yl297_464 : xAt kT297 464 (.newarray .boolean) 466 := ⟨2, rfl, Or.inr rfl, rfl⟩
theorem yl297_466 : xAt kT297 466 (.putfield 179) 469 := ⟨3, rfl, Or.inr rfl, rfl⟩
theorem yl297_469 : xAt kT297 469 (.aload_n 0) 470 := ⟨1, rfl, Or.inr rfl, rfl⟩
theorem yl297_470 : xAt kT297 470 (.bipush 7) 472 := ⟨2, rfl, Or.inr rfl, rfl⟩
theorem yl297_472 : xAt kT297 472 (.newarray .int) 474 := ⟨2, rfl, Or.inr rfl, rfl⟩
theorem yl297_474 : xAt kT297 474 (.putfield 182) 477 := ⟨3, rfl, Or.inr rfl, rfl⟩
theorem yl297_477 : xAt kT297 477 (.aload_n 0) 478 := ⟨1, rfl, Or.inr rfl, rfl⟩
theorem yl297_478 : xAt kT297 478 (.bipush 7) 480 := ⟨2, rfl, Or.inr rfl, rfl⟩
theorem yl297_480 : xAt kT297 480 (.newarray .int) 482 := ⟨2, rfl, Or.inr rfl, rfl⟩
theorem yl297_482 : xAt kT297 482 (.putfield 185) 485 := ⟨3, rfl, Or.inr rfl, rfl⟩
theorem yl297_485 : xAt kT297 485 (.aload_n 0) 486 := ⟨1, rfl, Or.inr rfl, rfl⟩
theorem yl297_486 : xAt kT297 486 (.bipush 7) 488 := ⟨2, rfl, Or.inr rfl, rfl⟩
theorem yl297_488 : xAt kT297 488 (.newarray .int) 490 := ⟨2, rfl, Or.inr rfl, rfl⟩
theorem yl297_490 : xAt kT297 490 (.putfield 188) 493 := ⟨3, rfl, Or.inr rfl, rfl⟩
theorem yl297_493 : xAt kT297 493 (.aload_n 0) 494 := ⟨1, rfl, Or.inr rfl, rfl⟩
theorem yl297_494 : xAt kT297 494 (.bipush 7) 496 := ⟨2, rfl, Or.inr rfl, rfl⟩
theorem yl297_496 : xAt kT297 496 (.newarray .int) 498 := ⟨2, rfl, Or.inr rfl, rfl⟩
theorem yl297_498 : xAt kT297 498 (.putfield 191) 501 := ⟨3, rfl, Or.inr rfl, rfl⟩
theorem yl297_501 : xAt kT297 501 (.aload_n 0) 502 := ⟨1, rfl, Or.inr rfl, rfl⟩
theorem yl297_502 : xAt kT297 502 (.bipush 7) 504 := ⟨2, rfl, Or.inr rfl, rfl⟩
theorem yl297_504 : xAt kT297 504 (.newarray .int) 506 := ⟨2, rfl, Or.inr rfl, rfl⟩
theorem yl297_506 : xAt kT297 506 (.putfield 194) 509 := ⟨3, rfl, Or.inr rfl, rfl⟩
theorem yl297_509 : xAt kT297 509 (.aload_n 0) 510 := ⟨1, rfl, Or.inr rfl, rfl⟩
theorem yl297_510 : xAt kT297 510 (.bipush 7) 512 := ⟨2, rfl, Or.inr rfl, rfl⟩
theorem yl297_512 : xAt kT297 512 (.newarray .int) 514 := ⟨2, rfl, Or.inr rfl, rfl⟩
theorem yl297_514 : xAt kT297 514 (.putfield 197) 517 := ⟨3, rfl, Or.inr rfl, rfl⟩
theorem yl297_517 : xAt kT297 517 (.aload_n 0) 518 := ⟨1, rfl, Or.inr rfl, rfl⟩
theorem yl297_518 : xAt kT297 518 (.bipush 7) 520 := ⟨2, rfl, Or.inr rfl, rfl⟩
theorem yl297_520 : xAt kT297 520 (.newarray .int) 522 := ⟨2, rfl, Or.inr rfl, rfl⟩
theorem yl297_522 : xAt kT297 522 (.putfield 200) 525 := ⟨3, rfl, Or.inr rfl, rfl⟩
theorem yl297_525 : xAt kT297 525 (.aload_n 0) 526 := ⟨1, rfl, Or.inr rfl, rfl⟩
theorem yl297_526 : xAt kT297 526 (.bipush 7) 528 := ⟨2, rfl, Or.inr rfl, rfl⟩
theorem yl297_528 : xAt kT297 528 (.newarray .int) 530 := ⟨2, rfl, Or.inr rfl, rfl⟩
theorem yl297_530 : xAt kT297 530 (.putfield 203) 533 := ⟨3, rfl, Or.inr rfl, rfl⟩
theorem yl297_533 : xAt kT297 533 (.aload_n 0) 534 := ⟨1, rfl, Or.inr rfl, rfl⟩
theorem yl297_534 : xAt kT297 534 (.bipush 7) 536 := ⟨2, rfl, Or.inr rfl, rfl⟩
theorem yl297_536 : xAt kT297 536 (.newarray .int) 538 := ⟨2, rfl, Or.inr rfl, rfl⟩
theorem yl297_538 : xAt kT297 538 (.putfield 206) 541 := ⟨3, rfl, Or.inr rfl, rfl⟩
theorem yl297_541 : xAt kT297 541 (.aload_n 0) 542 := ⟨1, rfl, Or.inr rfl, rfl⟩
theorem yl297_542 : xAt kT297 542 (.bipush 7) 544 := ⟨2, rfl, Or.inr rfl, rfl⟩
theorem yl297_544 : xAt kT297 544 (.newarray .int) 546 := ⟨2, rfl, Or.inr rfl, rfl⟩
theorem yl297_546 : xAt kT297 546 (.putfield 209) 549 := ⟨3, rfl, Or.inr rfl, rfl⟩
theorem yl297_549 : xAt kT297 549 (.aload_n 0) 550 := ⟨1, rfl, Or.inr rfl, rfl⟩
theorem yl297_550 : xAt kT297 550 (.bipush 7) 552 := ⟨2, rfl, Or.inr rfl, rfl⟩
theorem yl297_552 : xAt kT297 552 (.newarray .int) 554 := ⟨2, rfl, Or.inr rfl, rfl⟩
theorem yl297_554 : xAt kT297 554 (.putfield 212) 557 := ⟨3, rfl, Or.inr rfl, rfl⟩
theorem yl297_557 : xAt kT297 557 (.aload_n 0) 558 := ⟨1, rfl, Or.inr rfl, rfl⟩
theorem yl297_558 : xAt kT297 558 (.bipush 7) 560 := ⟨2, rfl, Or.inr rfl, rfl⟩
theorem yl297_560 : xAt kT297 560 (.newarray .int) 562 := ⟨2, rfl, Or.inr rfl, rfl⟩
theorem yl297_562 : xAt kT297 562 (.putfield 215) 565 := ⟨3, rfl, Or.inr rfl, rfl⟩
theorem yl297_565 : xAt kT297 565 (.aload_n 0) 566 := ⟨1, rfl, Or.inr rfl, rfl⟩
theorem yl297_566 : xAt kT297 566 (.bipush 7) 568 := ⟨2, rfl, Or.inr rfl, rfl⟩
theorem yl297_568 : xAt kT297 568 (.newarray .long) 570 := ⟨2, rfl, Or.inr rfl, rfl⟩
theorem yl297_570 : xAt kT297 570 (.putfield 218) 573 := ⟨3, rfl, Or.inr rfl, rfl⟩
theorem yl297_573 : xAt kT297 573 (.aload_n 0) 574 := ⟨1, rfl, Or.inr rfl, rfl⟩
theorem yl297_574 : xAt kT297 574 (.bipush 7) 576 := ⟨2, rfl, Or.inr rfl, rfl⟩
theorem yl297_576 : xAt kT297 576 (.newarray .int) 578 := ⟨2, rfl, Or.inr rfl, rfl⟩
theorem yl297_578 : xAt kT297 578 (.putfield 221) 581 := ⟨3, rfl, Or.inr rfl, rfl⟩
theorem yl297_581 : xAt kT297 581 (.aload_n 0) 582 := ⟨1, rfl, Or.inr rfl, rfl⟩
theorem yl297_582 : xAt kT297 582 (.bipush 49) 584 := ⟨2, rfl, Or.inr rfl, rfl⟩
theorem yl297_584 : xAt kT297 584 (.newarray .int) 586 := ⟨2, rfl, Or.inr rfl, rfl⟩
theorem yl297_586 : xAt kT297 586 (.putfield 224) 589 := ⟨3, rfl, Or.inr rfl, rfl⟩
theorem yl297_589 : xAt kT297 589 (.aload_n 0) 590 := ⟨1, rfl, Or.inr rfl, rfl⟩
theorem yl297_590 : xAt kT297 590 (.bipush 49) 592 := ⟨2, rfl, Or.inr rfl, rfl⟩
theorem yl297_592 : xAt kT297 592 (.newarray .int) 594 := ⟨2, rfl, Or.inr rfl, rfl⟩
theorem yl297_594 : xAt kT297 594 (.putfield 227) 597 := ⟨3, rfl, Or.inr rfl, rfl⟩
theorem yl297_597 : xAt kT297 597 (.aload_n 0) 598 := ⟨1, rfl, Or.inr rfl, rfl⟩
theorem yl297_598 : xAt kT297 598 (.bipush 49) 600 := ⟨2, rfl, Or.inr rfl, rfl⟩
theorem yl297_600 : xAt kT297 600 (.newarray .int) 602 := ⟨2, rfl, Or.inr rfl, rfl⟩
theorem yl297_602 : xAt kT297 602 (.putfield 230) 605 := ⟨3, rfl, Or.inr rfl, rfl⟩
theorem yl297_605 : xAt kT297 605 (.aload_n 0) 606 := ⟨1, rfl, Or.inr rfl, rfl⟩
theorem yl297_606 : xAt kT297 606 (.bipush 49) 608 := ⟨2, rfl, Or.inr rfl, rfl⟩
theorem yl297_608 : xAt kT297 608 (.newarray .boolean) 610 := ⟨2, rfl, Or.inr rfl, rfl⟩
theorem yl297_610 : xAt kT297 610 (.putfield 233) 613 := ⟨3, rfl, Or.inr rfl, rfl⟩
theorem yl297_613 : xAt kT297 613 (.aload_n 0) 614 := ⟨1, rfl, Or.inr rfl, rfl⟩
theorem yl297_614 : xAt kT297 614 (.bipush 49) 616 := ⟨2, rfl, Or.inr rfl, rfl⟩
theorem yl297_616 : xAt kT297 616 (.newarray .int) 618 := ⟨2, rfl, Or.inr rfl, rfl⟩
theorem yl297_618 : xAt kT297 618 (.putfield 236) 621 := ⟨3, rfl, Or.inr rfl, rfl⟩
theorem yl297_621 : xAt kT297 621 (.aload_n 0) 622 := ⟨1, rfl, Or.inr rfl, rfl⟩
theorem yl297_622 : xAt kT297 622 (.bipush 49) 624 := ⟨2, rfl, Or.inr rfl, rfl⟩
theorem yl297_624 : xAt kT297 624 (.newarray .int) 626 := ⟨2, rfl, Or.inr rfl, rfl⟩
theorem yl297_626 : xAt kT297 626 (.putfield 239) 629 := ⟨3, rfl, Or.inr rfl, rfl⟩
theorem yl297_629 : xAt kT297 629 (.aload_n 0) 630 := ⟨1, rfl, Or.inr rfl, rfl⟩
theorem yl297_630 : xAt kT297 630 (.bipush 49) 632 := ⟨2, rfl, Or.inr rfl, rfl⟩
theorem yl297_632 : xAt kT297 632 (.newarray .int) 634 := ⟨2, rfl, Or.inr rfl, rfl⟩
theorem yl297_634 : xAt kT297 634 (.putfield 242) 637 := ⟨3, rfl, Or.inr rfl, rfl⟩
theorem yl297_637 : xAt kT297 637 (.aload_n 0) 638 := ⟨1, rfl, Or.inr rfl, rfl⟩
theorem yl297_638 : xAt kT297 638 (.bipush 49) 640 := ⟨2, rfl, Or.inr rfl, rfl⟩
theorem yl297_640 : xAt kT297 640 (.newarray .boolean) 642 := ⟨2, rfl, Or.inr rfl, rfl⟩
theorem yl297_642 : xAt kT297 642 (.putfield 245) 645 := ⟨3, rfl, Or.inr rfl, rfl⟩
theorem yl297_645 : xAt kT297 645 (.aload_n 0) 646 := ⟨1, rfl, Or.inr rfl, rfl⟩
theorem yl297_646 : xAt kT297 646 (.bipush 7) 648 := ⟨2, rfl, Or.inr rfl, rfl⟩
theorem yl297_648 : xAt kT297 648 (.newarray .int) 650 := ⟨2, rfl, Or.inr rfl, rfl⟩
theorem yl297_650 : xAt kT297 650 (.putfield 248) 653 := ⟨3, rfl, Or.inr rfl, rfl⟩
theorem yl297_653 : xAt kT297 653 (.aload_n 0) 654 := ⟨1, rfl, Or.inr rfl, rfl⟩
theorem yl297_654 : xAt kT297 654 (.sipush 224) 657 := ⟨3, rfl, Or.inr rfl, rfl⟩
theorem yl297_657 : xAt kT297 657 (.newarray .boolean) 659 := ⟨2, rfl, Or.inr rfl, rfl⟩
theorem yl297_659 : xAt kT297 659 (.putfield 251) 662 := ⟨3, rfl, Or.inr rfl, rfl⟩
theorem yl297_662 : xAt kT297 662 (.aload_n 0) 663 := ⟨1, rfl, Or.inr rfl, rfl⟩
theorem yl297_663 : xAt kT297 663 (.sipush 224) 666 := ⟨3, rfl, Or.inr rfl, rfl⟩
theorem yl297_666 : xAt kT297 666 (.newarray .boolean) 668 := ⟨2, rfl, Or.inr rfl, rfl⟩
theorem yl297_668 : xAt kT297 668 (.putfield 254) 671 := ⟨3, rfl, Or.inr rfl, rfl⟩
theorem yl297_671 : xAt kT297 671 (.aload_n 0) 672 := ⟨1, rfl, Or.inr rfl, rfl⟩
theorem yl297_672 : xAt kT297 672 (.sipush 224) 675 := ⟨3, rfl, Or.inr rfl, rfl⟩
theorem yl297_675 : xAt kT297 675 (.newarray .int) 677 := ⟨2, rfl, Or.inr rfl, rfl⟩
theorem yl297_677 : xAt kT297 677 (.putfield 257) 680 := ⟨3, rfl, Or.inr rfl, rfl⟩
theorem yl297_680 : xAt kT297 680 (.aload_n 0) 681 := ⟨1, rfl, Or.inr rfl, rfl⟩
theorem yl297_681 : xAt kT297 681 (.sipush 224) 684 := ⟨3, rfl, Or.inr rfl, rfl⟩
theorem yl297_684 : xAt kT297 684 (.newarray .int) 686 := ⟨2, rfl, Or.inr rfl, rfl⟩
theorem yl297_686 : xAt kT297 686 (.putfield 260) 689 := ⟨3, rfl, Or.inr rfl, rfl⟩
theorem yl297_689 : xAt kT297 689 (.aload_n 0) 690 := ⟨1, rfl, Or.inr rfl, rfl⟩
theorem yl297_690 : xAt kT297 690 (.sipush 224) 693 := ⟨3, rfl, Or.inr rfl, rfl⟩
theorem yl297_693 : xAt kT297 693 (.newarray .int) 695 := ⟨2, rfl, Or.inr rfl, rfl⟩
theorem yl297_695 : xAt kT297 695 (.putfield 263) 698 := ⟨3, rfl, Or.inr rfl, rfl⟩
theorem yl297_698 : xAt kT297 698 (.aload_n 0) 699 := ⟨1, rfl, Or.inr rfl, rfl⟩
theorem yl297_699 : xAt kT297 699 (.sipush 224) 702 := ⟨3, rfl, Or.inr rfl, rfl⟩
theorem yl297_702 : xAt kT297 702 (.newarray .int) 704 := ⟨2, rfl, Or.inr rfl, rfl⟩
theorem yl297_704 : xAt kT297 704 (.putfield 266) 707 := ⟨3, rfl, Or.inr rfl, rfl⟩
theorem yl297_707 : xAt kT297 707 (.aload_n 0) 708 := ⟨1, rfl, Or.inr rfl, rfl⟩
theorem yl297_708 : xAt kT297 708 (.sipush 224) 711 := ⟨3, rfl, Or.inr rfl, rfl⟩
theorem yl297_711 : xAt kT297 711 (.newarray .int) 713 := ⟨2, rfl, Or.inr rfl, rfl⟩
theorem yl297_713 : xAt kT297 713 (.putfield 269) 716 := ⟨3, rfl, Or.inr rfl, rfl⟩
theorem yl297_716 : xAt kT297 716 (.aload_n 0) 717 := ⟨1, rfl, Or.inr rfl, rfl⟩
theorem yl297_717 : xAt kT297 717 (.sipush 224) 720 := ⟨3, rfl, Or.inr rfl, rfl⟩
theorem yl297_720 : xAt kT297 720 (.newarray .int) 722 := ⟨2, rfl, Or.inr rfl, rfl⟩
theorem yl297_722 : xAt kT297 722 (.putfield 272) 725 := ⟨3, rfl, Or.inr rfl, rfl⟩
theorem yl297_725 : xAt kT297 725 (.aload_n 0) 726 := ⟨1, rfl, Or.inr rfl, rfl⟩
theorem yl297_726 : xAt kT297 726 (.sipush 224) 729 := ⟨3, rfl, Or.inr rfl, rfl⟩
theorem yl297_729 : xAt kT297 729 (.newarray .int) 731 := ⟨2, rfl, Or.inr rfl, rfl⟩
theorem yl297_731 : xAt kT297 731 (.putfield 275) 734 := ⟨3, rfl, Or.inr rfl, rfl⟩
theorem yl297_734 : xAt kT297 734 (.aload_n 0) 735 := ⟨1, rfl, Or.inr rfl, rfl⟩
theorem yl297_735 : xAt kT297 735 (.sipush 224) 738 := ⟨3, rfl, Or.inr rfl, rfl⟩
theorem yl297_738 : xAt kT297 738 (.newarray .int) 740 := ⟨2, rfl, Or.inr rfl, rfl⟩
theorem yl297_740 : xAt kT297 740 (.putfield 278) 743 := ⟨3, rfl, Or.inr rfl, rfl⟩
theorem yl297_743 : xAt kT297 743 (.aload_n 0) 744 := ⟨1, rfl, Or.inr rfl, rfl⟩
theorem yl297_744 : xAt kT297 744 (.sipush 14336) 747 := ⟨3, rfl, Or.inr rfl, rfl⟩
theorem yl297_747 : xAt kT297 747 (.newarray .byte) 749 := ⟨2, rfl, Or.inr rfl, rfl⟩
theorem yl297_749 : xAt kT297 749 (.putfield 281) 752 := ⟨3, rfl, Or.inr rfl, rfl⟩
theorem yl297_752 : xAt kT297 752 (.aload_n 0) 753 := ⟨1, rfl, Or.inr rfl, rfl⟩
theorem yl297_753 : xAt kT297 753 (.bipush 7) 755 := ⟨2, rfl, Or.inr rfl, rfl⟩
theorem yl297_755 : xAt kT297 755 (.newarray .int) 757 := ⟨2, rfl, Or.inr rfl, rfl⟩
theorem yl297_757 : xAt kT297 757 (.putfield 284) 760 := ⟨3, rfl, Or.inr rfl, rfl⟩
theorem yl297_760 : xAt kT297 760 (.aload_n 0) 761 := ⟨1, rfl, Or.inr rfl, rfl⟩
theorem yl297_761 : xAt kT297 761 (.bipush 112) 763 := ⟨2, rfl, Or.inr rfl, rfl⟩
theorem yl297_763 : xAt kT297 763 (.newarray .int) 765 := ⟨2, rfl, Or.inr rfl, rfl⟩
theorem yl297_765 : xAt kT297 765 (.putfield 287) 768 := ⟨3, rfl, Or.inr rfl, rfl⟩
theorem yl297_768 : xAt kT297 768 (.aload_n 0) 769 := ⟨1, rfl, Or.inr rfl, rfl⟩
theorem yl297_769 : xAt kT297 769 (.bipush 112) 771 := ⟨2, rfl, Or.inr rfl, rfl⟩
theorem yl297_771 : xAt kT297 771 (.newarray .int) 773 := ⟨2, rfl, Or.inr rfl, rfl⟩
theorem yl297_773 : xAt kT297 773 (.putfield 290) 776 := ⟨3, rfl, Or.inr rfl, rfl⟩
theorem yl297_776 : xAt kT297 776 (.aload_n 0) 777 := ⟨1, rfl, Or.inr rfl, rfl⟩
theorem yl297_777 : xAt kT297 777 (.bipush 112) 779 := ⟨2, rfl, Or.inr rfl, rfl⟩
theorem yl297_779 : xAt kT297 779 (.newarray .int) 781 := ⟨2, rfl, Or.inr rfl, rfl⟩
theorem yl297_781 : xAt kT297 781 (.putfield 293) 784 := ⟨3, rfl, Or.inr rfl, rfl⟩
theorem yl297_784 : xAt kT297 784 (.aload_n 0) 785 := ⟨1, rfl, Or.inr rfl, rfl⟩
theorem yl297_785 : xAt kT297 785 (.bipush 112) 787 := ⟨2, rfl, Or.inr rfl, rfl⟩
theorem yl297_787 : xAt kT297 787 (.newarray .int) 789 := ⟨2, rfl, Or.inr rfl, rfl⟩
theorem yl297_789 : xAt kT297 789 (.putfield 296) 792 := ⟨3, rfl, Or.inr rfl, rfl⟩
theorem yl297_792 : xAt kT297 792 (.aload_n 0) 793 := ⟨1, rfl, Or.inr rfl, rfl⟩
theorem yl297_793 : xAt kT297 793 (.bipush 112) 795 := ⟨2, rfl, Or.inr rfl, rfl⟩
theorem yl297_795 : xAt kT297 795 (.newarray .int) 797 := ⟨2, rfl, Or.inr rfl, rfl⟩
theorem yl297_797 : xAt kT297 797 (.putfield 299) 800 := ⟨3, rfl, Or.inr rfl, rfl⟩
theorem yl297_800 : xAt kT297 800 (.aload_n 0) 801 := ⟨1, rfl, Or.inr rfl, rfl⟩
theorem yl297_801 : xAt kT297 801 (.sipush 12544) 804 := ⟨3, rfl, Or.inr rfl, rfl⟩
theorem yl297_804 : xAt kT297 804 (.newarray .byte) 806 := ⟨2, rfl, Or.inr rfl, rfl⟩
theorem yl297_806 : xAt kT297 806 (.putfield 302) 809 := ⟨3, rfl, Or.inr rfl, rfl⟩
theorem yl297_809 : xAt kT297 809 (.aload_n 0) 810 := ⟨1, rfl, Or.inr rfl, rfl⟩
theorem yl297_810 : xAt kT297 810 (.bipush 7) 812 := ⟨2, rfl, Or.inr rfl, rfl⟩
theorem yl297_812 : xAt kT297 812 (.newarray .int) 814 := ⟨2, rfl, Or.inr rfl, rfl⟩
theorem yl297_814 : xAt kT297 814 (.putfield 305) 817 := ⟨3, rfl, Or.inr rfl, rfl⟩
theorem yl297_817 : xAt kT297 817 (.aload_n 0) 818 := ⟨1, rfl, Or.inr rfl, rfl⟩
theorem yl297_818 : xAt kT297 818 (.sipush 896) 821 := ⟨3, rfl, Or.inr rfl, rfl⟩
theorem yl297_821 : xAt kT297 821 (.newarray .int) 823 := ⟨2, rfl, Or.inr rfl, rfl⟩
theorem yl297_823 : xAt kT297 823 (.putfield 308) 826 := ⟨3, rfl, Or.inr rfl, rfl⟩
theorem yl297_826 : xAt kT297 826 (.aload_n 0) 827 := ⟨1, rfl, Or.inr rfl, rfl⟩
theorem yl297_827 : xAt kT297 827 (.sipush 896) 830 := ⟨3, rfl, Or.inr rfl, rfl⟩
theorem yl297_830 : xAt kT297 830 (.newarray .int) 832 := ⟨2, rfl, Or.inr rfl, rfl⟩
theorem yl297_832 : xAt kT297 832 (.putfield 311) 835 := ⟨3, rfl, Or.inr rfl, rfl⟩
theorem yl297_835 : xAt kT297 835 (.aload_n 0) 836 := ⟨1, rfl, Or.inr rfl, rfl⟩
theorem yl297_836 : xAt kT297 836 (.sipush 28672) 839 := ⟨3, rfl, Or.inr rfl, rfl⟩
theorem yl297_839 : xAt kT297 839 (.newarray .byte) 841 := ⟨2, rfl, Or.inr rfl, rfl⟩
theorem yl297_841 : xAt kT297 841 (.putfield 314) 844 := ⟨3, rfl, Or.inr rfl, rfl⟩
theorem yl297_844 : xAt kT297 844 (.aload_n 0) 845 := ⟨1, rfl, Or.inr rfl, rfl⟩
theorem yl297_845 : xAt kT297 845 (.ldc_w 317) 848 := ⟨3, rfl, Or.inr rfl, rfl⟩
theorem yl297_848 : xAt kT297 848 (.newarray .byte) 850 := ⟨2, rfl, Or.inr rfl, rfl⟩
theorem yl297_850 : xAt kT297 850 (.putfield 318) 853 := ⟨3, rfl, Or.inr rfl, rfl⟩
theorem yl297_853 : xAt kT297 853 (.aload_n 0) 854 := ⟨1, rfl, Or.inr rfl, rfl⟩
theorem yl297_854 : xAt kT297 854 (.sipush 896) 857 := ⟨3, rfl, Or.inr rfl, rfl⟩
theorem yl297_857 : xAt kT297 857 (.newarray .int) 859 := ⟨2, rfl, Or.inr rfl, rfl⟩
theorem yl297_859 : xAt kT297 859 (.putfield 321) 862 := ⟨3, rfl, Or.inr rfl, rfl⟩
theorem yl297_862 : xAt kT297 862 (.aload_n 0) 863 := ⟨1, rfl, Or.inr rfl, rfl⟩
theorem yl297_863 : xAt kT297 863 (.sipush 896) 866 := ⟨3, rfl, Or.inr rfl, rfl⟩
theorem yl297_866 : xAt kT297 866 (.newarray .boolean) 868 := ⟨2, rfl, Or.inr rfl, rfl⟩
theorem yl297_868 : xAt kT297 868 (.putfield 324) 871 := ⟨3, rfl, Or.inr rfl, rfl⟩
theorem yl297_871 : xAt kT297 871 (.aload_n 0) 872 := ⟨1, rfl, Or.inr rfl, rfl⟩
theorem yl297_872 : xAt kT297 872 (.sipush 160) 875 := ⟨3, rfl, Or.inr rfl, rfl⟩
theorem yl297_875 : xAt kT297 875 (.newarray .byte) 877 := ⟨2, rfl, Or.inr rfl, rfl⟩
theorem yl297_877 : xAt kT297 877 (.putfield 327) 880 := ⟨3, rfl, Or.inr rfl, rfl⟩
theorem yl297_880 : xAt kT297 880 (.aload_n 0) 881 := ⟨1, rfl, Or.inr rfl, rfl⟩
theorem yl297_881 : xAt kT297 881 (.bipush 8) 883 := ⟨2, rfl, Or.inr rfl, rfl⟩
theorem yl297_883 : xAt kT297 883 (.newarray .boolean) 885 := ⟨2, rfl, Or.inr rfl, rfl⟩
theorem yl297_885 : xAt kT297 885 (.putfield 330) 888 := ⟨3, rfl, Or.inr rfl, rfl⟩
theorem yl297_888 : xAt kT297 888 (.aload_n 0) 889 := ⟨1, rfl, Or.inr rfl, rfl⟩
theorem yl297_889 : xAt kT297 889 (.bipush 8) 891 := ⟨2, rfl, Or.inr rfl, rfl⟩
theorem yl297_891 : xAt kT297 891 (.newarray .int) 893 := ⟨2, rfl, Or.inr rfl, rfl⟩
theorem yl297_893 : xAt kT297 893 (.putfield 333) 896 := ⟨3, rfl, Or.inr rfl, rfl⟩
theorem yl297_896 : xAt kT297 896 (.aload_n 0) 897 := ⟨1, rfl, Or.inr rfl, rfl⟩
theorem yl297_897 : xAt kT297 897 (.bipush 8) 899 := ⟨2, rfl, Or.inr rfl, rfl⟩
theorem yl297_899 : xAt kT297 899 (.newarray .int) 901 := ⟨2, rfl, Or.inr rfl, rfl⟩
theorem yl297_901 : xAt kT297 901 (.putfield 336) 904 := ⟨3, rfl, Or.inr rfl, rfl⟩
theorem yl297_904 : xAt kT297 904 (.aload_n 0) 905 := ⟨1, rfl, Or.inr rfl, rfl⟩
theorem yl297_905 : xAt kT297 905 (.bipush 8) 907 := ⟨2, rfl, Or.inr rfl, rfl⟩
theorem yl297_907 : xAt kT297 907 (.newarray .int) 909 := ⟨2, rfl, Or.inr rfl, rfl⟩
theorem yl297_909 : xAt kT297 909 (.putfield 339) 912 := ⟨3, rfl, Or.inr rfl, rfl⟩
theorem yl297_912 : xAt kT297 912 (.aload_n 0) 913 := ⟨1, rfl, Or.inr rfl, rfl⟩
theorem yl297_913 : xAt kT297 913 (.bipush 8) 915 := ⟨2, rfl, Or.inr rfl, rfl⟩
theorem yl297_915 : xAt kT297 915 (.newarray .int) 917 := ⟨2, rfl, Or.inr rfl, rfl⟩
theorem yl297_917 : xAt kT297 917 (.putfield 342) 920 := ⟨3, rfl, Or.inr rfl, rfl⟩
theorem yl297_920 : xAt kT297 920 (.aload_n 0) 921 := ⟨1, rfl, Or.inr rfl, rfl⟩
theorem yl297_921 : xAt kT297 921 (.bipush 8) 923 := ⟨2, rfl, Or.inr rfl, rfl⟩
theorem yl297_923 : xAt kT297 923 (.newarray .int) 925 := ⟨2, rfl, Or.inr rfl, rfl⟩
theorem yl297_925 : xAt kT297 925 (.putfield 345) 928 := ⟨3, rfl, Or.inr rfl, rfl⟩
theorem yl297_928 : xAt kT297 928 (.aload_n 0) 929 := ⟨1, rfl, Or.inr rfl, rfl⟩
theorem yl297_929 : xAt kT297 929 (.bipush 8) 931 := ⟨2, rfl, Or.inr rfl, rfl⟩
theorem yl297_931 : xAt kT297 931 (.newarray .boolean) 933 := ⟨2, rfl, Or.inr rfl, rfl⟩
theorem yl297_933 : xAt kT297 933 (.putfield 348) 936 := ⟨3, rfl, Or.inr rfl, rfl⟩
theorem yl297_936 : xAt kT297 936 (.aload_n 0) 937 := ⟨1, rfl, Or.inr rfl, rfl⟩
theorem yl297_937 : xAt kT297 937 (.bipush 8) 939 := ⟨2, rfl, Or.inr rfl, rfl⟩
theorem yl297_939 : xAt kT297 939 (.newarray .boolean) 941 := ⟨2, rfl, Or.inr rfl, rfl⟩
theorem yl297_941 : xAt kT297 941 (.putfield 351) 944 := ⟨3, rfl, Or.inr rfl, rfl⟩
theorem yl297_944 : xAt kT297 944 (.aload_n 0) 945 := ⟨1, rfl, Or.inr rfl, rfl⟩
theorem yl297_945 : xAt kT297 945 (.bipush 8) 947 := ⟨2, rfl, Or.inr rfl, rfl⟩
theorem yl297_947 : xAt kT297 947 (.newarray .int) 949 := ⟨2, rfl, Or.inr rfl, rfl⟩
theorem yl297_949 : xAt kT297 949 (.putfield 354) 952 := ⟨3, rfl, Or.inr rfl, rfl⟩
theorem yl297_952 : xAt kT297 952 (.aload_n 0) 953 := ⟨1, rfl, Or.inr rfl, rfl⟩
theorem yl297_953 : xAt kT297 953 (.bipush 8) 955 := ⟨2, rfl, Or.inr rfl, rfl⟩
theorem yl297_955 : xAt kT297 955 (.newarray .int) 957 := ⟨2, rfl, Or.inr rfl, rfl⟩
theorem yl297_957 : xAt kT297 957 (.putfield 357) 960 := ⟨3, rfl, Or.inr rfl, rfl⟩
theorem yl297_960 : xAt kT297 960 (.aload_n 0) 961 := ⟨1, rfl, Or.inr rfl, rfl⟩
theorem yl297_961 : xAt kT297 961 (.bipush 8) 963 := ⟨2, rfl, Or.inr rfl, rfl⟩
theorem yl297_963 : xAt kT297 963 (.newarray .int) 965 := ⟨2, rfl, Or.inr rfl, rfl⟩
theorem yl297_965 : xAt kT297 965 (.putfield 360) 968 := ⟨3, rfl, Or.inr rfl, rfl⟩
theorem yl297_968 : xAt kT297 968 (.aload_n 0) 969 := ⟨1, rfl, Or.inr rfl, rfl⟩
theorem yl297_969 : xAt kT297 969 (.bipush 8) 971 := ⟨2, rfl, Or.inr rfl, rfl⟩
theorem yl297_971 : xAt kT297 971 (.newarray .int) 973 := ⟨2, rfl, Or.inr rfl, rfl⟩
theorem yl297_973 : xAt kT297 973 (.putfield 363) 976 := ⟨3, rfl, Or.inr rfl, rfl⟩
theorem yl297_976 : xAt kT297 976 (.aload_n 0) 977 := ⟨1, rfl, Or.inr rfl, rfl⟩
theorem yl297_977 : xAt kT297 977 (.sipush 3200) 980 := ⟨3, rfl, Or.inr rfl, rfl⟩
theorem yl297_980 : xAt kT297 980 (.newarray .byte) 982 := ⟨2, rfl, Or.inr rfl, rfl⟩
theorem yl297_982 : xAt kT297 982 (.putfield 366) 985 := ⟨3, rfl, Or.inr rfl, rfl⟩
theorem yl297_985 : xAt kT297 985 (.aload_n 0) 986 := ⟨1, rfl, Or.inr rfl, rfl⟩
theorem yl297_986 : xAt kT297 986 (.bipush 8) 988 := ⟨2, rfl, Or.inr rfl, rfl⟩
theorem yl297_988 : xAt kT297 988 (.newarray .int) 990 := ⟨2, rfl, Or.inr rfl, rfl⟩
theorem yl297_990 : xAt kT297 990 (.putfield 369) 993 := ⟨3, rfl, Or.inr rfl, rfl⟩
theorem yl297_993 : xAt kT297 993 (.aload_n 0) 994 := ⟨1, rfl, Or.inr rfl, rfl⟩
theorem yl297_994 : xAt kT297 994 (.sipush 1280) 997 := ⟨3, rfl, Or.inr rfl, rfl⟩
theorem yl297_997 : xAt kT297 997 (.newarray .byte) 999 := ⟨2, rfl, Or.inr rfl, rfl⟩
theorem yl297_999 : xAt kT297 999 (.putfield 372) 1002 := ⟨3, rfl, Or.inr rfl, rfl⟩
theorem yl297_1002 : xAt kT297 1002 (.aload_n 0) 1003 := ⟨1, rfl, Or.inr rfl, rfl⟩
theorem yl297_1003 : xAt kT297 1003 (.bipush 8) 1005 := ⟨2, rfl, Or.inr rfl, rfl⟩
theorem yl297_1005 : xAt kT297 1005 (.newarray .int) 1007 := ⟨2, rfl, Or.inr rfl, rfl⟩
theorem yl297_1007 : xAt kT297 1007 (.putfield 375) 1010 := ⟨3, rfl, Or.inr rfl, rfl⟩
theorem yl297_1010 : xAt kT297 1010 (.aload_n 0) 1011 := ⟨1, rfl, Or.inr rfl, rfl⟩
theorem yl297_1011 : xAt kT297 1011 (.sipush 6144) 1014 := ⟨3, rfl, Or.inr rfl, rfl⟩
theorem yl297_1014 : xAt kT297 1014 (.newarray .int) 1016 := ⟨2, rfl, Or.inr rfl, rfl⟩
theorem yl297_1016 : xAt kT297 1016 (.putfield 378) 1019 := ⟨3, rfl, Or.inr rfl, rfl⟩
theorem yl297_1019 : xAt kT297 1019 (.aload_n 0) 1020 := ⟨1, rfl, Or.inr rfl, rfl⟩
theorem yl297_1020 : xAt kT297 1020 (.sipush 160) 1023 := ⟨3, rfl, Or.inr rfl, rfl⟩
theorem yl297_1023 : xAt kT297 1023 (.newarray .byte) 1025 := ⟨2, rfl, Or.inr rfl, rfl⟩
theorem yl297_1025 : xAt kT297 1025 (.putfield 381) 1028 := ⟨3, rfl, Or.inr rfl, rfl⟩
theorem yl297_1028 : xAt kT297 1028 (.iload_n 1) 1029 := ⟨1, rfl, Or.inr rfl, rfl⟩
theorem yl297_1029 : xAt kT297 1029 (.iconst 1) 1030 := ⟨1, rfl, Or.inr rfl, rfl⟩
theorem yl297_1030 : xAt kT297 1030 (.if_icmp .ge 7) 1033 := ⟨3, rfl, Or.inr rfl, rfl⟩
theorem yl297_1033 : xAt kT297 1033 (.iconst 1) 1034 := ⟨1, rfl, Or.inr rfl, rfl⟩
theorem yl297_1034 : xAt kT297 1034 (.goto 15) 1037 := ⟨3, rfl, Or.inr rfl, rfl⟩
theorem yl297_1037 : xAt kT297 1037 (.iload_n 1) 1038 := ⟨1, rfl, Or.inr rfl, rfl⟩
theorem yl297_1038 : xAt kT297 1038 (.bipush 7) 1040 := ⟨2, rfl, Or.inr rfl, rfl⟩
theorem yl297_1040 : xAt kT297 1040 (.if_icmp .le 8) 1043 := ⟨3, rfl, Or.inr rfl, rfl⟩
theorem yl297_1043 : xAt kT297 1043 (.bipush 7) 1045 := ⟨2, rfl, Or.inr rfl, rfl⟩
theorem yl297_1045 : xAt kT297 1045 (.goto 4) 1048 := ⟨3, rfl, Or.inr rfl, rfl⟩
theorem yl297_1048 : xAt kT297 1048 (.iload_n 1) 1049 := ⟨1, rfl, Or.inr rfl, rfl⟩
theorem yl297_1049 : xAt kT297 1049 (.istore 4) 1051 := ⟨2, rfl, Or.inr rfl, rfl⟩
theorem yl297_1051 : xAt kT297 1051 (.iconst 0) 1052 := ⟨1, rfl, Or.inr rfl, rfl⟩
theorem yl297_1052 : xAt kT297 1052 (.istore 5) 1054 := ⟨2, rfl, Or.inr rfl, rfl⟩
theorem yl297_1054 : xAt kT297 1054 (.iload 5) 1056 := ⟨2, rfl, Or.inr rfl, rfl⟩
theorem yl297_1056 : xAt kT297 1056 (.sipush 256) 1059 := ⟨3, rfl, Or.inr rfl, rfl⟩
theorem yl297_1059 : xAt kT297 1059 (.if_icmp .ge 17) 1062 := ⟨3, rfl, Or.inr rfl, rfl⟩
theorem yl297_1062 : xAt kT297 1062 (.aload_n 0) 1063 := ⟨1, rfl, Or.inr rfl, rfl⟩
theorem yl297_1063 : xAt kT297 1063 (.getfield 59) 1066 := ⟨3, rfl, Or.inr rfl, rfl⟩
theorem yl297_1066 : xAt kT297 1066 (.iload 5) 1068 := ⟨2, rfl, Or.inr rfl, rfl⟩
theorem yl297_1068 : xAt kT297 1068 (.iconst 3) 1069 := ⟨1, rfl, Or.inr rfl, rfl⟩
theorem yl297_1069 : xAt kT297 1069 (.iastore) 1070 := ⟨1, rfl, Or.inr rfl, rfl⟩
theorem yl297_1070 : xAt kT297 1070 (.iinc 5 1) 1073 := ⟨3, rfl, Or.inr rfl, rfl⟩
theorem yl297_1073 : xAt kT297 1073 (.goto (-19)) 1076 := ⟨3, rfl, Or.inr rfl, rfl⟩
theorem yl297_1076 : xAt kT297 1076 (.iconst 0) 1077 := ⟨1, rfl, Or.inr rfl, rfl⟩
theorem yl297_1077 : xAt kT297 1077 (.istore 5) 1079 := ⟨2, rfl, Or.inr rfl, rfl⟩
theorem yl297_1079 : xAt kT297 1079 (.iload 5) 1081 := ⟨2, rfl, Or.inr rfl, rfl⟩
theorem yl297_1081 : xAt kT297 1081 (.bipush 16) 1083 := ⟨2, rfl, Or.inr rfl, rfl⟩
theorem yl297_1083 : xAt kT297 1083 (.if_icmp .ge 17) 1086 := ⟨3, rfl, Or.inr rfl, rfl⟩
theorem yl297_1086 : xAt kT297 1086 (.aload_n 0) 1087 := ⟨1, rfl, Or.inr rfl, rfl⟩
theorem yl297_1087 : xAt kT297 1087 (.getfield 62) 1090 := ⟨3, rfl, Or.inr rfl, rfl⟩
theorem yl297_1090 : xAt kT297 1090 (.iload 5) 1092 := ⟨2, rfl, Or.inr rfl, rfl⟩
theorem yl297_1092 : xAt kT297 1092 (.iconst (-1)) 1093 := ⟨1, rfl, Or.inr rfl, rfl⟩
theorem yl297_1093 : xAt kT297 1093 (.iastore) 1094 := ⟨1, rfl, Or.inr rfl, rfl⟩
theorem yl297_1094 : xAt kT297 1094 (.iinc 5 1) 1097 := ⟨3, rfl, Or.inr rfl, rfl⟩
theorem yl297_1097 : xAt kT297 1097 (.goto (-18)) 1100 := ⟨3, rfl, Or.inr rfl, rfl⟩
theorem yl297_1100 : xAt kT297 1100 (.iconst 0) 1101 := ⟨1, rfl, Or.inr rfl, rfl⟩
theorem yl297_1101 : xAt kT297 1101 (.istore 5) 1103 := ⟨2, rfl, Or.inr rfl, rfl⟩
theorem yl297_1103 : xAt kT297 1103 (.iload 5) 1105 := ⟨2, rfl, Or.inr rfl, rfl⟩
theorem yl297_1105 : xAt kT297 1105 (.bipush 7) 1107 := ⟨2, rfl, Or.inr rfl, rfl⟩
theorem yl297_1107 : xAt kT297 1107 (.if_icmp .ge 141) 1110 := ⟨3, rfl, Or.inr rfl, rfl⟩
theorem yl297_1110 : xAt kT297 1110 (.aload_n 0) 1111 := ⟨1, rfl, Or.inr rfl, rfl⟩
theorem yl297_1111 : xAt kT297 1111 (.getfield 68) 1114 := ⟨3, rfl, Or.inr rfl, rfl⟩
theorem yl297_1114 : xAt kT297 1114 (.iload 5) 1116 := ⟨2, rfl, Or.inr rfl, rfl⟩
theorem yl297_1116 : xAt kT297 1116 (.iconst (-1)) 1117 := ⟨1, rfl, Or.inr rfl, rfl⟩
theorem yl297_1117 : xAt kT297 1117 (.iastore) 1118 := ⟨1, rfl, Or.inr rfl, rfl⟩
theorem yl297_1118 : xAt kT297 1118 (.aload_n 0) 1119 := ⟨1, rfl, Or.inr rfl, rfl⟩
theorem yl297_1119 : xAt kT297 1119 (.getfield 102) 1122 := ⟨3, rfl, Or.inr rfl, rfl⟩
theorem yl297_1122 : xAt kT297 1122 (.iload 5) 1124 := ⟨2, rfl, Or.inr rfl, rfl⟩
theorem yl297_1124 : xAt kT297 1124 (.iconst (-1)) 1125 := ⟨1, rfl, Or.inr rfl, rfl⟩
theorem yl297_1125 : xAt kT297 1125 (.iastore) 1126 := ⟨1, rfl, Or.inr rfl, rfl⟩
theorem yl297_1126 : xAt kT297 1126 (.aload_n 0) 1127 := ⟨1, rfl, Or.inr rfl, rfl⟩
theorem yl297_1127 : xAt kT297 1127 (.getfield 108) 1130 := ⟨3, rfl, Or.inr rfl, rfl⟩
theorem yl297_1130 : xAt kT297 1130 (.iload 5) 1132 := ⟨2, rfl, Or.inr rfl, rfl⟩
theorem yl297_1132 : xAt kT297 1132 (.iconst (-1)) 1133 := ⟨1, rfl, Or.inr rfl, rfl⟩
theorem yl297_1133 : xAt kT297 1133 (.iastore) 1134 := ⟨1, rfl, Or.inr rfl, rfl⟩
theorem yl297_1134 : xAt kT297 1134 (.aload_n 0) 1135 := ⟨1, rfl, Or.inr rfl, rfl⟩
theorem yl297_1135 : xAt kT297 1135 (.getfield 120) 1138 := ⟨3, rfl, Or.inr rfl, rfl⟩
theorem yl297_1138 : xAt kT297 1138 (.iload 5) 1140 := ⟨2, rfl, Or.inr rfl, rfl⟩
theorem yl297_1140 : xAt kT297 1140 (.iconst 1) 1141 := ⟨1, rfl, Or.inr rfl, rfl⟩
theorem yl297_1141 : xAt kT297 1141 (.bastore) 1142 := ⟨1, rfl, Or.inr rfl, rfl⟩
theorem yl297_1142 : xAt kT297 1142 (.aload_n 0) 1143 := ⟨1, rfl, Or.inr rfl, rfl⟩
theorem yl297_1143 : xAt kT297 1143 (.getfield 126) 1146 := ⟨3, rfl, Or.inr rfl, rfl⟩
theorem yl297_1146 : xAt kT297 1146 (.iload 5) 1148 := ⟨2, rfl, Or.inr rfl, rfl⟩
theorem yl297_1148 : xAt kT297 1148 (.iconst (-1)) 1149 := ⟨1, rfl, Or.inr rfl, rfl⟩
theorem yl297_1149 : xAt kT297 1149 (.iastore) 1150 := ⟨1, rfl, Or.inr rfl, rfl⟩
theorem yl297_1150 : xAt kT297 1150 (.aload_n 0) 1151 := ⟨1, rfl, Or.inr rfl, rfl⟩
theorem yl297_1151 : xAt kT297 1151 (.getfield 138) 1154 := ⟨3, rfl, Or.inr rfl, rfl⟩
theorem yl297_1154 : xAt kT297 1154 (.iload 5) 1156 := ⟨2, rfl, Or.inr rfl, rfl⟩
theorem yl297_1156 : xAt kT297 1156 (.iconst 1) 1157 := ⟨1, rfl, Or.inr rfl, rfl⟩
theorem yl297_1157 : xAt kT297 1157 (.iload 4) 1159 := ⟨2, rfl, Or.inr rfl, rfl⟩
theorem yl297_1159 : xAt kT297 1159 (.ishl) 1160 := ⟨1, rfl, Or.inr rfl, rfl⟩
theorem yl297_1160 : xAt kT297 1160 (.iconst 1) 1161 := ⟨1, rfl, Or.inr rfl, rfl⟩
theorem yl297_1161 : xAt kT297 1161 (.isub) 1162 := ⟨1, rfl, Or.inr rfl, rfl⟩
theorem yl297_1162 : xAt kT297 1162 (.iastore) 1163 := ⟨1, rfl, Or.inr rfl, rfl⟩
theorem yl297_1163 : xAt kT297 1163 (.aload_n 0) 1164 := ⟨1, rfl, Or.inr rfl, rfl⟩
theorem yl297_1164 : xAt kT297 1164 (.getfield 160) 1167 := ⟨3, rfl, Or.inr rfl, rfl⟩
theorem yl297_1167 : xAt kT297 1167 (.iload 5) 1169 := ⟨2, rfl, Or.inr rfl, rfl⟩
theorem yl297_1169 : xAt kT297 1169 (.aload_n 0) 1170 := ⟨1, rfl, Or.inr rfl, rfl⟩
theorem yl297_1170 : xAt kT297 1170 (.getfield 138) 1173 := ⟨3, rfl, Or.inr rfl, rfl⟩
theorem yl297_1173 : xAt kT297 1173 (.iload 5) 1175 := ⟨2, rfl, Or.inr rfl, rfl⟩
theorem yl297_1175 : xAt kT297 1175 (.iaload) 1176 := ⟨1, rfl, Or.inr rfl, rfl⟩
theorem yl297_1176 : xAt kT297 1176 (.iastore) 1177 := ⟨1, rfl, Or.inr rfl, rfl⟩
theorem yl297_1177 : xAt kT297 1177 (.aload_n 0) 1178 := ⟨1, rfl, Or.inr rfl, rfl⟩
theorem yl297_1178 : xAt kT297 1178 (.aload_n 0) 1179 := ⟨1, rfl, Or.inr rfl, rfl⟩
theorem yl297_1179 : xAt kT297 1179 (.getfield 138) 1182 := ⟨3, rfl, Or.inr rfl, rfl⟩
theorem yl297_1182 : xAt kT297 1182 (.iload 5) 1184 := ⟨2, rfl, Or.inr rfl, rfl⟩
theorem yl297_1184 : xAt kT297 1184 (.iaload) 1185 := ⟨1, rfl, Or.inr rfl, rfl⟩
theorem yl297_1185 : xAt kT297 1185 (.putfield 384) 1188 := ⟨3, rfl, Or.inr rfl, rfl⟩
theorem yl297_1188 : xAt kT297 1188 (.aload_n 0) 1189 := ⟨1, rfl, Or.inr rfl, rfl⟩
theorem yl297_1189 : xAt kT297 1189 (.getfield 173) 1192 := ⟨3, rfl, Or.inr rfl, rfl⟩
theorem yl297_1192 : xAt kT297 1192 (.iload 5) 1194 := ⟨2, rfl, Or.inr rfl, rfl⟩
theorem yl297_1194 : xAt kT297 1194 (.iconst (-1)) 1195 := ⟨1, rfl, Or.inr rfl, rfl⟩
theorem yl297_1195 : xAt kT297 1195 (.iastore) 1196 := ⟨1, rfl, Or.inr rfl, rfl⟩
theorem yl297_1196 : xAt kT297 1196 (.aload_n 0) 1197 := ⟨1, rfl, Or.inr rfl, rfl⟩
theorem yl297_1197 : xAt kT297 1197 (.getfield 182) 1200 := ⟨3, rfl, Or.inr rfl, rfl⟩
theorem yl297_1200 : xAt kT297 1200 (.iload 5) 1202 := ⟨2, rfl, Or.inr rfl, rfl⟩
theorem yl297_1202 : xAt kT297 1202 (.iconst 2) 1203 := ⟨1, rfl, Or.inr rfl, rfl⟩
theorem yl297_1203 : xAt kT297 1203 (.iastore) 1204 := ⟨1, rfl, Or.inr rfl, rfl⟩
theorem yl297_1204 : xAt kT297 1204 (.aload_n 0) 1205 := ⟨1, rfl, Or.inr rfl, rfl⟩
theorem yl297_1205 : xAt kT297 1205 (.getfield 188) 1208 := ⟨3, rfl, Or.inr rfl, rfl⟩
theorem yl297_1208 : xAt kT297 1208 (.iload 5) 1210 := ⟨2, rfl, Or.inr rfl, rfl⟩
theorem yl297_1210 : xAt kT297 1210 (.iconst (-1)) 1211 := ⟨1, rfl, Or.inr rfl, rfl⟩
theorem yl297_1211 : xAt kT297 1211 (.iastore) 1212 := ⟨1, rfl, Or.inr rfl, rfl⟩
theorem yl297_1212 : xAt kT297 1212 (.aload_n 0) 1213 := ⟨1, rfl, Or.inr rfl, rfl⟩
theorem yl297_1213 : xAt kT297 1213 (.getfield 200) 1216 := ⟨3, rfl, Or.inr rfl, rfl⟩
theorem yl297_1216 : xAt kT297 1216 (.iload 5) 1218 := ⟨2, rfl, Or.inr rfl, rfl⟩
theorem yl297_1218 : xAt kT297 1218 (.ldc_w 388) 1221 := ⟨3, rfl, Or.inr rfl, rfl⟩
theorem yl297_1221 : xAt kT297 1221 (.iastore) 1222 := ⟨1, rfl, Or.inr rfl, rfl⟩
theorem yl297_1222 : xAt kT297 1222 (.aload_n 0) 1223 := ⟨1, rfl, Or.inr rfl, rfl⟩
theorem yl297_1223 : xAt kT297 1223 (.getfield 206) 1226 := ⟨3, rfl, Or.inr rfl, rfl⟩
theorem yl297_1226 : xAt kT297 1226 (.iload 5) 1228 := ⟨2, rfl, Or.inr rfl, rfl⟩
theorem yl297_1228 : xAt kT297 1228 (.iconst (-1)) 1229 := ⟨1, rfl, Or.inr rfl, rfl⟩
theorem yl297_1229 : xAt kT297 1229 (.iastore) 1230 := ⟨1, rfl, Or.inr rfl, rfl⟩
theorem yl297_1230 : xAt kT297 1230 (.aload_n 0) 1231 := ⟨1, rfl, Or.inr rfl, rfl⟩
theorem yl297_1231 : xAt kT297 1231 (.getfield 218) 1234 := ⟨3, rfl, Or.inr rfl, rfl⟩
theorem yl297_1234 : xAt kT297 1234 (.iload 5) 1236 := ⟨2, rfl, Or.inr rfl, rfl⟩
theorem yl297_1236 : xAt kT297 1236 (.lload_n 2) 1237 := ⟨1, rfl, Or.inr rfl, rfl⟩
theorem yl297_1237 : xAt kT297 1237 (.iload 5) 1239 := ⟨2, rfl, Or.inr rfl, rfl⟩
theorem yl297_1239 : xAt kT297 1239 (.i2l) 1240 := ⟨1, rfl, Or.inr rfl, rfl⟩
theorem yl297_1240 : xAt kT297 1240 (.ladd) 1241 := ⟨1, rfl, Or.inr rfl, rfl⟩
theorem yl297_1241 : xAt kT297 1241 (.lastore) 1242 := ⟨1, rfl, Or.inr rfl, rfl⟩
theorem yl297_1242 : xAt kT297 1242 (.iinc 5 1) 1245 := ⟨3, rfl, Or.inr rfl, rfl⟩
theorem yl297_1245 : xAt kT297 1245 (.goto (-142)) 1248 := ⟨3, rfl, Or.inr rfl, rfl⟩
theorem yl297_1248 : xAt kT297 1248 (.iconst 0) 1249 := ⟨1, rfl, Or.inr rfl, rfl⟩
theorem yl297_1249 : xAt kT297 1249 (.istore 5) 1251 := ⟨2, rfl, Or.inr rfl, rfl⟩
theorem yl297_1251 : xAt kT297 1251 (.iload 5) 1253 := ⟨2, rfl, Or.inr rfl, rfl⟩
theorem yl297_1253 : xAt kT297 1253 (.bipush 8) 1255 := ⟨2, rfl, Or.inr rfl, rfl⟩
theorem yl297_1255 : xAt kT297 1255 (.if_icmp .ge 17) 1258 := ⟨3, rfl, Or.inr rfl, rfl⟩
theorem yl297_1258 : xAt kT297 1258 (.aload_n 0) 1259 := ⟨1, rfl, Or.inr rfl, rfl⟩
theorem yl297_1259 : xAt kT297 1259 (.getfield 336) 1262 := ⟨3, rfl, Or.inr rfl, rfl⟩
theorem yl297_1262 : xAt kT297 1262 (.iload 5) 1264 := ⟨2, rfl, Or.inr rfl, rfl⟩
theorem yl297_1264 : xAt kT297 1264 (.iconst (-1)) 1265 := ⟨1, rfl, Or.inr rfl, rfl⟩
theorem yl297_1265 : xAt kT297 1265 (.iastore) 1266 := ⟨1, rfl, Or.inr rfl, rfl⟩
theorem yl297_1266 : xAt kT297 1266 (.iinc 5 1) 1269 := ⟨3, rfl, Or.inr rfl, rfl⟩
theorem yl297_1269 : xAt kT297 1269 (.goto (-18)) 1272 := ⟨3, rfl, Or.inr rfl, rfl⟩
theorem yl297_1272 : xAt kT297 1272 (.iconst 0) 1273 := ⟨1, rfl, Or.inr rfl, rfl⟩
theorem yl297_1273 : xAt kT297 1273 (.istore 5) 1275 := ⟨2, rfl, Or.inr rfl, rfl⟩
theorem yl297_1275 : xAt kT297 1275 (.iload 5) 1277 := ⟨2, rfl, Or.inr rfl, rfl⟩
theorem yl297_1277 : xAt kT297 1277 (.bipush 7) 1279 := ⟨2, rfl, Or.inr rfl, rfl⟩
theorem yl297_1279 : xAt kT297 1279 (.if_icmp .ge 15) 1282 := ⟨3, rfl, Or.inr rfl, rfl⟩
theorem yl297_1282 : xAt kT297 1282 (.aload_n 0) 1283 := ⟨1, rfl, Or.inr rfl, rfl⟩
theorem yl297_1283 : xAt kT297 1283 (.iload 5) 1285 := ⟨2, rfl, Or.inr rfl, rfl⟩
theorem yl297_1285 : xAt kT297 1285 (.invokevirtual 389) 1288 := ⟨3, rfl, Or.inr rfl, rfl⟩
theorem yl297_1288 : xAt kT297 1288 (.iinc 5 1) 1291 := ⟨3, rfl, Or.inr rfl, rfl⟩
theorem yl297_1291 : xAt kT297 1291 (.goto (-16)) 1294 := ⟨3, rfl, Or.inr rfl, rfl⟩
theorem yl297_1294 : xAt kT297 1294 (.return_) 1295 := ⟨1, rfl, Or.inr rfl, rfl⟩
theorem r_al0 {pF : Nat → List Value → xH → Option (Option Value × xH)} {d aR u : Nat} {G : Nat → xC} {lv : xL} {ret : Option FieldType} {rr : Option Value} {hh : xH} (hlv : xg lv 0 = some (.ref aR)) (kk : xR pF d kT297 16 6 true ret rr hh (179, lv, [], (rin aR 20 G, aR + 20 + 1, u + rsl 20))) : xR pF d kT297 16 6 true ret rr hh (4, lv, [], (rin aR 0 G, aR + 0 + 1, u + rsl 0)) := by
  refine r_alloc (K := 0) (n := 400) (j := 2) yl297_4 (fun _ _ q => eE_sipush (v := 400) yl297_5 (by decide +kernel) q) yl297_8 yl297_10 rfl rf_7 ⟨by decide +kernel, by decide +kernel, by decide +kernel⟩ (by decide +kernel) rfl hlv ?_
  refine r_alloc (K := 1) (n := 354) (j := 0) yl297_13 (fun _ _ q => eE_sipush (v := 354) yl297_14 (by decide +kernel) q) yl297_17 yl297_19 rfl rf_13 ⟨by decide +kernel, by decide +kernel, by decide +kernel⟩ (by decide +kernel) rfl hlv ?_
  refine r_alloc (K := 2) (n := 354) (j := 0) yl297_22 (fun _ _ q => eE_sipush (v := 354) yl297_23 (by decide +kernel) q) yl297_26 yl297_28 rfl rf_17 ⟨by decide +kernel, by decide +kernel, by decide +kernel⟩ (by decide +kernel) rfl hlv ?_
  refine r_alloc (K := 3) (n := 354) (j := 0) yl297_31 (fun _ _ q => eE_sipush (v := 354) yl297_32 (by decide +kernel) q) yl297_35 yl297_37 rfl rf_20 ⟨by decide +kernel, by decide +kernel, by decide +kernel⟩ (by decide +kernel) rfl hlv ?_
  refine r_alloc (K := 4) (n := 354) (j := 0) yl297_40 (fun _ _ q => eE_sipush (v := 354) yl297_41 (by decide +kernel) q) yl297_44 yl297_46 rfl rf_23 ⟨by decide +kernel, by decide +kernel, by decide +kernel⟩ (by decide +kernel) rfl hlv ?_
  refine r_alloc (K := 5) (n := 354) (j := 0) yl297_49 (fun _ _ q => eE_sipush (v := 354) yl297_50 (by decide +kernel) q) yl297_53 yl297_55 rfl rf_26 ⟨by decide +kernel, by decide +kernel, by decide +kernel⟩ (by decide +kernel) rfl hlv ?_
  refine r_alloc (K := 6) (n := 354) (j := 0) yl297_58 (fun _ _ q => eE_sipush (v := 354) yl297_59 (by decide +kernel) q) yl297_62 yl297_64 rfl rf_29 ⟨by decide +kernel, by decide +kernel, by decide +kernel⟩ (by decide +kernel) rfl hlv ?_
  refine r_alloc (K := 7) (n := 2832) (j := 0) yl297_67 (fun _ _ q => eE_sipush (v := 2832) yl297_68 (by decide +kernel) q) yl297_71 yl297_73 rfl rf_32 ⟨by decide +kernel, by decide +kernel, by decide +kernel⟩ (by decide +kernel) rfl hlv ?_
  refine r_alloc (K := 8) (n := 2124) (j := 0) yl297_76 (fun _ _ q => eE_sipush (v := 2124) yl297_77 (by decide +kernel) q) yl297_80 yl297_82 rfl rf_35 ⟨by decide +kernel, by decide +kernel, by decide +kernel⟩ (by decide +kernel) rfl hlv ?_
  refine r_alloc (K := 9) (n := 2124) (j := 0) yl297_85 (fun _ _ q => eE_sipush (v := 2124) yl297_86 (by decide +kernel) q) yl297_89 yl297_91 rfl rf_38 ⟨by decide +kernel, by decide +kernel, by decide +kernel⟩ (by decide +kernel) rfl hlv ?_
  refine r_alloc (K := 10) (n := 2124) (j := 0) yl297_94 (fun _ _ q => eE_sipush (v := 2124) yl297_95 (by decide +kernel) q) yl297_98 yl297_100 rfl rf_41 ⟨by decide +kernel, by decide +kernel, by decide +kernel⟩ (by decide +kernel) rfl hlv ?_
  refine r_alloc (K := 11) (n := (xcv 44)) (j := 1) yl297_103 (fun _ _ q => eE_ldc yl297_104 (v := xcv 44) (by decide +kernel) q) yl297_106 yl297_108 rfl rf_45 ⟨by decide +kernel, by decide +kernel, by decide +kernel⟩ (by decide +kernel) rfl hlv ?_
  refine r_alloc (K := 12) (n := 128) (j := 3) yl297_111 (fun _ _ q => eE_sipush (v := 128) yl297_112 (by decide +kernel) q) yl297_115 yl297_117 rfl rf_49 ⟨by decide +kernel, by decide +kernel, by decide +kernel⟩ (by decide +kernel) rfl hlv ?_
  refine r_alloc (K := 13) (n := 128) (j := 0) yl297_120 (fun _ _ q => eE_sipush (v := 128) yl297_121 (by decide +kernel) q) yl297_124 yl297_126 rfl rf_53 ⟨by decide +kernel, by decide +kernel, by decide +kernel⟩ (by decide +kernel) rfl hlv ?_
  refine r_alloc (K := 14) (n := 128) (j := 0) yl297_129 (fun _ _ q => eE_sipush (v := 128) yl297_130 (by decide +kernel) q) yl297_133 yl297_135 rfl rf_56 ⟨by decide +kernel, by decide +kernel, by decide +kernel⟩ (by decide +kernel) rfl hlv ?_
  refine r_alloc (K := 15) (n := 256) (j := 0) yl297_138 (fun _ _ q => eE_sipush (v := 256) yl297_139 (by decide +kernel) q) yl297_142 yl297_144 rfl rf_59 ⟨by decide +kernel, by decide +kernel, by decide +kernel⟩ (by decide +kernel) rfl hlv ?_
  refine r_alloc (K := 16) (n := 16) (j := 0) yl297_147 (fun _ _ q => eE_bipush (v := 16) yl297_148 (by decide +kernel) q) yl297_150 yl297_152 rfl rf_62 ⟨by decide +kernel, by decide +kernel, by decide +kernel⟩ (by decide +kernel) rfl hlv ?_
  refine r_alloc (K := 17) (n := 16) (j := 0) yl297_155 (fun _ _ q => eE_bipush (v := 16) yl297_156 (by decide +kernel) q) yl297_158 yl297_160 rfl rf_65 ⟨by decide +kernel, by decide +kernel, by decide +kernel⟩ (by decide +kernel) rfl hlv ?_
  refine r_alloc (K := 18) (n := 7) (j := 0) yl297_163 (fun _ _ q => eE_bipush (v := 7) yl297_164 (by decide +kernel) q) yl297_166 yl297_168 rfl rf_68 ⟨by decide +kernel, by decide +kernel, by decide +kernel⟩ (by decide +kernel) rfl hlv ?_
  refine r_alloc (K := 19) (n := 7) (j := 0) yl297_171 (fun _ _ q => eE_bipush (v := 7) yl297_172 (by decide +kernel) q) yl297_174 yl297_176 rfl rf_71 ⟨by decide +kernel, by decide +kernel, by decide +kernel⟩ (by decide +kernel) rfl hlv ?_
  exact kk
theorem r_al20 {pF : Nat → List Value → xH → Option (Option Value × xH)} {d aR u : Nat} {G : Nat → xC} {lv : xL} {ret : Option FieldType} {rr : Option Value} {hh : xH} (hlv : xg lv 0 = some (.ref aR)) (kk : xR pF d kT297 16 6 true ret rr hh (345, lv, [], (rin aR 40 G, aR + 40 + 1, u + rsl 40))) : xR pF d kT297 16 6 true ret rr hh (179, lv, [], (rin aR 20 G, aR + 20 + 1, u + rsl 20)) := by
  refine r_alloc (K := 20) (n := (xcv 74)) (j := 1) yl297_179 (fun _ _ q => eE_ldc yl297_180 (v := xcv 74) (by decide +kernel) q) yl297_182 yl297_184 rfl rf_75 ⟨by decide +kernel, by decide +kernel, by decide +kernel⟩ (by decide +kernel) rfl hlv ?_
  refine r_alloc (K := 21) (n := 224) (j := 0) yl297_187 (fun _ _ q => eE_sipush (v := 224) yl297_188 (by decide +kernel) q) yl297_191 yl297_193 rfl rf_78 ⟨by decide +kernel, by decide +kernel, by decide +kernel⟩ (by decide +kernel) rfl hlv ?_
  refine r_alloc (K := 22) (n := 224) (j := 3) yl297_196 (fun _ _ q => eE_sipush (v := 224) yl297_197 (by decide +kernel) q) yl297_200 yl297_202 rfl rf_81 ⟨by decide +kernel, by decide +kernel, by decide +kernel⟩ (by decide +kernel) rfl hlv ?_
  refine r_alloc (K := 23) (n := 224) (j := 0) yl297_205 (fun _ _ q => eE_sipush (v := 224) yl297_206 (by decide +kernel) q) yl297_209 yl297_211 rfl rf_84 ⟨by decide +kernel, by decide +kernel, by decide +kernel⟩ (by decide +kernel) rfl hlv ?_
  refine r_alloc (K := 24) (n := 224) (j := 0) yl297_214 (fun _ _ q => eE_sipush (v := 224) yl297_215 (by decide +kernel) q) yl297_218 yl297_220 rfl rf_87 ⟨by decide +kernel, by decide +kernel, by decide +kernel⟩ (by decide +kernel) rfl hlv ?_
  refine r_alloc (K := 25) (n := 224) (j := 0) yl297_223 (fun _ _ q => eE_sipush (v := 224) yl297_224 (by decide +kernel) q) yl297_227 yl297_229 rfl rf_90 ⟨by decide +kernel, by decide +kernel, by decide +kernel⟩ (by decide +kernel) rfl hlv ?_
  refine r_alloc (K := 26) (n := 224) (j := 0) yl297_232 (fun _ _ q => eE_sipush (v := 224) yl297_233 (by decide +kernel) q) yl297_236 yl297_238 rfl rf_93 ⟨by decide +kernel, by decide +kernel, by decide +kernel⟩ (by decide +kernel) rfl hlv ?_
  refine r_alloc (K := 27) (n := 112) (j := 0) yl297_241 (fun _ _ q => eE_bipush (v := 112) yl297_242 (by decide +kernel) q) yl297_244 yl297_246 rfl rf_96 ⟨by decide +kernel, by decide +kernel, by decide +kernel⟩ (by decide +kernel) rfl hlv ?_
  refine r_alloc (K := 28) (n := 112) (j := 3) yl297_249 (fun _ _ q => eE_bipush (v := 112) yl297_250 (by decide +kernel) q) yl297_252 yl297_254 rfl rf_99 ⟨by decide +kernel, by decide +kernel, by decide +kernel⟩ (by decide +kernel) rfl hlv ?_
  refine r_alloc (K := 29) (n := 7) (j := 0) yl297_257 (fun _ _ q => eE_bipush (v := 7) yl297_258 (by decide +kernel) q) yl297_260 yl297_262 rfl rf_102 ⟨by decide +kernel, by decide +kernel, by decide +kernel⟩ (by decide +kernel) rfl hlv ?_
  refine r_alloc (K := 30) (n := 7) (j := 3) yl297_265 (fun _ _ q => eE_bipush (v := 7) yl297_266 (by decide +kernel) q) yl297_268 yl297_270 rfl rf_105 ⟨by decide +kernel, by decide +kernel, by decide +kernel⟩ (by decide +kernel) rfl hlv ?_
  refine r_alloc (K := 31) (n := 7) (j := 0) yl297_273 (fun _ _ q => eE_bipush (v := 7) yl297_274 (by decide +kernel) q) yl297_276 yl297_278 rfl rf_108 ⟨by decide +kernel, by decide +kernel, by decide +kernel⟩ (by decide +kernel) rfl hlv ?_
  refine r_alloc (K := 32) (n := 7) (j := 0) yl297_281 (fun _ _ q => eE_bipush (v := 7) yl297_282 (by decide +kernel) q) yl297_284 yl297_286 rfl rf_111 ⟨by decide +kernel, by decide +kernel, by decide +kernel⟩ (by decide +kernel) rfl hlv ?_
  refine r_alloc (K := 33) (n := 84) (j := 0) yl297_289 (fun _ _ q => eE_bipush (v := 84) yl297_290 (by decide +kernel) q) yl297_292 yl297_294 rfl rf_114 ⟨by decide +kernel, by decide +kernel, by decide +kernel⟩ (by decide +kernel) rfl hlv ?_
  refine r_alloc (K := 34) (n := 84) (j := 0) yl297_297 (fun _ _ q => eE_bipush (v := 84) yl297_298 (by decide +kernel) q) yl297_300 yl297_302 rfl rf_117 ⟨by decide +kernel, by decide +kernel, by decide +kernel⟩ (by decide +kernel) rfl hlv ?_
  refine r_alloc (K := 35) (n := 7) (j := 3) yl297_305 (fun _ _ q => eE_bipush (v := 7) yl297_306 (by decide +kernel) q) yl297_308 yl297_310 rfl rf_120 ⟨by decide +kernel, by decide +kernel, by decide +kernel⟩ (by decide +kernel) rfl hlv ?_
  refine r_alloc (K := 36) (n := 7) (j := 0) yl297_313 (fun _ _ q => eE_bipush (v := 7) yl297_314 (by decide +kernel) q) yl297_316 yl297_318 rfl rf_123 ⟨by decide +kernel, by decide +kernel, by decide +kernel⟩ (by decide +kernel) rfl hlv ?_
  refine r_alloc (K := 37) (n := 7) (j := 0) yl297_321 (fun _ _ q => eE_bipush (v := 7) yl297_322 (by decide +kernel) q) yl297_324 yl297_326 rfl rf_126 ⟨by decide +kernel, by decide +kernel, by decide +kernel⟩ (by decide +kernel) rfl hlv ?_
  refine r_alloc (K := 38) (n := 7) (j := 0) yl297_329 (fun _ _ q => eE_bipush (v := 7) yl297_330 (by decide +kernel) q) yl297_332 yl297_334 rfl rf_129 ⟨by decide +kernel, by decide +kernel, by decide +kernel⟩ (by decide +kernel) rfl hlv ?_
  refine r_alloc (K := 39) (n := 7) (j := 0) yl297_337 (fun _ _ q => eE_bipush (v := 7) yl297_338 (by decide +kernel) q) yl297_340 yl297_342 rfl rf_132 ⟨by decide +kernel, by decide +kernel, by decide +kernel⟩ (by decide +kernel) rfl hlv ?_
  exact kk
theorem r_al40 {pF : Nat → List Value → xH → Option (Option Value × xH)} {d aR u : Nat} {G : Nat → xC} {lv : xL} {ret : Option FieldType} {rr : Option Value} {hh : xH} (hlv : xg lv 0 = some (.ref aR)) (kk : xR pF d kT297 16 6 true ret rr hh (509, lv, [], (rin aR 60 G, aR + 60 + 1, u + rsl 60))) : xR pF d kT297 16 6 true ret rr hh (345, lv, [], (rin aR 40 G, aR + 40 + 1, u + rsl 40)) := by
  refine r_alloc (K := 40) (n := 7) (j := 0) yl297_345 (fun _ _ q => eE_bipush (v := 7) yl297_346 (by decide +kernel) q) yl297_348 yl297_350 rfl rf_135 ⟨by decide +kernel, by decide +kernel, by decide +kernel⟩ (by decide +kernel) rfl hlv ?_
  refine r_alloc (K := 41) (n := 7) (j := 0) yl297_353 (fun _ _ q => eE_bipush (v := 7) yl297_354 (by decide +kernel) q) yl297_356 yl297_358 rfl rf_138 ⟨by decide +kernel, by decide +kernel, by decide +kernel⟩ (by decide +kernel) rfl hlv ?_
  refine r_alloc (K := 42) (n := 3584) (j := 0) yl297_361 (fun _ _ q => eE_sipush (v := 3584) yl297_362 (by decide +kernel) q) yl297_365 yl297_367 rfl rf_141 ⟨by decide +kernel, by decide +kernel, by decide +kernel⟩ (by decide +kernel) rfl hlv ?_
  refine r_alloc (K := 43) (n := 3584) (j := 0) yl297_370 (fun _ _ q => eE_sipush (v := 3584) yl297_371 (by decide +kernel) q) yl297_374 yl297_376 rfl rf_144 ⟨by decide +kernel, by decide +kernel, by decide +kernel⟩ (by decide +kernel) rfl hlv ?_
  refine r_alloc (K := 44) (n := 3584) (j := 0) yl297_379 (fun _ _ q => eE_sipush (v := 3584) yl297_380 (by decide +kernel) q) yl297_383 yl297_385 rfl rf_147 ⟨by decide +kernel, by decide +kernel, by decide +kernel⟩ (by decide +kernel) rfl hlv ?_
  refine r_alloc (K := 45) (n := 3584) (j := 0) yl297_388 (fun _ _ q => eE_sipush (v := 3584) yl297_389 (by decide +kernel) q) yl297_392 yl297_394 rfl rf_150 ⟨by decide +kernel, by decide +kernel, by decide +kernel⟩ (by decide +kernel) rfl hlv ?_
  refine r_alloc (K := 46) (n := (xcv 153)) (j := 1) yl297_397 (fun _ _ q => eE_ldc yl297_398 (v := xcv 153) (by decide +kernel) q) yl297_400 yl297_402 rfl rf_154 ⟨by decide +kernel, by decide +kernel, by decide +kernel⟩ (by decide +kernel) rfl hlv ?_
  refine r_alloc (K := 47) (n := 7) (j := 0) yl297_405 (fun _ _ q => eE_bipush (v := 7) yl297_406 (by decide +kernel) q) yl297_408 yl297_410 rfl rf_157 ⟨by decide +kernel, by decide +kernel, by decide +kernel⟩ (by decide +kernel) rfl hlv ?_
  refine r_alloc (K := 48) (n := 7) (j := 0) yl297_413 (fun _ _ q => eE_bipush (v := 7) yl297_414 (by decide +kernel) q) yl297_416 yl297_418 rfl rf_160 ⟨by decide +kernel, by decide +kernel, by decide +kernel⟩ (by decide +kernel) rfl hlv ?_
  refine r_alloc (K := 49) (n := (xcv 163)) (j := 2) yl297_421 (fun _ _ q => eE_ldc yl297_422 (v := xcv 163) (by decide +kernel) q) yl297_424 yl297_426 rfl rf_164 ⟨by decide +kernel, by decide +kernel, by decide +kernel⟩ (by decide +kernel) rfl hlv ?_
  refine r_alloc (K := 50) (n := 7) (j := 0) yl297_429 (fun _ _ q => eE_bipush (v := 7) yl297_430 (by decide +kernel) q) yl297_432 yl297_434 rfl rf_167 ⟨by decide +kernel, by decide +kernel, by decide +kernel⟩ (by decide +kernel) rfl hlv ?_
  refine r_alloc (K := 51) (n := (xcv 163)) (j := 2) yl297_437 (fun _ _ q => eE_ldc yl297_438 (v := xcv 163) (by decide +kernel) q) yl297_440 yl297_442 rfl rf_170 ⟨by decide +kernel, by decide +kernel, by decide +kernel⟩ (by decide +kernel) rfl hlv ?_
  refine r_alloc (K := 52) (n := 7) (j := 0) yl297_445 (fun _ _ q => eE_bipush (v := 7) yl297_446 (by decide +kernel) q) yl297_448 yl297_450 rfl rf_173 ⟨by decide +kernel, by decide +kernel, by decide +kernel⟩ (by decide +kernel) rfl hlv ?_
  refine r_alloc (K := 53) (n := 7) (j := 0) yl297_453 (fun _ _ q => eE_bipush (v := 7) yl297_454 (by decide +kernel) q) yl297_456 yl297_458 rfl rf_176 ⟨by decide +kernel, by decide +kernel, by decide +kernel⟩ (by decide +kernel) rfl hlv ?_
  refine r_alloc (K := 54) (n := 7) (j := 3) yl297_461 (fun _ _ q => eE_bipush (v := 7) yl297_462 (by decide +kernel) q) yl297_464 yl297_466 rfl rf_179 ⟨by decide +kernel, by decide +kernel, by decide +kernel⟩ (by decide +kernel) rfl hlv ?_
  refine r_alloc (K := 55) (n := 7) (j := 0) yl297_469 (fun _ _ q => eE_bipush (v := 7) yl297_470 (by decide +kernel) q) yl297_472 yl297_474 rfl rf_182 ⟨by decide +kernel, by decide +kernel, by decide +kernel⟩ (by decide +kernel) rfl hlv ?_
  refine r_alloc (K := 56) (n := 7) (j := 0) yl297_477 (fun _ _ q => eE_bipush (v := 7) yl297_478 (by decide +kernel) q) yl297_480 yl297_482 rfl rf_185 ⟨by decide +kernel, by decide +kernel, by decide +kernel⟩ (by decide +kernel) rfl hlv ?_
  refine r_alloc (K := 57) (n := 7) (j := 0) yl297_485 (fun _ _ q => eE_bipush (v := 7) yl297_486 (by decide +kernel) q) yl297_488 yl297_490 rfl rf_188 ⟨by decide +kernel, by decide +kernel, by decide +kernel⟩ (by decide +kernel) rfl hlv ?_
  refine r_alloc (K := 58) (n := 7) (j := 0) yl297_493 (fun _ _ q => eE_bipush (v := 7) yl297_494 (by decide +kernel) q) yl297_496 yl297_498 rfl rf_191 ⟨by decide +kernel, by decide +kernel, by decide +kernel⟩ (by decide +kernel) rfl hlv ?_
  refine r_alloc (K := 59) (n := 7) (j := 0) yl297_501 (fun _ _ q => eE_bipush (v := 7) yl297_502 (by decide +kernel) q) yl297_504 yl297_506 rfl rf_194 ⟨by decide +kernel, by decide +kernel, by decide +kernel⟩ (by decide +kernel) rfl hlv ?_
  exact kk
theorem r_al60 {pF : Nat → List Value → xH → Option (Option Value × xH)} {d aR u : Nat} {G : Nat → xC} {lv : xL} {ret : Option FieldType} {rr : Option Value} {hh : xH} (hlv : xg lv 0 = some (.ref aR)) (kk : xR pF d kT297 16 6 true ret rr hh (671, lv, [], (rin aR 80 G, aR + 80 + 1, u + rsl 80))) : xR pF d kT297 16 6 true ret rr hh (509, lv, [], (rin aR 60 G, aR + 60 + 1, u + rsl 60)) := by
  refine r_alloc (K := 60) (n := 7) (j := 0) yl297_509 (fun _ _ q => eE_bipush (v := 7) yl297_510 (by decide +kernel) q) yl297_512 yl297_514 rfl rf_197 ⟨by decide +kernel, by decide +kernel, by decide +kernel⟩ (by decide +kernel) rfl hlv ?_
  refine r_alloc (K := 61) (n := 7) (j := 0) yl297_517 (fun _ _ q => eE_bipush (v := 7) yl297_518 (by decide +kernel) q) yl297_520 yl297_522 rfl rf_200 ⟨by decide +kernel, by decide +kernel, by decide +kernel⟩ (by decide +kernel) rfl hlv ?_
  refine r_alloc (K := 62) (n := 7) (j := 0) yl297_525 (fun _ _ q => eE_bipush (v := 7) yl297_526 (by decide +kernel) q) yl297_528 yl297_530 rfl rf_203 ⟨by decide +kernel, by decide +kernel, by decide +kernel⟩ (by decide +kernel) rfl hlv ?_
  refine r_alloc (K := 63) (n := 7) (j := 0) yl297_533 (fun _ _ q => eE_bipush (v := 7) yl297_534 (by decide +kernel) q) yl297_536 yl297_538 rfl rf_206 ⟨by decide +kernel, by decide +kernel, by decide +kernel⟩ (by decide +kernel) rfl hlv ?_
  refine r_alloc (K := 64) (n := 7) (j := 0) yl297_541 (fun _ _ q => eE_bipush (v := 7) yl297_542 (by decide +kernel) q) yl297_544 yl297_546 rfl rf_209 ⟨by decide +kernel, by decide +kernel, by decide +kernel⟩ (by decide +kernel) rfl hlv ?_
  refine r_alloc (K := 65) (n := 7) (j := 0) yl297_549 (fun _ _ q => eE_bipush (v := 7) yl297_550 (by decide +kernel) q) yl297_552 yl297_554 rfl rf_212 ⟨by decide +kernel, by decide +kernel, by decide +kernel⟩ (by decide +kernel) rfl hlv ?_
  refine r_alloc (K := 66) (n := 7) (j := 0) yl297_557 (fun _ _ q => eE_bipush (v := 7) yl297_558 (by decide +kernel) q) yl297_560 yl297_562 rfl rf_215 ⟨by decide +kernel, by decide +kernel, by decide +kernel⟩ (by decide +kernel) rfl hlv ?_
  refine r_alloc (K := 67) (n := 7) (j := 1) yl297_565 (fun _ _ q => eE_bipush (v := 7) yl297_566 (by decide +kernel) q) yl297_568 yl297_570 rfl rf_218 ⟨by decide +kernel, by decide +kernel, by decide +kernel⟩ (by decide +kernel) rfl hlv ?_
  refine r_alloc (K := 68) (n := 7) (j := 0) yl297_573 (fun _ _ q => eE_bipush (v := 7) yl297_574 (by decide +kernel) q) yl297_576 yl297_578 rfl rf_221 ⟨by decide +kernel, by decide +kernel, by decide +kernel⟩ (by decide +kernel) rfl hlv ?_
  refine r_alloc (K := 69) (n := 49) (j := 0) yl297_581 (fun _ _ q => eE_bipush (v := 49) yl297_582 (by decide +kernel) q) yl297_584 yl297_586 rfl rf_224 ⟨by decide +kernel, by decide +kernel, by decide +kernel⟩ (by decide +kernel) rfl hlv ?_
  refine r_alloc (K := 70) (n := 49) (j := 0) yl297_589 (fun _ _ q => eE_bipush (v := 49) yl297_590 (by decide +kernel) q) yl297_592 yl297_594 rfl rf_227 ⟨by decide +kernel, by decide +kernel, by decide +kernel⟩ (by decide +kernel) rfl hlv ?_
  refine r_alloc (K := 71) (n := 49) (j := 0) yl297_597 (fun _ _ q => eE_bipush (v := 49) yl297_598 (by decide +kernel) q) yl297_600 yl297_602 rfl rf_230 ⟨by decide +kernel, by decide +kernel, by decide +kernel⟩ (by decide +kernel) rfl hlv ?_
  refine r_alloc (K := 72) (n := 49) (j := 3) yl297_605 (fun _ _ q => eE_bipush (v := 49) yl297_606 (by decide +kernel) q) yl297_608 yl297_610 rfl rf_233 ⟨by decide +kernel, by decide +kernel, by decide +kernel⟩ (by decide +kernel) rfl hlv ?_
  refine r_alloc (K := 73) (n := 49) (j := 0) yl297_613 (fun _ _ q => eE_bipush (v := 49) yl297_614 (by decide +kernel) q) yl297_616 yl297_618 rfl rf_236 ⟨by decide +kernel, by decide +kernel, by decide +kernel⟩ (by decide +kernel) rfl hlv ?_
  refine r_alloc (K := 74) (n := 49) (j := 0) yl297_621 (fun _ _ q => eE_bipush (v := 49) yl297_622 (by decide +kernel) q) yl297_624 yl297_626 rfl rf_239 ⟨by decide +kernel, by decide +kernel, by decide +kernel⟩ (by decide +kernel) rfl hlv ?_
  refine r_alloc (K := 75) (n := 49) (j := 0) yl297_629 (fun _ _ q => eE_bipush (v := 49) yl297_630 (by decide +kernel) q) yl297_632 yl297_634 rfl rf_242 ⟨by decide +kernel, by decide +kernel, by decide +kernel⟩ (by decide +kernel) rfl hlv ?_
  refine r_alloc (K := 76) (n := 49) (j := 3) yl297_637 (fun _ _ q => eE_bipush (v := 49) yl297_638 (by decide +kernel) q) yl297_640 yl297_642 rfl rf_245 ⟨by decide +kernel, by decide +kernel, by decide +kernel⟩ (by decide +kernel) rfl hlv ?_
  refine r_alloc (K := 77) (n := 7) (j := 0) yl297_645 (fun _ _ q => eE_bipush (v := 7) yl297_646 (by decide +kernel) q) yl297_648 yl297_650 rfl rf_248 ⟨by decide +kernel, by decide +kernel, by decide +kernel⟩ (by decide +kernel) rfl hlv ?_
  refine r_alloc (K := 78) (n := 224) (j := 3) yl297_653 (fun _ _ q => eE_sipush (v := 224) yl297_654 (by decide +kernel) q) yl297_657 yl297_659 rfl rf_251 ⟨by decide +kernel, by decide +kernel, by decide +kernel⟩ (by decide +kernel) rfl hlv ?_
  refine r_alloc (K := 79) (n := 224) (j := 3) yl297_662 (fun _ _ q => eE_sipush (v := 224) yl297_663 (by decide +kernel) q) yl297_666 yl297_668 rfl rf_254 ⟨by decide +kernel, by decide +kernel, by decide +kernel⟩ (by decide +kernel) rfl hlv ?_
  exact kk
theorem r_al80 {pF : Nat → List Value → xH → Option (Option Value × xH)} {d aR u : Nat} {G : Nat → xC} {lv : xL} {ret : Option FieldType} {rr : Option Value} {hh : xH} (hlv : xg lv 0 = some (.ref aR)) (kk : xR pF d kT297 16 6 true ret rr hh (844, lv, [], (rin aR 100 G, aR + 100 + 1, u + rsl 100))) : xR pF d kT297 16 6 true ret rr hh (671, lv, [], (rin aR 80 G, aR + 80 + 1, u + rsl 80)) := by
  refine r_alloc (K := 80) (n := 224) (j := 0) yl297_671 (fun _ _ q => eE_sipush (v := 224) yl297_672 (by decide +kernel) q) yl297_675 yl297_677 rfl rf_257 ⟨by decide +kernel, by decide +kernel, by decide +kernel⟩ (by decide +kernel) rfl hlv ?_
  refine r_alloc (K := 81) (n := 224) (j := 0) yl297_680 (fun _ _ q => eE_sipush (v := 224) yl297_681 (by decide +kernel) q) yl297_684 yl297_686 rfl rf_260 ⟨by decide +kernel, by decide +kernel, by decide +kernel⟩ (by decide +kernel) rfl hlv ?_
  refine r_alloc (K := 82) (n := 224) (j := 0) yl297_689 (fun _ _ q => eE_sipush (v := 224) yl297_690 (by decide +kernel) q) yl297_693 yl297_695 rfl rf_263 ⟨by decide +kernel, by decide +kernel, by decide +kernel⟩ (by decide +kernel) rfl hlv ?_
  refine r_alloc (K := 83) (n := 224) (j := 0) yl297_698 (fun _ _ q => eE_sipush (v := 224) yl297_699 (by decide +kernel) q) yl297_702 yl297_704 rfl rf_266 ⟨by decide +kernel, by decide +kernel, by decide +kernel⟩ (by decide +kernel) rfl hlv ?_
  refine r_alloc (K := 84) (n := 224) (j := 0) yl297_707 (fun _ _ q => eE_sipush (v := 224) yl297_708 (by decide +kernel) q) yl297_711 yl297_713 rfl rf_269 ⟨by decide +kernel, by decide +kernel, by decide +kernel⟩ (by decide +kernel) rfl hlv ?_
  refine r_alloc (K := 85) (n := 224) (j := 0) yl297_716 (fun _ _ q => eE_sipush (v := 224) yl297_717 (by decide +kernel) q) yl297_720 yl297_722 rfl rf_272 ⟨by decide +kernel, by decide +kernel, by decide +kernel⟩ (by decide +kernel) rfl hlv ?_
  refine r_alloc (K := 86) (n := 224) (j := 0) yl297_725 (fun _ _ q => eE_sipush (v := 224) yl297_726 (by decide +kernel) q) yl297_729 yl297_731 rfl rf_275 ⟨by decide +kernel, by decide +kernel, by decide +kernel⟩ (by decide +kernel) rfl hlv ?_
  refine r_alloc (K := 87) (n := 224) (j := 0) yl297_734 (fun _ _ q => eE_sipush (v := 224) yl297_735 (by decide +kernel) q) yl297_738 yl297_740 rfl rf_278 ⟨by decide +kernel, by decide +kernel, by decide +kernel⟩ (by decide +kernel) rfl hlv ?_
  refine r_alloc (K := 88) (n := 14336) (j := 2) yl297_743 (fun _ _ q => eE_sipush (v := 14336) yl297_744 (by decide +kernel) q) yl297_747 yl297_749 rfl rf_281 ⟨by decide +kernel, by decide +kernel, by decide +kernel⟩ (by decide +kernel) rfl hlv ?_
  refine r_alloc (K := 89) (n := 7) (j := 0) yl297_752 (fun _ _ q => eE_bipush (v := 7) yl297_753 (by decide +kernel) q) yl297_755 yl297_757 rfl rf_284 ⟨by decide +kernel, by decide +kernel, by decide +kernel⟩ (by decide +kernel) rfl hlv ?_
  refine r_alloc (K := 90) (n := 112) (j := 0) yl297_760 (fun _ _ q => eE_bipush (v := 112) yl297_761 (by decide +kernel) q) yl297_763 yl297_765 rfl rf_287 ⟨by decide +kernel, by decide +kernel, by decide +kernel⟩ (by decide +kernel) rfl hlv ?_
  refine r_alloc (K := 91) (n := 112) (j := 0) yl297_768 (fun _ _ q => eE_bipush (v := 112) yl297_769 (by decide +kernel) q) yl297_771 yl297_773 rfl rf_290 ⟨by decide +kernel, by decide +kernel, by decide +kernel⟩ (by decide +kernel) rfl hlv ?_
  refine r_alloc (K := 92) (n := 112) (j := 0) yl297_776 (fun _ _ q => eE_bipush (v := 112) yl297_777 (by decide +kernel) q) yl297_779 yl297_781 rfl rf_293 ⟨by decide +kernel, by decide +kernel, by decide +kernel⟩ (by decide +kernel) rfl hlv ?_
  refine r_alloc (K := 93) (n := 112) (j := 0) yl297_784 (fun _ _ q => eE_bipush (v := 112) yl297_785 (by decide +kernel) q) yl297_787 yl297_789 rfl rf_296 ⟨by decide +kernel, by decide +kernel, by decide +kernel⟩ (by decide +kernel) rfl hlv ?_
  refine r_alloc (K := 94) (n := 112) (j := 0) yl297_792 (fun _ _ q => eE_bipush (v := 112) yl297_793 (by decide +kernel) q) yl297_795 yl297_797 rfl rf_299 ⟨by decide +kernel, by decide +kernel, by decide +kernel⟩ (by decide +kernel) rfl hlv ?_
  refine r_alloc (K := 95) (n := 12544) (j := 2) yl297_800 (fun _ _ q => eE_sipush (v := 12544) yl297_801 (by decide +kernel) q) yl297_804 yl297_806 rfl rf_302 ⟨by decide +kernel, by decide +kernel, by decide +kernel⟩ (by decide +kernel) rfl hlv ?_
  refine r_alloc (K := 96) (n := 7) (j := 0) yl297_809 (fun _ _ q => eE_bipush (v := 7) yl297_810 (by decide +kernel) q) yl297_812 yl297_814 rfl rf_305 ⟨by decide +kernel, by decide +kernel, by decide +kernel⟩ (by decide +kernel) rfl hlv ?_
  refine r_alloc (K := 97) (n := 896) (j := 0) yl297_817 (fun _ _ q => eE_sipush (v := 896) yl297_818 (by decide +kernel) q) yl297_821 yl297_823 rfl rf_308 ⟨by decide +kernel, by decide +kernel, by decide +kernel⟩ (by decide +kernel) rfl hlv ?_
  refine r_alloc (K := 98) (n := 896) (j := 0) yl297_826 (fun _ _ q => eE_sipush (v := 896) yl297_827 (by decide +kernel) q) yl297_830 yl297_832 rfl rf_311 ⟨by decide +kernel, by decide +kernel, by decide +kernel⟩ (by decide +kernel) rfl hlv ?_
  refine r_alloc (K := 99) (n := 28672) (j := 2) yl297_835 (fun _ _ q => eE_sipush (v := 28672) yl297_836 (by decide +kernel) q) yl297_839 yl297_841 rfl rf_314 ⟨by decide +kernel, by decide +kernel, by decide +kernel⟩ (by decide +kernel) rfl hlv ?_
  exact kk
theorem r_al100 {pF : Nat → List Value → xH → Option (Option Value × xH)} {d aR u : Nat} {G : Nat → xC} {lv : xL} {ret : Option FieldType} {rr : Option Value} {hh : xH} (hlv : xg lv 0 = some (.ref aR)) (kk : xR pF d kT297 16 6 true ret rr hh (1010, lv, [], (rin aR 120 G, aR + 120 + 1, u + rsl 120))) : xR pF d kT297 16 6 true ret rr hh (844, lv, [], (rin aR 100 G, aR + 100 + 1, u + rsl 100)) := by
  refine r_alloc (K := 100) (n := (xcv 317)) (j := 2) yl297_844 (fun _ _ q => eE_ldc_w yl297_845 (v := xcv 317) (by decide +kernel) q) yl297_848 yl297_850 rfl rf_318 ⟨by decide +kernel, by decide +kernel, by decide +kernel⟩ (by decide +kernel) rfl hlv ?_
  refine r_alloc (K := 101) (n := 896) (j := 0) yl297_853 (fun _ _ q => eE_sipush (v := 896) yl297_854 (by decide +kernel) q) yl297_857 yl297_859 rfl rf_321 ⟨by decide +kernel, by decide +kernel, by decide +kernel⟩ (by decide +kernel) rfl hlv ?_
  refine r_alloc (K := 102) (n := 896) (j := 3) yl297_862 (fun _ _ q => eE_sipush (v := 896) yl297_863 (by decide +kernel) q) yl297_866 yl297_868 rfl rf_324 ⟨by decide +kernel, by decide +kernel, by decide +kernel⟩ (by decide +kernel) rfl hlv ?_
  refine r_alloc (K := 103) (n := 160) (j := 2) yl297_871 (fun _ _ q => eE_sipush (v := 160) yl297_872 (by decide +kernel) q) yl297_875 yl297_877 rfl rf_327 ⟨by decide +kernel, by decide +kernel, by decide +kernel⟩ (by decide +kernel) rfl hlv ?_
  refine r_alloc (K := 104) (n := 8) (j := 3) yl297_880 (fun _ _ q => eE_bipush (v := 8) yl297_881 (by decide +kernel) q) yl297_883 yl297_885 rfl rf_330 ⟨by decide +kernel, by decide +kernel, by decide +kernel⟩ (by decide +kernel) rfl hlv ?_
  refine r_alloc (K := 105) (n := 8) (j := 0) yl297_888 (fun _ _ q => eE_bipush (v := 8) yl297_889 (by decide +kernel) q) yl297_891 yl297_893 rfl rf_333 ⟨by decide +kernel, by decide +kernel, by decide +kernel⟩ (by decide +kernel) rfl hlv ?_
  refine r_alloc (K := 106) (n := 8) (j := 0) yl297_896 (fun _ _ q => eE_bipush (v := 8) yl297_897 (by decide +kernel) q) yl297_899 yl297_901 rfl rf_336 ⟨by decide +kernel, by decide +kernel, by decide +kernel⟩ (by decide +kernel) rfl hlv ?_
  refine r_alloc (K := 107) (n := 8) (j := 0) yl297_904 (fun _ _ q => eE_bipush (v := 8) yl297_905 (by decide +kernel) q) yl297_907 yl297_909 rfl rf_339 ⟨by decide +kernel, by decide +kernel, by decide +kernel⟩ (by decide +kernel) rfl hlv ?_
  refine r_alloc (K := 108) (n := 8) (j := 0) yl297_912 (fun _ _ q => eE_bipush (v := 8) yl297_913 (by decide +kernel) q) yl297_915 yl297_917 rfl rf_342 ⟨by decide +kernel, by decide +kernel, by decide +kernel⟩ (by decide +kernel) rfl hlv ?_
  refine r_alloc (K := 109) (n := 8) (j := 0) yl297_920 (fun _ _ q => eE_bipush (v := 8) yl297_921 (by decide +kernel) q) yl297_923 yl297_925 rfl rf_345 ⟨by decide +kernel, by decide +kernel, by decide +kernel⟩ (by decide +kernel) rfl hlv ?_
  refine r_alloc (K := 110) (n := 8) (j := 3) yl297_928 (fun _ _ q => eE_bipush (v := 8) yl297_929 (by decide +kernel) q) yl297_931 yl297_933 rfl rf_348 ⟨by decide +kernel, by decide +kernel, by decide +kernel⟩ (by decide +kernel) rfl hlv ?_
  refine r_alloc (K := 111) (n := 8) (j := 3) yl297_936 (fun _ _ q => eE_bipush (v := 8) yl297_937 (by decide +kernel) q) yl297_939 yl297_941 rfl rf_351 ⟨by decide +kernel, by decide +kernel, by decide +kernel⟩ (by decide +kernel) rfl hlv ?_
  refine r_alloc (K := 112) (n := 8) (j := 0) yl297_944 (fun _ _ q => eE_bipush (v := 8) yl297_945 (by decide +kernel) q) yl297_947 yl297_949 rfl rf_354 ⟨by decide +kernel, by decide +kernel, by decide +kernel⟩ (by decide +kernel) rfl hlv ?_
  refine r_alloc (K := 113) (n := 8) (j := 0) yl297_952 (fun _ _ q => eE_bipush (v := 8) yl297_953 (by decide +kernel) q) yl297_955 yl297_957 rfl rf_357 ⟨by decide +kernel, by decide +kernel, by decide +kernel⟩ (by decide +kernel) rfl hlv ?_
  refine r_alloc (K := 114) (n := 8) (j := 0) yl297_960 (fun _ _ q => eE_bipush (v := 8) yl297_961 (by decide +kernel) q) yl297_963 yl297_965 rfl rf_360 ⟨by decide +kernel, by decide +kernel, by decide +kernel⟩ (by decide +kernel) rfl hlv ?_
  refine r_alloc (K := 115) (n := 8) (j := 0) yl297_968 (fun _ _ q => eE_bipush (v := 8) yl297_969 (by decide +kernel) q) yl297_971 yl297_973 rfl rf_363 ⟨by decide +kernel, by decide +kernel, by decide +kernel⟩ (by decide +kernel) rfl hlv ?_
  refine r_alloc (K := 116) (n := 3200) (j := 2) yl297_976 (fun _ _ q => eE_sipush (v := 3200) yl297_977 (by decide +kernel) q) yl297_980 yl297_982 rfl rf_366 ⟨by decide +kernel, by decide +kernel, by decide +kernel⟩ (by decide +kernel) rfl hlv ?_
  refine r_alloc (K := 117) (n := 8) (j := 0) yl297_985 (fun _ _ q => eE_bipush (v := 8) yl297_986 (by decide +kernel) q) yl297_988 yl297_990 rfl rf_369 ⟨by decide +kernel, by decide +kernel, by decide +kernel⟩ (by decide +kernel) rfl hlv ?_
  refine r_alloc (K := 118) (n := 1280) (j := 2) yl297_993 (fun _ _ q => eE_sipush (v := 1280) yl297_994 (by decide +kernel) q) yl297_997 yl297_999 rfl rf_372 ⟨by decide +kernel, by decide +kernel, by decide +kernel⟩ (by decide +kernel) rfl hlv ?_
  refine r_alloc (K := 119) (n := 8) (j := 0) yl297_1002 (fun _ _ q => eE_bipush (v := 8) yl297_1003 (by decide +kernel) q) yl297_1005 yl297_1007 rfl rf_375 ⟨by decide +kernel, by decide +kernel, by decide +kernel⟩ (by decide +kernel) rfl hlv ?_
  exact kk
theorem r_al120 {pF : Nat → List Value → xH → Option (Option Value × xH)} {d aR u : Nat} {G : Nat → xC} {lv : xL} {ret : Option FieldType} {rr : Option Value} {hh : xH} (hlv : xg lv 0 = some (.ref aR)) (kk : xR pF d kT297 16 6 true ret rr hh (1028, lv, [], (rin aR 122 G, aR + 122 + 1, u + rsl 122))) : xR pF d kT297 16 6 true ret rr hh (1010, lv, [], (rin aR 120 G, aR + 120 + 1, u + rsl 120)) := by
  refine r_alloc (K := 120) (n := 6144) (j := 0) yl297_1010 (fun _ _ q => eE_sipush (v := 6144) yl297_1011 (by decide +kernel) q) yl297_1014 yl297_1016 rfl rf_378 ⟨by decide +kernel, by decide +kernel, by decide +kernel⟩ (by decide +kernel) rfl hlv ?_
  refine r_alloc (K := 121) (n := 160) (j := 2) yl297_1019 (fun _ _ q => eE_sipush (v := 160) yl297_1020 (by decide +kernel) q) yl297_1023 yl297_1025 rfl rf_381 ⟨by decide +kernel, by decide +kernel, by decide +kernel⟩ (by decide +kernel) rfl hlv ?_
  exact kk
theorem r_allocs {pF : Nat → List Value → xH → Option (Option Value × xH)} {d aR u : Nat} {G : Nat → xC} {lv : xL} {ret : Option FieldType} {rr : Option Value} {hh : xH} (hlv : xg lv 0 = some (.ref aR)) (kk : xR pF d kT297 16 6 true ret rr hh (1028, lv, [], (layR aR rZ G, aR + 123, u + rsl 122))) : xR pF d kT297 16 6 true ret rr hh (4, lv, [], (rin aR 0 G, aR + 0 + 1, u + rsl 0)) := by
  refine r_al0 hlv ?_
  refine r_al20 hlv ?_
  refine r_al40 hlv ?_
  refine r_al60 hlv ?_
  refine r_al80 hlv ?_
  refine r_al100 hlv ?_
  refine r_al120 hlv ?_
  rw [rin_all]
  exact kk
