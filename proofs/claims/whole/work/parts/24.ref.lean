/-! the reference's memory: RS (numbers by field and place; longs likewise), how it lies in the heap (layR), its rules (printed by wip/whole/gen_refmem.py) -/
-- fields: 0:fault 1:now 2:made 3:happened 4:tape 5:taped 6:letterFrom 7:letterTo 8:letterKind 9:letterTerm 10:letterMany 11:letterUsed 12:told 13:toldTerm 14:toldKind 15:toldSize 16:letterRows 17:flies 18:flyTime 19:flyNumber 20:flying0 21:ever 22:lost 23:delays 24:parted 25:loss 26:twice 27:spread 28:drawn 29:alarmNumber 30:alarmTime 31:syncNumber 32:syncTime 33:nextTime 34:nextNumber 35:nextWhose 36:diskRows 37:fileSize 38:fileThere 39:fileA 40:fileB 41:fileC 42:fileD 43:low 44:touched 45:lastSlot 46:sinceSync 47:lastShot 48:slotCount 49:segments 50:segmentFile 51:segmentFirst 52:up 53:term 54:voted 55:base 56:last 57:baseTerm 58:baseCode 59:logTerm 60:logKind 61:logSize 62:logAt 63:logRows 64:codeNumber 65:code 66:shot 67:shotSize 68:piece 69:pieceBase 70:pieceGot 71:dirty 72:latency 73:role 74:leader 75:commit 76:applied 77:synced 78:heard 79:votes 80:handing 81:handed 82:first 83:round 84:rows 85:waits 86:next 87:match 88:flight 89:probing 90:offset 91:ack 92:seen 93:answered 94:begun 95:asks 96:reads 97:askNumber 98:askTerm 99:askRound 100:askClient 101:askRequest 102:askKind 103:askFirst 104:askSize 105:askBytes 106:sessions 107:sessionNumber 108:sessionUsed 109:sessionSerial 110:sessionPlace 111:sessionSize 112:sessionAnswer 113:keys 114:keySize 115:valueSize 116:keyBytes 117:valueBytes 118:ranked 119:used 120:came 121:answer 122:answerSize 123:answerPlace 124:busy 125:target 126:session 127:serial 128:request 129:tries 130:impatient 131:opening 132:wantKind 133:wantFirst 134:wantSecond 135:wantSize 136:wantBytes 137:asking 138:done 139:doneSize 140:askings 141:moments 142:history 143:result 144:resultSize 145:firstCode 146:packed
abbrev RS : Type := (Nat → Nat → Int32) × (Nat → Nat → Int64)
def rTab : List (Nat × Nat × Nat × Nat) := [(0, 0, 0, 0), (0, 0, 0, 0), (0, 0, 0, 0), (0, 0, 0, 0), (2, 22, 400, 1), (0, 0, 0, 0), (2, 20, 354, 2), (2, 20, 354, 3), (2, 20, 354, 4), (2, 20, 354, 5), (2, 20, 354, 6), (2, 20, 354, 7), (2, 20, 2832, 8), (2, 20, 2124, 9), (2, 20, 2124, 10), (2, 20, 2124, 11), (2, 21, 67968, 12), (2, 23, 128, 13), (2, 20, 128, 14), (2, 20, 128, 15), (0, 0, 0, 0), (0, 0, 0, 0), (0, 0, 0, 0), (2, 20, 256, 16), (0, 0, 0, 0), (0, 0, 0, 0), (0, 0, 0, 0), (0, 0, 0, 0), (1, 0, 0, 0), (2, 20, 16, 17), (2, 20, 16, 18), (2, 20, 7, 19), (2, 20, 7, 20), (0, 0, 0, 0), (0, 0, 0, 0), (0, 0, 0, 0), (2, 21, 392000, 21), (2, 20, 224, 22), (2, 23, 224, 23), (2, 20, 224, 24), (2, 20, 224, 25), (2, 20, 224, 26), (2, 20, 224, 27), (2, 20, 112, 28), (2, 23, 112, 29), (2, 20, 7, 30), (2, 23, 7, 31), (2, 20, 7, 32), (0, 0, 0, 0), (2, 20, 7, 33), (2, 20, 84, 34), (2, 20, 84, 35), (2, 23, 7, 36), (2, 20, 7, 37), (2, 20, 7, 38), (2, 20, 7, 39), (2, 20, 7, 40), (2, 20, 7, 41), (2, 20, 7, 42), (2, 20, 3584, 43), (2, 20, 3584, 44), (2, 20, 3584, 45), (2, 20, 3584, 46), (2, 21, 114688, 47), (2, 20, 7, 48), (2, 20, 7, 49), (2, 22, 98000, 50), (2, 20, 7, 51), (2, 22, 98000, 52), (2, 20, 7, 53), (2, 20, 7, 54), (2, 23, 7, 55), (2, 20, 7, 56), (2, 20, 7, 57), (2, 20, 7, 58), (2, 20, 7, 59), (2, 20, 7, 60), (2, 20, 7, 61), (2, 20, 7, 62), (2, 20, 7, 63), (2, 20, 7, 64), (2, 20, 7, 65), (2, 20, 7, 66), (2, 20, 7, 67), (2, 21, 7, 68), (2, 20, 7, 69), (2, 20, 49, 70), (2, 20, 49, 71), (2, 20, 49, 72), (2, 23, 49, 73), (2, 20, 49, 74), (2, 20, 49, 75), (2, 20, 49, 76), (2, 23, 49, 77), (2, 20, 7, 78), (2, 23, 224, 79), (2, 23, 224, 80), (2, 20, 224, 81), (2, 20, 224, 82), (2, 20, 224, 83), (2, 20, 224, 84), (2, 20, 224, 85), (2, 20, 224, 86), (2, 20, 224, 87), (2, 20, 224, 88), (2, 22, 14336, 89), (2, 20, 7, 90), (2, 20, 112, 91), (2, 20, 112, 92), (2, 20, 112, 93), (2, 20, 112, 94), (2, 20, 112, 95), (2, 22, 12544, 96), (2, 20, 7, 97), (2, 20, 896, 98), (2, 20, 896, 99), (2, 22, 28672, 100), (2, 22, 89600, 101), (2, 20, 896, 102), (2, 23, 896, 103), (0, 0, 0, 0), (2, 22, 160, 104), (0, 0, 0, 0), (0, 0, 0, 0), (2, 23, 8, 105), (2, 20, 8, 106), (2, 20, 8, 107), (2, 20, 8, 108), (2, 20, 8, 109), (2, 20, 8, 110), (2, 23, 8, 111), (2, 23, 8, 112), (2, 20, 8, 113), (2, 20, 8, 114), (2, 20, 8, 115), (2, 20, 8, 116), (2, 22, 3200, 117), (2, 20, 8, 118), (2, 22, 1280, 119), (2, 20, 8, 120), (0, 0, 0, 0), (0, 0, 0, 0), (2, 20, 6144, 121), (2, 22, 160, 122), (0, 0, 0, 0), (0, 0, 0, 0), (0, 0, 0, 0)]
/-- a field: 0 a number, 1 a long, 2 an array; an array's tag, length, place -/
def rK (f : Nat) : Nat := (rTab.getD f (0, 0, 0, 0)).1
def rtag (f : Nat) : Nat := (rTab.getD f (0, 0, 0, 0)).2.1
def rlen (f : Nat) : Nat := (rTab.getD f (0, 0, 0, 0)).2.2.1
def rpos (f : Nat) : Nat := (rTab.getD f (0, 0, 0, 0)).2.2.2
def rFld : List Nat := [0, 4, 6, 7, 8, 9, 10, 11, 12, 13, 14, 15, 16, 17, 18, 19, 23, 29, 30, 31, 32, 36, 37, 38, 39, 40, 41, 42, 43, 44, 45, 46, 47, 49, 50, 51, 52, 53, 54, 55, 56, 57, 58, 59, 60, 61, 62, 63, 64, 65, 66, 67, 68, 69, 70, 71, 72, 73, 74, 75, 76, 77, 78, 79, 80, 81, 82, 83, 84, 85, 86, 87, 88, 89, 90, 91, 92, 93, 94, 95, 96, 97, 98, 99, 100, 101, 102, 103, 104, 105, 106, 107, 108, 109, 110, 111, 112, 113, 114, 115, 116, 117, 118, 119, 121, 124, 125, 126, 127, 128, 129, 130, 131, 132, 133, 134, 135, 136, 137, 138, 139, 142, 143]
def rfld (p : Nat) : Nat := rFld.getD p 0
def rcell (aR : Nat) (σ : RS) (p : Nat) : xC := if p = 0 then (17, 147, fun f => if rK f = 0 then .int (σ.1 f 0) else if rK f = 1 then .long (σ.2 f 0) else .ref (aR + rpos f))
  else (rtag (rfld p), rlen (rfld p), fun i => if rtag (rfld p) = 21 then .long (σ.2 (rfld p) i) else .int (σ.1 (rfld p) i))
def layR (aR : Nat) (σ : RS) (G : Nat → xC) : Nat → xC := fun a => if aR ≤ a ∧ a ≤ aR + 122 then rcell aR σ (a - aR) else G a
def setI (σ : RS) (f i : Nat) (v : Int32) : RS := (fun f' i' => if f' = f ∧ i' = i then v else σ.1 f' i', σ.2)
def setL (σ : RS) (f i : Nat) (v : Int64) : RS := (σ.1, fun f' i' => if f' = f ∧ i' = i then v else σ.2 f' i')
theorem r_ok : ∀ f, f < 147 → rK f = 2 → 1 ≤ rpos f ∧ rpos f ≤ 122 ∧ rfld (rpos f) = f ∧ 20 ≤ rtag f ∧ rtag f ≤ 23 := by decide +kernel
theorem r_lt {f : Nat} (h : rK f = 2) : f < 147 := by
  by_cases q : f < 147
  · exact q
  · exfalso
    have e1 : rTab[f]? = none := List.getElem?_eq_none (by have : rTab.length = 147 := rfl
                                                           omega)
    unfold rK at h
    rw [List.getD_eq_getElem?_getD, e1] at h
    cases h
theorem r_fld0 : ∀ p, p < 122 + 1 → 1 ≤ p → rK (rfld p) = 2 ∧ rpos (rfld p) = p := by decide +kernel
theorem r_fld (p : Nat) (h1 : 1 ≤ p) (h2 : p ≤ 122) : rK (rfld p) = 2 ∧ rpos (rfld p) = p := r_fld0 p (by omega) h1
theorem layR_obj {aR : Nat} {σ : RS} {G : Nat → xC} : layR aR σ G aR = rcell aR σ 0 := by
  unfold layR
  rw [if_pos ⟨Nat.le_refl _, Nat.le_add_right _ _⟩, Nat.sub_self]
theorem layR_arr {aR : Nat} {σ : RS} {G : Nat → xC} {f : Nat} (h : rK f = 2) : layR aR σ G (aR + rpos f) = (rtag f, rlen f, fun i => if rtag f = 21 then .long (σ.2 f i) else .int (σ.1 f i)) := by
  obtain ⟨h1, h2, h3, -⟩ := r_ok f (r_lt h) h
  unfold layR
  rw [if_pos ⟨Nat.le_add_right _ _, by omega⟩, Nat.add_sub_cancel_left]
  unfold rcell
  rw [if_neg (by omega), h3]
theorem layR_setI {aR : Nat} {σ : RS} {G : Nat → xC} {f : Nat} {v : Int32} (h : rK f = 0) : xset (layR aR σ G) aR (17, 147, updV (rcell aR σ 0).2.2 f (.int v)) = layR aR (setI σ f 0 v) G := by
  funext a
  unfold xset
  by_cases q : a = aR
  · subst q
    rw [if_pos rfl, layR_obj]
    unfold rcell
    rw [if_pos rfl, if_pos rfl]
    simp only [Prod.mk.injEq, true_and]
    funext j
    unfold updV setI
    by_cases qj : j = f
    · subst qj; simp [h]
    · simp [qj]
  · rw [if_neg q]
    unfold layR
    by_cases qr : aR ≤ a ∧ a ≤ aR + 122
    · rw [if_pos qr, if_pos qr]
      unfold rcell
      have hp : ¬ a - aR = 0 := by omega
      rw [if_neg hp, if_neg hp]
      obtain ⟨k1, k2⟩ := r_fld (a - aR) (by omega) (by omega)
      simp only [Prod.mk.injEq, true_and]
      funext j
      have hne : ¬ rfld (a - aR) = f := fun e => by rw [e] at k1; omega
      simp [setI, hne]
    · rw [if_neg qr, if_neg qr]
theorem layR_setL {aR : Nat} {σ : RS} {G : Nat → xC} {f : Nat} {v : Int64} (h : rK f = 1) : xset (layR aR σ G) aR (17, 147, updV (rcell aR σ 0).2.2 f (.long v)) = layR aR (setL σ f 0 v) G := by
  funext a
  unfold xset
  by_cases q : a = aR
  · subst q
    rw [if_pos rfl, layR_obj]
    unfold rcell
    rw [if_pos rfl, if_pos rfl]
    simp only [Prod.mk.injEq, true_and]
    funext j
    unfold updV setL
    by_cases qj : j = f
    · subst qj; simp [h]
    · simp [qj]
  · rw [if_neg q]
    unfold layR
    by_cases qr : aR ≤ a ∧ a ≤ aR + 122
    · rw [if_pos qr, if_pos qr]
      unfold rcell
      have hp : ¬ a - aR = 0 := by omega
      rw [if_neg hp, if_neg hp]
      obtain ⟨k1, k2⟩ := r_fld (a - aR) (by omega) (by omega)
      simp only [Prod.mk.injEq, true_and]
      funext j
      have hne : ¬ rfld (a - aR) = f := fun e => by rw [e] at k1; omega
      simp [setL, hne]
    · rw [if_neg qr, if_neg qr]
/-- the heap behind a write to an array, whole -/
theorem layR_setA {aR : Nat} {σ σ' : RS} {G : Nat → xC} {f : Nat} {F : Nat → Value} (h : rK f = 2) (h1 : ∀ f' i, f' ≠ f → σ'.1 f' i = σ.1 f' i ∧ σ'.2 f' i = σ.2 f' i) (h2 : ∀ i, F i = if rtag f = 21 then .long (σ'.2 f i) else .int (σ'.1 f i)) : xset (layR aR σ G) (aR + rpos f) (rtag f, rlen f, F) = layR aR σ' G := by
  obtain ⟨k1, k2, k3, -⟩ := r_ok f (r_lt h) h
  funext a
  unfold xset
  by_cases q : a = aR + rpos f
  · subst q
    rw [if_pos rfl, layR_arr h]
    simp only [Prod.mk.injEq, true_and]
    funext i
    exact h2 i
  · rw [if_neg q]
    unfold layR
    by_cases qr : aR ≤ a ∧ a ≤ aR + 122
    · rw [if_pos qr, if_pos qr]
      unfold rcell
      by_cases hp : a - aR = 0
      · rw [if_pos hp, if_pos hp]
        simp only [Prod.mk.injEq, true_and]
        funext j
        by_cases qj : j = f
        · subst qj; simp [h]
        · simp [h1 j 0 qj]
      · rw [if_neg hp, if_neg hp]
        obtain ⟨k4, k5⟩ := r_fld (a - aR) (by omega) (by omega)
        have hne : rfld (a - aR) ≠ f := fun e => by rw [e] at k5; omega
        simp only [Prod.mk.injEq, true_and]
        funext j
        simp [h1 _ j hne]
    · rw [if_neg qr, if_neg qr]
def rld (σ : RS) (f : Nat) (i : Int32) : Option Int32 := if i < 0 ∨ rlen f ≤ i.toNatClampNeg then none else some (σ.1 f i.toNatClampNeg)
def rldL (σ : RS) (f : Nat) (i : Int32) : Option Int64 := if i < 0 ∨ rlen f ≤ i.toNatClampNeg then none else some (σ.2 f i.toNatClampNeg)
def rst (σ : RS) (f : Nat) (i : Int32) (v : Int32) : Option RS := if i < 0 ∨ rlen f ≤ i.toNatClampNeg then none else some (setI σ f i.toNatClampNeg v)
def rstL (σ : RS) (f : Nat) (i : Int32) (v : Int64) : Option RS := if i < 0 ∨ rlen f ≤ i.toNatClampNeg then none else some (setL σ f i.toNatClampNeg v)
section XRR
variable {pF : Nat → List Value → xH → Option (Option Value × xH)} {d : Nat} {k : xK} {o nL : Nat} {ini : Bool} {pc np : Nat} {lv lv' : xL} {st : List Value} {hh : xH} {ret : Option FieldType} {rr : Option Value} {aR : Nat} {σ σ' : RS} {G : Nat → xC} {T : Nat × Nat}
theorem eR_get {idx f : Nat} (hl : xAt k pc (.getfield idx) np) (hf : xfR o idx = some (16, f)) (hk : rK f = 0) (kk : xR pF d k o nL ini ret rr hh (np, lv, .int (σ.1 f 0) :: st, (layR aR σ G, T))) : xR pF d k o nL ini ret rr hh (pc, lv, .ref aR :: st, (layR aR σ G, T)) := by
  refine xE_p hl rfl (fun len h1 h2 => ?_) kk
  obtain rfl : len = 3 := by simp only [xlen] at h2; omega
  subst h1
  simp [xpure, xgetf, hf, layR_obj, rcell, hk]
theorem eR_getL {idx f : Nat} (hl : xAt k pc (.getfield idx) np) (hf : xfR o idx = some (16, f)) (hk : rK f = 1) (kk : xR pF d k o nL ini ret rr hh (np, lv, .long (σ.2 f 0) :: st, (layR aR σ G, T))) : xR pF d k o nL ini ret rr hh (pc, lv, .ref aR :: st, (layR aR σ G, T)) := by
  refine xE_p hl rfl (fun len h1 h2 => ?_) kk
  obtain rfl : len = 3 := by simp only [xlen] at h2; omega
  subst h1
  simp [xpure, xgetf, hf, layR_obj, rcell, hk]
theorem eR_getA {idx f : Nat} (hl : xAt k pc (.getfield idx) np) (hf : xfR o idx = some (16, f)) (hk : rK f = 2) (kk : xR pF d k o nL ini ret rr hh (np, lv, .ref (aR + rpos f) :: st, (layR aR σ G, T))) : xR pF d k o nL ini ret rr hh (pc, lv, .ref aR :: st, (layR aR σ G, T)) := by
  refine xE_p hl rfl (fun len h1 h2 => ?_) kk
  obtain rfl : len = 3 := by simp only [xlen] at h2; omega
  subst h1
  simp [xpure, xgetf, hf, layR_obj, rcell, hk]
theorem eR_put {idx f : Nat} {v : Int32} (hl : xAt k pc (.putfield idx) np) (hf : xfR o idx = some (16, f)) (hk : rK f = 0) (hn : f < 147) (hc : ((xCl 16).2.1 f).2.2.2 = false) (ht : xfty 16 f = some .int) (kk : xR pF d k o nL ini ret rr hh (np, lv, st, (layR aR (setI σ f 0 v) G, T))) : xR pF d k o nL ini ret rr hh (pc, lv, .int v :: .ref aR :: st, (layR aR σ G, T)) := by
  refine xE_m hl rfl (fun len => by simp [xpure]) ?_ (by rw [← layR_setI hk] at kk; exact kk)
  obtain ⟨len, -, h2, h3⟩ := hl
  obtain rfl : len = 3 := by simp only [xlen] at h2; omega
  subst h3
  have e1 : (xCl 16).2.2 = 147 := rfl
  have e2 : layR aR σ G aR = (17, 147, (rcell aR σ 0).2.2) := by rw [layR_obj]; rfl
  simp only [xmem, hf, e1, hn, hc, ht, e2, xfit, true_or, and_self, if_true]
theorem eR_putL {idx f : Nat} {v : Int64} (hl : xAt k pc (.putfield idx) np) (hf : xfR o idx = some (16, f)) (hk : rK f = 1) (hn : f < 147) (hc : ((xCl 16).2.1 f).2.2.2 = false) (ht : xfty 16 f = some .long) (kk : xR pF d k o nL ini ret rr hh (np, lv, st, (layR aR (setL σ f 0 v) G, T))) : xR pF d k o nL ini ret rr hh (pc, lv, .long v :: .ref aR :: st, (layR aR σ G, T)) := by
  refine xE_m hl rfl (fun len => by simp [xpure]) ?_ (by rw [← layR_setL hk] at kk; exact kk)
  obtain ⟨len, -, h2, h3⟩ := hl
  obtain rfl : len = 3 := by simp only [xlen] at h2; omega
  subst h3
  have e1 : (xCl 16).2.2 = 147 := rfl
  have e2 : layR aR σ G aR = (17, 147, (rcell aR σ 0).2.2) := by rw [layR_obj]; rfl
  simp only [xmem, hf, e1, hn, hc, ht, e2, xfit, true_or, and_self, if_true]
theorem rld_s {f : Nat} {i x : Int32} (h : rld σ f i = some x) : ¬ (i < 0 ∨ rlen f ≤ i.toNatClampNeg) ∧ σ.1 f i.toNatClampNeg = x := by
  unfold rld at h
  split at h
  · cases h
  · next q => exact ⟨q, Option.some.inj h⟩
theorem rldL_s {f : Nat} {i : Int32} {x : Int64} (h : rldL σ f i = some x) : ¬ (i < 0 ∨ rlen f ≤ i.toNatClampNeg) ∧ σ.2 f i.toNatClampNeg = x := by
  unfold rldL at h
  split at h
  · cases h
  · next q => exact ⟨q, Option.some.inj h⟩
theorem rst_s {f : Nat} {i v : Int32} (h : rst σ f i v = some σ') : ¬ (i < 0 ∨ rlen f ≤ i.toNatClampNeg) ∧ setI σ f i.toNatClampNeg v = σ' := by
  unfold rst at h
  split at h
  · cases h
  · next q => exact ⟨q, Option.some.inj h⟩
theorem rstL_s {f : Nat} {i : Int32} {v : Int64} (h : rstL σ f i v = some σ') : ¬ (i < 0 ∨ rlen f ≤ i.toNatClampNeg) ∧ setL σ f i.toNatClampNeg v = σ' := by
  unfold rstL at h
  split at h
  · cases h
  · next q => exact ⟨q, Option.some.inj h⟩
theorem eR_iald {f : Nat} {i x : Int32} (hl : xAt k pc .iaload np) (hk : rK f = 2) (ht : rtag f = 20) (hx : rld σ f i = some x) (kk : xR pF d k o nL ini ret rr hh (np, lv, .int x :: st, (layR aR σ G, T))) : xR pF d k o nL ini ret rr hh (pc, lv, .int i :: .ref (aR + rpos f) :: st, (layR aR σ G, T)) := by
  obtain ⟨h1, h2⟩ := rld_s hx
  refine xE_p hl rfl (fun len e1 e2 => ?_) kk
  obtain rfl : len = 1 := by simp only [xlen] at e2; omega
  subst e1
  simp only [xpure, xald, layR_arr hk, ht, if_neg h1, h2]
  simp
theorem eR_bald {f : Nat} {i x : Int32} (hl : xAt k pc .baload np) (hk : rK f = 2) (ht : rtag f = 22 ∨ rtag f = 23) (hx : rld σ f i = some x) (kk : xR pF d k o nL ini ret rr hh (np, lv, .int x :: st, (layR aR σ G, T))) : xR pF d k o nL ini ret rr hh (pc, lv, .int i :: .ref (aR + rpos f) :: st, (layR aR σ G, T)) := by
  obtain ⟨h1, h2⟩ := rld_s hx
  refine xE_p hl rfl (fun len e1 e2 => ?_) kk
  obtain rfl : len = 1 := by simp only [xlen] at e2; omega
  subst e1
  rcases ht with ht | ht <;> (simp only [xpure, xald, layR_arr hk, ht, if_neg h1, h2]; simp)
theorem eR_lald {f : Nat} {i : Int32} {x : Int64} (hl : xAt k pc .laload np) (hk : rK f = 2) (ht : rtag f = 21) (hx : rldL σ f i = some x) (kk : xR pF d k o nL ini ret rr hh (np, lv, .long x :: st, (layR aR σ G, T))) : xR pF d k o nL ini ret rr hh (pc, lv, .int i :: .ref (aR + rpos f) :: st, (layR aR σ G, T)) := by
  obtain ⟨h1, h2⟩ := rldL_s hx
  refine xE_p hl rfl (fun len e1 e2 => ?_) kk
  obtain rfl : len = 1 := by simp only [xlen] at e2; omega
  subst e1
  simp only [xpure, xald, layR_arr hk, ht, if_neg h1, h2]
  simp
theorem layR_stI {f i : Nat} {v : Int32} (hk : rK f = 2) (ht : rtag f ≠ 21) : xset (layR aR σ G) (aR + rpos f) (rtag f, rlen f, updV (fun i => if rtag f = 21 then .long (σ.2 f i) else .int (σ.1 f i)) i (.int v)) = layR aR (setI σ f i v) G := by
  refine layR_setA hk (fun f' j hf => ?_) (fun j => ?_)
  · simp [setI, hf]
  · rw [if_neg ht]
    unfold updV setI
    by_cases q : j = i
    · subst q; simp
    · simp [q, ht]
theorem layR_stL {f i : Nat} {v : Int64} (hk : rK f = 2) (ht : rtag f = 21) : xset (layR aR σ G) (aR + rpos f) (rtag f, rlen f, updV (fun i => if rtag f = 21 then .long (σ.2 f i) else .int (σ.1 f i)) i (.long v)) = layR aR (setL σ f i v) G := by
  refine layR_setA hk (fun f' j hf => ?_) (fun j => ?_)
  · simp [setL, hf]
  · rw [if_pos ht]
    unfold updV setL
    by_cases q : j = i
    · subst q; simp
    · simp [q, ht]
theorem eR_iast {f : Nat} {i v : Int32} (hl : xAt k pc .iastore np) (hk : rK f = 2) (ht : rtag f = 20) (hx : rst σ f i v = some σ') (kk : xR pF d k o nL ini ret rr hh (np, lv, st, (layR aR σ' G, T))) : xR pF d k o nL ini ret rr hh (pc, lv, .int v :: .int i :: .ref (aR + rpos f) :: st, (layR aR σ G, T)) := by
  obtain ⟨h1, rfl⟩ := rst_s hx
  refine xE_m hl rfl (fun len => by simp [xpure]) ?_ (by rw [← layR_stI hk (by omega)] at kk; exact kk)
  obtain ⟨len, -, h2, h3⟩ := hl
  obtain rfl : len = 1 := by simp only [xlen] at h2; omega
  subst h3
  simp only [xmem, xast, layR_arr hk, ht, if_neg h1, if_true]
theorem eR_bast {f : Nat} {i v w : Int32} (hl : xAt k pc .bastore np) (hk : rK f = 2) (ht : rtag f = 22) (hw : v.toInt8.toInt32 = w) (hx : rst σ f i w = some σ') (kk : xR pF d k o nL ini ret rr hh (np, lv, st, (layR aR σ' G, T))) : xR pF d k o nL ini ret rr hh (pc, lv, .int v :: .int i :: .ref (aR + rpos f) :: st, (layR aR σ G, T)) := by
  obtain ⟨h1, rfl⟩ := rst_s hx
  refine xE_m hl rfl (fun len => by simp [xpure]) ?_ (by rw [← layR_stI hk (by omega)] at kk; exact kk)
  obtain ⟨len, -, h2, h3⟩ := hl
  obtain rfl : len = 1 := by simp only [xlen] at h2; omega
  subst h3
  simp only [xmem, xast, layR_arr hk, ht, if_neg h1, if_true, hw]
theorem eR_zast {f : Nat} {i v w : Int32} (hl : xAt k pc .bastore np) (hk : rK f = 2) (ht : rtag f = 23) (hw : v &&& 1 = w) (hx : rst σ f i w = some σ') (kk : xR pF d k o nL ini ret rr hh (np, lv, st, (layR aR σ' G, T))) : xR pF d k o nL ini ret rr hh (pc, lv, .int v :: .int i :: .ref (aR + rpos f) :: st, (layR aR σ G, T)) := by
  obtain ⟨h1, rfl⟩ := rst_s hx
  refine xE_m hl rfl (fun len => by simp [xpure]) ?_ (by rw [← layR_stI hk (by omega)] at kk; exact kk)
  obtain ⟨len, -, h2, h3⟩ := hl
  obtain rfl : len = 1 := by simp only [xlen] at h2; omega
  subst h3
  simp only [xmem, xast, layR_arr hk, ht, if_neg h1, if_true, hw]
  simp
theorem eR_last {f : Nat} {i : Int32} {v : Int64} (hl : xAt k pc .lastore np) (hk : rK f = 2) (ht : rtag f = 21) (hx : rstL σ f i v = some σ') (kk : xR pF d k o nL ini ret rr hh (np, lv, st, (layR aR σ' G, T))) : xR pF d k o nL ini ret rr hh (pc, lv, .long v :: .int i :: .ref (aR + rpos f) :: st, (layR aR σ G, T)) := by
  obtain ⟨h1, rfl⟩ := rstL_s hx
  refine xE_m hl rfl (fun len => by simp [xpure]) ?_ (by rw [← layR_stL hk ht] at kk; exact kk)
  obtain ⟨len, -, h2, h3⟩ := hl
  obtain rfl : len = 1 := by simp only [xlen] at h2; omega
  subst h3
  simp only [xmem, xast, layR_arr hk, ht, if_neg h1, if_true]
theorem eR_call {idx y n : Nat} {as : List Value} {r : Option Value} {h' : xH} {st0 : List Value} (hl : xAt k pc (.invokevirtual idx) np) (hy : xmR o idx = some y) (hn : xnargs y = n) (hst : st0 = as.reverse ++ .ref aR :: st) (hlen : as.length = n) (hc : xcat st ≤ 8)
    (hw : xSe.contains y = true ∧ xIn.contains y = true) (hb : (xMn y).cls = (xCl 16).1) (hcall : xCo pF d y (.ref aR :: as) (layR aR σ G, T) r h') (kk : xR pF d k o nL ini ret rr hh (np, lv, r.toList ++ st, h')) : xR pF d k o nL ini ret rr hh (pc, lv, st0, (layR aR σ G, T)) := by
  refine eE_virt (b := aR) hl hy hn hst hlen hc hw ?_ hcall kk
  show (xMn y).cls = (xCl ((layR aR σ G aR).1 - 1)).1 ∧ 0 < (layR aR σ G aR).1 ∧ (layR aR σ G aR).1 ≤ 17
  rw [layR_obj]
  exact ⟨hb, (by show 0 < 17; decide), (by show 17 ≤ 17; decide)⟩
theorem eR_putS {idx f : Nat} {v : Int32} (hl : xAt k pc (.putfield idx) np) (hf : xfR o idx = some (16, f)) (hk : rK f = 0) (hn : f < 147) (hc : ((xCl 16).2.1 f).2.2.2 = false) (ht : xfty 16 f = some .int) (hs : some (setI σ f 0 v) = some σ') (kk : xR pF d k o nL ini ret rr hh (np, lv, st, (layR aR σ' G, T))) : xR pF d k o nL ini ret rr hh (pc, lv, .int v :: .ref aR :: st, (layR aR σ G, T)) := by
  cases hs
  exact eR_put hl hf hk hn hc ht kk
theorem eR_putLS {idx f : Nat} {v : Int64} (hl : xAt k pc (.putfield idx) np) (hf : xfR o idx = some (16, f)) (hk : rK f = 1) (hn : f < 147) (hc : ((xCl 16).2.1 f).2.2.2 = false) (ht : xfty 16 f = some .long) (hs : some (setL σ f 0 v) = some σ') (kk : xR pF d k o nL ini ret rr hh (np, lv, st, (layR aR σ' G, T))) : xR pF d k o nL ini ret rr hh (pc, lv, .long v :: .ref aR :: st, (layR aR σ G, T)) := by
  cases hs
  exact eR_putL hl hf hk hn hc ht kk
/-- none of the reference's methods is done by itself -/
def xNP (pF : Nat → List Value → xH → Option (Option Value × xH)) : Prop := ∀ y, 240 ≤ y → y ≤ 384 → ∀ as h, pF y as h = none
theorem xsw_out {x : Int32} {lo : Int} {n : Nat} (h : ∀ j : Nat, j < n → x ≠ Int32.ofInt (lo + j)) : x.toInt < lo ∨ lo + n - 1 < x.toInt := by
  by_cases q : x.toInt < lo
  · exact Or.inl q
  · right
    by_cases q2 : lo + n - 1 < x.toInt
    · exact q2
    · exfalso
      refine h (x.toInt - lo).toNat (by omega) ?_
      rw [show lo + ((x.toInt - lo).toNat : Int) = x.toInt by omega]
      exact (Int32.ofInt_toInt x).symm
end XRR
