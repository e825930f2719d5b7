/-! paths: what the methods of a server do, one step behind another; counted are alarms and cleanings -/
def sF : List Nat := [45, 46, 47, 53, 54, 55, 56, 57, 58, 64, 65, 67, 69, 70, 73, 74, 75, 76, 77, 78, 79, 80, 81, 82, 83, 150, 151]
/-- numbers that stay in their range -/
def nOK (f : Nat) (v : Int32) : Prop := (f = 45 → v = -1 ∨ v = 0 ∨ v = 1) ∧ (f = 74 ∨ f = 80 → aInR v (-1) 6 = true)
def PaC (s : Nat) (P : AL → Prop) (R : Nat → AA → AA → Prop) : Prop :=
  (∀ {a : AA}, R 0 a a) ∧
  (∀ {k j : Nat} {a b c : AA}, R k a b → R j b c → R (k + j) a c) ∧
  (∀ {k j : Nat} {a b : AA}, R k a b → k ≤ j → R j a b) ∧
  (∀ {a : AA} {f : Nat} {v : Int32}, f ∈ sF → nOK f v → R 0 a (aI a f s v)) ∧
  (∀ {a : AA} {f p : Nat} {v : Int32}, f ∈ sc49 → p < 7 → R 0 a (aI a f (7 * s + p) v)) ∧
  (∀ {a : AA} {f : Nat} {v : Int32}, f < 16 → R 0 a (aI a 43 (16 * s + f) v)) ∧
  (∀ {a : AA} {v : Int64}, R 0 a (aJ a 84 s v)) ∧
  (∀ {a : AA} {v : List AE}, R 0 a (aLgS a s v)) ∧
  (∀ {a : AA} {v : AM}, R 0 a (aMcS a s v)) ∧
  (∀ {a : AA} {v : AM}, R 0 a (aShS a s v)) ∧
  (∀ {a : AA} {v : AM}, R 0 a (aPmS a s v)) ∧
  (∀ {a : AA} {v : Nat → AF}, R 0 a (aFcS a s v)) ∧
  (∀ {a : AA} {v : Nat → AF}, R 0 a (aFkS a s v)) ∧
  (∀ {a : AA} {v : List Nat}, (∀ f ∈ v, f < 16) → R 0 a (aChS a s v)) ∧
  (∀ {a : AA} {v : List AQ}, (∀ q ∈ v, q ∈ aRq a s ∨ aInR (q 1) 8 15 = true) → R 0 a (aRqS a s v)) ∧
  (∀ {a : AA} {l : AL}, P l → R 0 a (aWtS a s (aWt a s ++ [l]))) ∧
  (∀ {a : AA}, R 0 a (aWtS a s [])) ∧
  (∀ {a : AA} {n : Nat}, 0 < n → n ≤ 100 → R 1 a (A_alarm a s (aNow a + Int32.ofNat n))) ∧
  (∀ {a : AA}, R 0 a (aSoil a s)) ∧
  (∀ {a : AA}, aS a 31 s < 0 → R 1 a (aI a 71 s 0)) ∧
  (∀ {a : AA} {l : AL}, P l → R 0 a (A_sendOut a l))
/-- b comes of a by such steps -/
def Pa (s : Nat) (P : AL → Prop) (k : Nat) (a b : AA) : Prop := ∀ R : Nat → AA → AA → Prop, PaC s P R → R k a b
theorem Pa.nil {s : Nat} {P : AL → Prop} {a : AA} : Pa s P 0 a a := fun  R q => q.1 
theorem Pa.cat {s : Nat} {P : AL → Prop} {k j : Nat} {a b c : AA} : Pa s P k a b → Pa s P j b c → Pa s P (k + j) a c := fun h0 h1 R q => q.2.1 (h0 R q) (h1 R q)
theorem Pa.wk {s : Nat} {P : AL → Prop} {k j : Nat} {a b : AA} : Pa s P k a b → k ≤ j → Pa s P j a b := fun h0 h1 R q => q.2.2.1 (h0 R q) h1
theorem Pa.num {s : Nat} {P : AL → Prop} {a : AA} {f : Nat} {v : Int32} : f ∈ sF → nOK f v → Pa s P 0 a (aI a f s v) := fun h0 h1 R q => q.2.2.2.1 h0 h1
theorem Pa.nuq {s : Nat} {P : AL → Prop} {a : AA} {f p : Nat} {v : Int32} : f ∈ sc49 → p < 7 → Pa s P 0 a (aI a f (7 * s + p) v) := fun h0 h1 R q => q.2.2.2.2.1 h0 h1
theorem Pa.nuf {s : Nat} {P : AL → Prop} {a : AA} {f : Nat} {v : Int32} : f < 16 → Pa s P 0 a (aI a 43 (16 * s + f) v) := fun h0 R q => q.2.2.2.2.2.1 h0
theorem Pa.dr {s : Nat} {P : AL → Prop} {a : AA} {v : Int64} : Pa s P 0 a (aJ a 84 s v) := fun  R q => q.2.2.2.2.2.2.1 
theorem Pa.lg {s : Nat} {P : AL → Prop} {a : AA} {v : List AE} : Pa s P 0 a (aLgS a s v) := fun  R q => q.2.2.2.2.2.2.2.1 
theorem Pa.mc {s : Nat} {P : AL → Prop} {a : AA} {v : AM} : Pa s P 0 a (aMcS a s v) := fun  R q => q.2.2.2.2.2.2.2.2.1 
theorem Pa.sh {s : Nat} {P : AL → Prop} {a : AA} {v : AM} : Pa s P 0 a (aShS a s v) := fun  R q => q.2.2.2.2.2.2.2.2.2.1 
theorem Pa.pm {s : Nat} {P : AL → Prop} {a : AA} {v : AM} : Pa s P 0 a (aPmS a s v) := fun  R q => q.2.2.2.2.2.2.2.2.2.2.1 
theorem Pa.fc {s : Nat} {P : AL → Prop} {a : AA} {v : Nat → AF} : Pa s P 0 a (aFcS a s v) := fun  R q => q.2.2.2.2.2.2.2.2.2.2.2.1 
theorem Pa.fk {s : Nat} {P : AL → Prop} {a : AA} {v : Nat → AF} : Pa s P 0 a (aFkS a s v) := fun  R q => q.2.2.2.2.2.2.2.2.2.2.2.2.1 
theorem Pa.ch {s : Nat} {P : AL → Prop} {a : AA} {v : List Nat} : (∀ f ∈ v, f < 16) → Pa s P 0 a (aChS a s v) := fun h0 R q => q.2.2.2.2.2.2.2.2.2.2.2.2.2.1 h0
theorem Pa.rq {s : Nat} {P : AL → Prop} {a : AA} {v : List AQ} : (∀ q ∈ v, q ∈ aRq a s ∨ aInR (q 1) 8 15 = true) → Pa s P 0 a (aRqS a s v) := fun h0 R q => q.2.2.2.2.2.2.2.2.2.2.2.2.2.2.1 h0
theorem Pa.wt {s : Nat} {P : AL → Prop} {a : AA} {l : AL} : P l → Pa s P 0 a (aWtS a s (aWt a s ++ [l])) := fun h0 R q => q.2.2.2.2.2.2.2.2.2.2.2.2.2.2.2.1 h0
theorem Pa.wt0 {s : Nat} {P : AL → Prop} {a : AA} : Pa s P 0 a (aWtS a s []) := fun  R q => q.2.2.2.2.2.2.2.2.2.2.2.2.2.2.2.2.1 
theorem Pa.alarm {s : Nat} {P : AL → Prop} {a : AA} {n : Nat} : 0 < n → n ≤ 100 → Pa s P 1 a (A_alarm a s (aNow a + Int32.ofNat n)) := fun h0 h1 R q => q.2.2.2.2.2.2.2.2.2.2.2.2.2.2.2.2.2.1 h0 h1
theorem Pa.soil {s : Nat} {P : AL → Prop} {a : AA} : Pa s P 0 a (aSoil a s) := fun  R q => q.2.2.2.2.2.2.2.2.2.2.2.2.2.2.2.2.2.2.1 
theorem Pa.clean {s : Nat} {P : AL → Prop} {a : AA} : aS a 31 s < 0 → Pa s P 1 a (aI a 71 s 0) := fun h0 R q => q.2.2.2.2.2.2.2.2.2.2.2.2.2.2.2.2.2.2.2.1 h0
theorem Pa.out {s : Nat} {P : AL → Prop} {a : AA} {l : AL} : P l → Pa s P 0 a (A_sendOut a l) := fun h0 R q => q.2.2.2.2.2.2.2.2.2.2.2.2.2.2.2.2.2.2.2.2 h0
/-- a server's letter -/
def sL (s : Nat) (l : AL) : Prop := l.1 2 = Int32.ofNat s ∧ (aInR (l.1 3) 0 6 = true ∨ (aInR (l.1 3) 8 15 = true ∧ l.1 4 = 11)) ∧ ¬ l.1 4 = 10 ∧ (l.1 4 = 11 → l.1 6 = 1 → 0 ≤ l.1 7 → aInR (l.1 7) 0 6 = true)
def nRg (s : Nat) (a : AA) : Prop := (aS a 45 s = -1 ∨ aS a 45 s = 0 ∨ aS a 45 s = 1) ∧ aInR (aS a 74 s) (-1) 6 = true ∧ aInR (aS a 80 s) (-1) 6 = true
/-- what a path keeps -/
def Ph (s : Nat) (P : AL → Prop) (a : AA) : Prop := (∀ f ∈ aCh a s, f < 16) ∧ (∀ q ∈ aRq a s, aInR (q 1) 8 15 = true) ∧ (∀ l ∈ aWt a s, P l) ∧ nRg s a
section PA0
variable {s k j : Nat} {P : AL → Prop} {a b b' c : AA}
theorem Pa_c {x y : AA} (h : Pa s P k x y) (g : Pa s P j a x) : Pa s P (j + k) a y := Pa.cat g h
theorem Pa_0 (g : Pa s P k a b) (h : Pa s P 0 b c) : Pa s P k a c := Pa.cat g h
theorem nOK_o {f : Nat} {v : Int32} (h : ¬ f = 45 ∧ ¬ f = 74 ∧ ¬ f = 80) : nOK f v := ⟨fun z => absurd z h.1, fun z => z.elim (fun y => absurd y h.2.1) (fun y => absurd y h.2.2)⟩
theorem Pa_n {f : Nat} {v : Int32} (hf : f ∈ sF ∧ ¬ f = 45 ∧ ¬ f = 74 ∧ ¬ f = 80) (g : Pa s P k a b) : Pa s P k a (aI b f s v) := Pa_0 g (Pa.num hf.1 (nOK_o hf.2))
theorem Pa_n45 {v : Int32} (h : v = -1 ∨ v = 0 ∨ v = 1) (g : Pa s P k a b) : Pa s P k a (aI b 45 s v) := Pa_0 g (Pa.num (by decide) ⟨fun _ => h, fun z => z.elim (fun y => absurd y (by decide)) (fun y => absurd y (by decide))⟩)
theorem Pa_n74 {v : Int32} (h : aInR v (-1) 6 = true) (g : Pa s P k a b) : Pa s P k a (aI b 74 s v) := Pa_0 g (Pa.num (by decide) ⟨fun y => absurd y (by decide), fun _ => h⟩)
theorem Pa_n80 {v : Int32} (h : aInR v (-1) 6 = true) (g : Pa s P k a b) : Pa s P k a (aI b 80 s v) := Pa_0 g (Pa.num (by decide) ⟨fun y => absurd y (by decide), fun _ => h⟩)
theorem Pa_nn {f : Nat} {v : Int32} (hf : f ∈ sF ∧ ¬ f = 45 ∧ ¬ f = 74 ∧ ¬ f = 80) : Pa s P 0 a (aI a f s v) := Pa.num hf.1 (nOK_o hf.2)
theorem nRg_f {W T : List Nat} (h : AFr W T a b) (q : dj [45, 74, 80] W = true) (z : nRg s a) : nRg s b := by
  have e : ∀ f ∈ [45, 74, 80], aS b f s = aS a f s := fun f hf => h.1 f (dj_m q hf) s
  unfold nRg
  rw [e 45 (by decide), e 74 (by decide), e 80 (by decide)]
  exact z
theorem nRg_n {f i : Nat} {v : Int32} (hv : nOK f v) (z : nRg s a) : nRg s (aI a f i v) := by
  have e : ∀ g, aS (aI a f i v) g s = if g = f ∧ s = i then v else aS a g s := fun g => rfl
  unfold nRg
  rw [e, e, e]
  refine ⟨?_, ?_, ?_⟩
  · by_cases y : 45 = f ∧ s = i
    · rw [if_pos y]
      exact hv.1 y.1.symm
    · rw [if_neg y]
      exact z.1
  · by_cases y : 74 = f ∧ s = i
    · rw [if_pos y]
      exact hv.2 (Or.inl y.1.symm)
    · rw [if_neg y]
      exact z.2.1
  · by_cases y : 80 = f ∧ s = i
    · rw [if_pos y]
      exact hv.2 (Or.inr y.1.symm)
    · rw [if_neg y]
      exact z.2.2
theorem sc49_o {f : Nat} (h : f ∈ sc49) : ¬ f = 45 ∧ ¬ f = 74 ∧ ¬ f = 80 := (by decide : ∀ f ∈ sc49, ¬ f = 45 ∧ ¬ f = 74 ∧ ¬ f = 80) f h
theorem Pa_nq {f p : Nat} {v : Int32} (hf : f ∈ sc49) (hp : p < 7) (g : Pa s P k a b) : Pa s P k a (aI b f (7 * s + p) v) := Pa_0 g (Pa.nuq hf hp)
theorem Pa_if {q : Prop} [Decidable q] (h1 : q → Pa s P k a b) (h2 : ¬ q → Pa s P k a b') : Pa s P k a (if q then b else b') := by
  by_cases z : q
  · rw [if_pos z]
    exact h1 z
  · rw [if_neg z]
    exact h2 z
theorem Pa_H (h : Pa s P k a b) : Ph s P a → Ph s P b := by
  refine h (fun _ a b => Ph s P a → Ph s P b) ⟨fun z => z, fun h1 h2 z => h2 (h1 z), fun h1 _ => h1, fun _ hv z => ⟨z.1, z.2.1, z.2.2.1, nRg_n hv z.2.2.2⟩, fun hf _ z => ⟨z.1, z.2.1, z.2.2.1, nRg_n (nOK_o (sc49_o hf)) z.2.2.2⟩, fun _ z => ⟨z.1, z.2.1, z.2.2.1, nRg_n (nOK_o (by decide)) z.2.2.2⟩, fun z => z, fun z => z, fun z => z, fun z => z, fun z => z, fun z => z, fun z => z, fun {a v} hv z => ⟨fun f hf => hv f ?_, z.2⟩, fun {a v} hv z => ⟨z.1, fun q hq => ?_, z.2.2⟩, fun {a l} hl z => ⟨z.1, z.2.1, fun x hx => ?_, z.2.2.2⟩, fun {a} z => ⟨z.1, z.2.1, fun x hx => ?_, z.2.2.2⟩, fun _ _ z => ⟨z.1, z.2.1, z.2.2.1, nRg_f AFr_alarm (by decide) z.2.2.2⟩, fun {a} z => ⟨?_, ?_, ?_, nRg_f AFr_soil (by decide) z.2.2.2⟩, fun _ z => ⟨z.1, z.2.1, z.2.2.1, nRg_n (nOK_o (by decide)) z.2.2.2⟩, fun {a l} _ z => ?_⟩
  · have e : aCh (aChS a s v) s = v := if_pos rfl
    rw [← e]
    exact hf
  · have e : aRq (aRqS a s v) s = v := if_pos rfl
    rw [e] at hq
    rcases hv q hq with y | y
    · exact z.2.1 q y
    · exact y
  · have e : aWt (aWtS a s (aWt a s ++ [l])) s = aWt a s ++ [l] := if_pos rfl
    rw [e] at hx
    rcases List.mem_append.mp hx with y | y
    · exact z.2.2.1 x y
    · rw [List.mem_singleton.mp y]
      exact hl
  · have e : aWt (aWtS a s []) s = [] := if_pos rfl
    rw [e] at hx
    exact absurd hx List.not_mem_nil
  · rw [AFr_soil.2.2.2.2.2.2.2.2.2.1 (by decide)]
    exact z.1
  · rw [AFr_soil.2.2.2.2.2.2.2.2.2.2.1 (by decide)]
    exact z.2.1
  · rw [AFr_soil.2.2.1 (by decide)]
    exact z.2.2.1
  · have hF := AFr_sendOut (a := a) (l := l)
    refine ⟨?_, ?_, ?_, nRg_f hF (by decide) z.2.2.2⟩
    · rw [hF.2.2.2.2.2.2.2.2.2.1 (by decide)]
      exact z.1
    · rw [hF.2.2.2.2.2.2.2.2.2.2.1 (by decide)]
      exact z.2.1
    · rw [hF.2.2.1 (by decide)]
      exact z.2.2.1
theorem Pa_post {l : AL} (hl : P l) : Pa s P 0 a (A_post a s l) := by
  unfold A_post
  refine Pa_if (fun _ => Pa.out hl) (fun _ => Pa_if (fun _ => Pa.wt hl) (fun _ => Pa.nil))
theorem Pa_al {n : Nat} (h1 : 0 < n) (h2 : n ≤ 100) (g : Pa s P k a b) : Pa s P (k + 1) a (A_alarm b s (aNow b + Int32.ofNat n)) := Pa.cat g (Pa.alarm h1 h2)
theorem Pa_put {f : Nat} {F : AF} : Pa s P 0 a (aPut a s f F) := Pa.fc
theorem Pa_drawAlarm : Pa s P 1 a (A_drawAlarm a s) := by
  obtain ⟨h1, h2⟩ := aRnd_b (x := aLcg (a.1.2 84 s)) (m := 50) (by decide) (by decide)
  obtain ⟨n, e, hn⟩ : ∃ n : Nat, 50 + aRnd (aLcg (a.1.2 84 s)) 50 = Int32.ofNat (50 + n) ∧ n < 50 := by
    refine ⟨(aRnd (aLcg (a.1.2 84 s)) 50).toInt.toNat, ?_, ?_⟩
    · rw [Int32.ofNat_add]
      congr 1
      apply Int32.toInt_inj.mp
      have h1' : 0 ≤ (aRnd (aLcg (a.1.2 84 s)) 50).toInt := h1
      have h2' : (aRnd (aLcg (a.1.2 84 s)) 50).toInt < 50 := h2
      rw [Int32.toInt_ofNat_of_lt (by omega)]
      omega
    · have h1' : 0 ≤ (aRnd (aLcg (a.1.2 84 s)) 50).toInt := h1
      have h2' : (aRnd (aLcg (a.1.2 84 s)) 50).toInt < 50 := h2
      omega
  have e2 : A_drawAlarm a s = A_alarm (aJ a 84 s (aLcg (a.1.2 84 s))) s (aNow (aJ a 84 s (aLcg (a.1.2 84 s))) + Int32.ofNat (50 + n)) := by
    rw [← e, ← Int32.add_assoc]
    rfl
  rw [e2]
  exact Pa_al (by omega) (by omega) Pa.dr
theorem Pa_d (g : Pa s P k a b) : Pa s P (k + 1) a (A_drawAlarm b s) := Pa.cat g Pa_drawAlarm
theorem Pa_syncFile {f : Nat} (hf : f < 16) : Pa s P 0 a (aSyncFile a s f) := Pa_0 Pa.fk (Pa.nuf hf)
theorem Pa_syncFiles : ∀ n, n ≤ 16 → Pa s P 0 a (aSyncFiles a s n)
  | 0, _ => Pa.nil
  | n + 1, h => Pa_0 (Pa_syncFiles n (by omega)) (Pa_syncFile (by omega))
theorem Pa_syncAll (h31 : aS a 31 s < 0) : Pa s P 1 a (A_syncAll a s) := by
  have e : aS (aI (aSyncFiles a s 16) 46 s 0) 31 s = aS a 31 s := (aS_If (by decide)).trans ((AFr_syncFs 16).1 31 (by decide) s)
  exact Pa.cat (Pa_n (f := 46) (v := 0) (by decide) (Pa_syncFiles (s := s) (P := P) (a := a) 16 (by omega))) (Pa.clean (by rw [e]; exact h31))
theorem Pa_laySlot (h : Ph s P a) : Pa s P 0 a (aLaySlot a s) := by
  have key : ∀ f : Int32, f.toNatClampNeg < 16 ∧ (f = -1 ∨ f = 0 ∨ f = 1) → Pa s P 0 a (aI (aI (aI (aPut (aAdd a 150 s 1) s f.toNatClampNeg (aF 1 32 (aS (aAdd a 150 s 1) 150 s) (aS a 53 s) (aS a 54 s) [] ([], []))) 43 (16 * s + f.toNatClampNeg) 0) 45 s f) 46 s 1) := fun f hf => Pa_n (by decide) (Pa_n45 hf.2 (Pa_0 (Pa_0 (Pa_nn (by decide)) Pa_put) (Pa.nuf hf.1)))
  unfold aLaySlot
  refine key _ ?_
  split
  · split
    · decide
    · decide
  · rcases h.2.2.2.1 with z | z | z
    · rw [z]
      decide
    · rw [z]
      decide
    · rw [z]
      decide
theorem Pa_writeSlot (h : Ph s P a) : Pa s P 0 a (A_writeSlot a s) := Pa_0 (Pa_laySlot h) Pa.soil
theorem Pa_writeShot : Pa s P 0 a (aWriteShot a s) := by
  have key : ∀ f : Nat, f < 16 → Pa s P 0 a (aI (aSyncFile (aPut a s f (aF 1 (20 + aS a 67 s) (aS a 55 s) (aS a 57 s) (aS a 58 s) [] (aSh a s))) s f) 47 s (Int32.ofNat f)) := fun f hf => Pa_n (by decide) (Pa_0 Pa_put (Pa_syncFile hf))
  unfold aWriteShot
  refine key _ ?_
  split <;> decide
theorem Pa_remove {f : Nat} (hf : f < 16) : Pa s P 0 a (aRemove a s f) := Pa_0 Pa_put (Pa.nuf hf)
theorem Pa_removeAll : ∀ (v : List Nat) (a : AA), (∀ f ∈ v, f < 16) → Pa s P 0 a (aRemoveAll a s v)
  | [], _, _ => Pa.nil
  | f :: r, a, h => Pa_0 (Pa_remove (h f List.mem_cons_self)) (Pa_removeAll r _ (fun g hg => h g (List.mem_cons_of_mem _ hg)))
theorem Pa_findCode : Pa s P 0 a (aFindCode a s) := Pa_n (by decide) (Pa_nn (by decide))
theorem aFree_lt {f : Nat} (h : aFree a s = some f) : f < 16 := by
  have := List.mem_of_find?_eq_some h
  exact List.mem_range.mp (List.mem_of_mem_drop this)
theorem Pa_seg (h : Ph s P a) : Pa s P 0 a (aSeg a s).1 := by
  have hfr : (aFree a s).getD 0 < 16 := by
    cases e : aFree a s with
    | none => decide
    | some f => exact aFree_lt e
  unfold aSeg
  dsimp only
  split
  · refine Pa_0 (Pa_0 Pa_put (Pa.nuf hfr)) (Pa.ch (fun f hf => ?_))
    rcases List.mem_append.mp hf with y | y
    · exact h.1 f y
    · rw [List.mem_singleton.mp y]
      exact hfr
  · exact Pa.nil
theorem Pa_append {e : AE} (h : Ph s P a) : Pa s P 0 a (A_append a s e) := by
  unfold A_append
  dsimp only
  refine Pa_0 (Pa_if (fun _ => ?_) (fun _ => ?_)) Pa.soil
  · exact Pa_n (by decide) (Pa_n (by decide) (Pa_n (by decide) (Pa_0 (Pa_0 (Pa_seg h) Pa_put) Pa.lg)))
  · exact Pa_n (by decide) (Pa_0 (Pa_0 (Pa_seg h) Pa_put) Pa.lg)
theorem Pa_cut {f : Nat} {n : Int32} (hf : f < 16) : Pa s P 0 a (aCut a s f n) := Pa_0 Pa_put (Pa.nuf hf)
theorem Pa_cutLog {n : Int32} (h : Ph s P a) : Pa s P 0 a (A_cutLog a s n) := by
  have hlo : ∀ f ∈ aBelow a s n (aCh a s), f < 16 := fun f hf => h.1 f (List.mem_filter.mp hf).1
  have hfr : ∀ f ∈ aFrom a s n (aCh a s), f < 16 := fun f hf => h.1 f (List.mem_filter.mp hf).1
  have h1 : Pa s P 0 a (aChS (aRemoveAll a s (aFrom a s n (aCh a s))) s (aBelow a s n (aCh a s))) := Pa_0 (Pa_removeAll _ _ hfr) (Pa.ch hlo)
  unfold A_cutLog
  dsimp only
  refine Pa_0 (Pa_0 (Pa_n (by decide) (Pa_0 (Pa_n (by decide) ?_) Pa.lg)) Pa_findCode) Pa.soil
  cases e : (aBelow a s n (aCh a s)).getLast? with
  | none => exact h1
  | some f => exact Pa_0 h1 (Pa_cut (hlo f (List.mem_of_getLast? e)))
theorem aOld_m : ∀ (c : List Nat) (f : Nat), (f ∈ (aOld a s c).1 ∨ f ∈ (aOld a s c).2) → f ∈ c := by
  intro c
  induction c with
  | nil => exact fun f h => h.elim id id
  | cons f r ih =>
    cases r with
    | nil =>
      intro g h
      exact h.elim (fun z => absurd z List.not_mem_nil) id
    | cons g r =>
      intro x h
      unfold aOld at h
      by_cases q : (aFc a s g).1 2 ≤ aBase a s + 1
      · rw [if_pos q] at h
        rcases h with z | z
        · rcases List.mem_cons.mp z with y | y
          · rw [y]
            exact List.mem_cons_self
          · exact List.mem_cons_of_mem _ (ih x (Or.inl y))
        · exact List.mem_cons_of_mem _ (ih x (Or.inr z))
      · rw [if_neg q] at h
        exact h.elim (fun z => absurd z List.not_mem_nil) id
theorem Pa_trim (h : Ph s P a) : Pa s P 0 a (aTrim a s) := by
  have key : ∀ r : List Nat × List Nat, (∀ f, (f ∈ r.1 ∨ f ∈ r.2) → f ∈ aCh a s) → Pa s P 0 a (aChS (aRemoveAll a s r.1) s r.2) := fun r hr => Pa_0 (Pa_removeAll _ _ (fun f hf => h.1 f (hr f (Or.inl hf)))) (Pa.ch (fun f hf => h.1 f (hr f (Or.inr hf))))
  unfold aTrim
  refine key _ (fun f hf => ?_)
  split at hf
  · exact hf.elim id (fun z => absurd z List.not_mem_nil)
  · exact aOld_m _ f hf
theorem Pa_moveBase {n t c : Int32} : Pa s P 0 a (aMoveBase a s n t c) := by
  unfold aMoveBase
  exact Pa_n (by decide) (Pa_n (by decide) (Pa_n (by decide) (Pa_n (by decide) (Pa_n (by decide) Pa.lg))))
theorem Pa_off0 : ∀ n, n ≤ 7 → Pa s P 0 a (aOff0 a s n)
  | 0, _ => Pa.nil
  | n + 1, h => Pa_nq (by decide) (by omega) (Pa_off0 n (by omega))
theorem Pa_compact (h : Ph s P a) : Pa s P 0 a (A_compact a s) := by
  unfold A_compact
  dsimp only
  have h1 : Pa s P 0 a (aWriteShot (aShS (aI (aMoveBase a s (aS a 76 s) (aTermAt a s (aS a 76 s)) (aMemC (aS a 58 s) ((aLg a s).take (aS a 76 s - aBase a s).toNatClampNeg))) 67 s (Int32.ofNat (aSize (aMc a s)))) s (aMc a s)) s) := Pa_0 (Pa_0 (Pa_n (by decide) Pa_moveBase) Pa.sh) Pa_writeShot
  exact Pa_0 (Pa_0 (Pa_0 (Pa_0 h1 (Pa_trim (Pa_H h1 h))) Pa_findCode) Pa.soil) (Pa_off0 7 (by omega))
end PA0
