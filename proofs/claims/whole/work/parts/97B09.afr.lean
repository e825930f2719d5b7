/-! what a method of the agreed store leaves as it was -/
def AFr (W T : List Nat) (a a' : AA) : Prop := (∀ f, f ∉ W → ∀ i, aS a' f i = aS a f i) ∧ (0 ∉ T → aWay a' = aWay a) ∧ (1 ∉ T → aWt a' = aWt a) ∧ (2 ∉ T → aLg a' = aLg a) ∧ (3 ∉ T → aMc a' = aMc a) ∧ (4 ∉ T → aSh a' = aSh a) ∧ (5 ∉ T → aPm a' = aPm a) ∧ (6 ∉ T → aFc a' = aFc a) ∧ (7 ∉ T → aFk a' = aFk a) ∧ (8 ∉ T → aCh a' = aCh a) ∧ (9 ∉ T → aRq a' = aRq a) ∧ (10 ∉ T → aAk a' = aAk a) ∧ (11 ∉ T → aTp a' = aTp a) ∧ (12 ∉ T → aRe a' = aRe a) ∧ (13 ∉ T → aDn a' = aDn a)
theorem AFr_r {a : AA} : AFr [] [] a a := ⟨fun _ _ _ => rfl, fun _ => rfl, fun _ => rfl, fun _ => rfl, fun _ => rfl, fun _ => rfl, fun _ => rfl, fun _ => rfl, fun _ => rfl, fun _ => rfl, fun _ => rfl, fun _ => rfl, fun _ => rfl, fun _ => rfl, fun _ => rfl⟩
theorem AFr_t {W T W' T' : List Nat} {a b c : AA} (h : AFr W T a b) (h' : AFr W' T' b c) : AFr (W ++ W') (T ++ T') a c := by
  have q1 : ∀ {x : Nat} {A B : List Nat}, x ∉ A ++ B → x ∉ A := fun hx z => hx (List.mem_append_left _ z)
  have q2 : ∀ {x : Nat} {A B : List Nat}, x ∉ A ++ B → x ∉ B := fun hx z => hx (List.mem_append_right _ z)
  obtain ⟨a0, a1, a2, a3, a4, a5, a6, a7, a8, a9, a10, a11, a12, a13, a14⟩ := h
  obtain ⟨b0, b1, b2, b3, b4, b5, b6, b7, b8, b9, b10, b11, b12, b13, b14⟩ := h'
  exact ⟨fun f hf i => (b0 f (q2 hf) i).trans (a0 f (q1 hf) i), fun z => (b1 (q2 z)).trans (a1 (q1 z)), fun z => (b2 (q2 z)).trans (a2 (q1 z)), fun z => (b3 (q2 z)).trans (a3 (q1 z)), fun z => (b4 (q2 z)).trans (a4 (q1 z)), fun z => (b5 (q2 z)).trans (a5 (q1 z)), fun z => (b6 (q2 z)).trans (a6 (q1 z)), fun z => (b7 (q2 z)).trans (a7 (q1 z)), fun z => (b8 (q2 z)).trans (a8 (q1 z)), fun z => (b9 (q2 z)).trans (a9 (q1 z)), fun z => (b10 (q2 z)).trans (a10 (q1 z)), fun z => (b11 (q2 z)).trans (a11 (q1 z)), fun z => (b12 (q2 z)).trans (a12 (q1 z)), fun z => (b13 (q2 z)).trans (a13 (q1 z)), fun z => (b14 (q2 z)).trans (a14 (q1 z))⟩
def sub0 (A B : List Nat) : Bool := A.all (fun x => B.contains x)
theorem sub0_m {A B : List Nat} (h : sub0 A B = true) {x : Nat} (hx : x ∈ A) : x ∈ B := by
  have := List.all_eq_true.mp h x hx
  simpa using this
theorem AFr_w {W T W' T' : List Nat} {a b : AA} (h : AFr W T a b) (h1 : sub0 W W' = true) (h2 : sub0 T T' = true) : AFr W' T' a b := by
  have q1 : ∀ {x : Nat}, x ∉ W' → x ∉ W := fun hx z => hx (sub0_m h1 z)
  have q2 : ∀ {x : Nat}, x ∉ T' → x ∉ T := fun hx z => hx (sub0_m h2 z)
  obtain ⟨a0, a1, a2, a3, a4, a5, a6, a7, a8, a9, a10, a11, a12, a13, a14⟩ := h
  exact ⟨fun f hf i => a0 f (q1 hf) i, fun z => a1 (q2 z), fun z => a2 (q2 z), fun z => a3 (q2 z), fun z => a4 (q2 z), fun z => a5 (q2 z), fun z => a6 (q2 z), fun z => a7 (q2 z), fun z => a8 (q2 z), fun z => a9 (q2 z), fun z => a10 (q2 z), fun z => a11 (q2 z), fun z => a12 (q2 z), fun z => a13 (q2 z), fun z => a14 (q2 z)⟩
theorem AFr_I {a : AA} {f i : Nat} {v : Int32} : AFr [f] [] a (aI a f i v) := by
  obtain ⟨_, h⟩ := @AFr_r a
  exact ⟨fun g hg i => aS_If (fun z => hg (by rw [z]; exact List.mem_cons_self)), h⟩
theorem AFr_J {a : AA} {f i : Nat} {v : Int64} : AFr [] [] a (aJ a f i v) := @AFr_r a
theorem AFr_if {W T W' T' : List Nat} {a b c : AA} {p : Prop} [Decidable p] (h : AFr W T a b) (h' : AFr W' T' a c) : AFr (W ++ W') (T ++ T') a (if p then b else c) := by
  have s1 : ∀ A B : List Nat, sub0 A (A ++ B) = true := by
    intro A B
    refine List.all_eq_true.mpr (fun x hx => ?_)
    simp [hx]
  have s2 : ∀ A B : List Nat, sub0 B (A ++ B) = true := by
    intro A B
    refine List.all_eq_true.mpr (fun x hx => ?_)
    simp [hx]
  by_cases q : p
  · rw [if_pos q]
    exact AFr_w h (s1 _ _) (s1 _ _)
  · rw [if_neg q]
    exact AFr_w h' (s2 _ _) (s2 _ _)
theorem AFr_way {a : AA} {v : List AP} : AFr [] [0] a (aWayS a v) := ⟨fun _ _ _ => rfl, fun z => absurd (by simp) z, fun _ => rfl, fun _ => rfl, fun _ => rfl, fun _ => rfl, fun _ => rfl, fun _ => rfl, fun _ => rfl, fun _ => rfl, fun _ => rfl, fun _ => rfl, fun _ => rfl, fun _ => rfl, fun _ => rfl⟩
theorem AFr_wt {a : AA} {s : Nat} {v : List AL} : AFr [] [1] a (aWtS a s v) := ⟨fun _ _ _ => rfl, fun _ => rfl, fun z => absurd (by simp) z, fun _ => rfl, fun _ => rfl, fun _ => rfl, fun _ => rfl, fun _ => rfl, fun _ => rfl, fun _ => rfl, fun _ => rfl, fun _ => rfl, fun _ => rfl, fun _ => rfl, fun _ => rfl⟩
theorem AFr_lg {a : AA} {s : Nat} {v : List AE} : AFr [] [2] a (aLgS a s v) := ⟨fun _ _ _ => rfl, fun _ => rfl, fun _ => rfl, fun z => absurd (by simp) z, fun _ => rfl, fun _ => rfl, fun _ => rfl, fun _ => rfl, fun _ => rfl, fun _ => rfl, fun _ => rfl, fun _ => rfl, fun _ => rfl, fun _ => rfl, fun _ => rfl⟩
theorem AFr_mc {a : AA} {s : Nat} {v : AM} : AFr [] [3] a (aMcS a s v) := ⟨fun _ _ _ => rfl, fun _ => rfl, fun _ => rfl, fun _ => rfl, fun z => absurd (by simp) z, fun _ => rfl, fun _ => rfl, fun _ => rfl, fun _ => rfl, fun _ => rfl, fun _ => rfl, fun _ => rfl, fun _ => rfl, fun _ => rfl, fun _ => rfl⟩
theorem AFr_sh {a : AA} {s : Nat} {v : AM} : AFr [] [4] a (aShS a s v) := ⟨fun _ _ _ => rfl, fun _ => rfl, fun _ => rfl, fun _ => rfl, fun _ => rfl, fun z => absurd (by simp) z, fun _ => rfl, fun _ => rfl, fun _ => rfl, fun _ => rfl, fun _ => rfl, fun _ => rfl, fun _ => rfl, fun _ => rfl, fun _ => rfl⟩
theorem AFr_pm {a : AA} {s : Nat} {v : AM} : AFr [] [5] a (aPmS a s v) := ⟨fun _ _ _ => rfl, fun _ => rfl, fun _ => rfl, fun _ => rfl, fun _ => rfl, fun _ => rfl, fun z => absurd (by simp) z, fun _ => rfl, fun _ => rfl, fun _ => rfl, fun _ => rfl, fun _ => rfl, fun _ => rfl, fun _ => rfl, fun _ => rfl⟩
theorem AFr_fc {a : AA} {s : Nat} {v : Nat → AF} : AFr [] [6] a (aFcS a s v) := ⟨fun _ _ _ => rfl, fun _ => rfl, fun _ => rfl, fun _ => rfl, fun _ => rfl, fun _ => rfl, fun _ => rfl, fun z => absurd (by simp) z, fun _ => rfl, fun _ => rfl, fun _ => rfl, fun _ => rfl, fun _ => rfl, fun _ => rfl, fun _ => rfl⟩
theorem AFr_fk {a : AA} {s : Nat} {v : Nat → AF} : AFr [] [7] a (aFkS a s v) := ⟨fun _ _ _ => rfl, fun _ => rfl, fun _ => rfl, fun _ => rfl, fun _ => rfl, fun _ => rfl, fun _ => rfl, fun _ => rfl, fun z => absurd (by simp) z, fun _ => rfl, fun _ => rfl, fun _ => rfl, fun _ => rfl, fun _ => rfl, fun _ => rfl⟩
theorem AFr_ch {a : AA} {s : Nat} {v : List Nat} : AFr [] [8] a (aChS a s v) := ⟨fun _ _ _ => rfl, fun _ => rfl, fun _ => rfl, fun _ => rfl, fun _ => rfl, fun _ => rfl, fun _ => rfl, fun _ => rfl, fun _ => rfl, fun z => absurd (by simp) z, fun _ => rfl, fun _ => rfl, fun _ => rfl, fun _ => rfl, fun _ => rfl⟩
theorem AFr_rq {a : AA} {s : Nat} {v : List AQ} : AFr [] [9] a (aRqS a s v) := ⟨fun _ _ _ => rfl, fun _ => rfl, fun _ => rfl, fun _ => rfl, fun _ => rfl, fun _ => rfl, fun _ => rfl, fun _ => rfl, fun _ => rfl, fun _ => rfl, fun z => absurd (by simp) z, fun _ => rfl, fun _ => rfl, fun _ => rfl, fun _ => rfl⟩
theorem AFr_alarm {a : AA} {e : Nat} {t : Int32} : AFr [2, 29, 30] [] a (A_alarm a e t) := AFr_w (AFr_t (AFr_t AFr_I AFr_I) AFr_I) (by decide) (by decide)
theorem AFr_drawAlarm {a : AA} {s : Nat} : AFr [2, 29, 30] [] a (A_drawAlarm a s) := AFr_w (AFr_t (AFr_t (AFr_t AFr_J AFr_I) AFr_I) AFr_I) (by decide) (by decide)
theorem AFr_soil {a : AA} {s : Nat} : AFr [2, 31, 32, 71] [] a (aSoil a s) := AFr_w (AFr_if (AFr_t (AFr_t (AFr_t AFr_I AFr_I) AFr_I) AFr_I) AFr_r) (by decide) (by decide)
theorem AFr_fly {a : AA} {l : AL} {t : Int32} : AFr [2, 21, 22] [0] a (A_fly a l t) := AFr_w (AFr_if AFr_I (AFr_t (AFr_t AFr_I AFr_I) AFr_way)) (by decide) (by decide)
theorem AFr_sendOut {a : AA} {l : AL} : AFr [2, 21, 22] [0] a (A_sendOut a l) := by
  unfold A_sendOut
  refine AFr_w (AFr_if (W' := [2, 21, 22] ++ ([22] ++ [2, 21, 22])) (T' := [0] ++ ([] ++ [0])) AFr_I (AFr_if (W' := [22] ++ [2, 21, 22]) (T' := [] ++ [0]) AFr_fly (AFr_if (W' := [2, 21, 22]) (T' := [0]) (W := [22]) (T := []) (AFr_w (AFr_t AFr_J AFr_I) (by decide) (by decide)) ?_))) (by decide) (by decide)
  · dsimp only
    exact AFr_w (AFr_if (AFr_t (AFr_t (AFr_t (AFr_t AFr_J AFr_J) AFr_J) AFr_fly) (AFr_t AFr_J AFr_fly)) (AFr_t (AFr_t (AFr_t AFr_J AFr_J) AFr_J) AFr_fly)) (by decide) (by decide)
theorem AFr_post {a : AA} {s : Nat} {l : AL} : AFr [2, 21, 22] [0, 1] a (A_post a s l) := AFr_w (AFr_if AFr_sendOut (AFr_if AFr_wt AFr_r)) (by decide) (by decide)
theorem AFr_put {a : AA} {s f : Nat} {F : AF} : AFr [] [6] a (aPut a s f F) := AFr_fc
theorem AFr_laySlot {a : AA} {s : Nat} : AFr [150, 43, 45, 46] [6] a (aLaySlot a s) := AFr_w (AFr_t (AFr_t (AFr_t (AFr_t AFr_I AFr_put) AFr_I) AFr_I) AFr_I) (by decide) (by decide)
theorem AFr_writeSlot {a : AA} {s : Nat} : AFr [150, 43, 45, 46, 2, 31, 32, 71] [6] a (A_writeSlot a s) := AFr_w (AFr_t AFr_laySlot AFr_soil) (by decide) (by decide)
theorem AFr_stepDown {a : AA} {s : Nat} {t l : Int32} : AFr [53, 54, 150, 43, 45, 46, 2, 31, 32, 71, 29, 30, 80, 73, 74] [6, 9] a (A_stepDown a s t l) := by
  unfold A_stepDown
  exact AFr_w (AFr_t (AFr_t (AFr_t (AFr_if (AFr_t (AFr_t AFr_I AFr_I) AFr_writeSlot) AFr_r) (AFr_if (AFr_t (AFr_t AFr_drawAlarm AFr_rq) AFr_I) AFr_r)) AFr_I) AFr_I) (by decide) (by decide)
theorem AFr_askVoters {a : AA} {s : Nat} {k t : Int32} : ∀ n, AFr [2, 21, 22] [0, 1] a (aAskVoters a s k t n) := by
  intro n
  induction n with
  | zero => exact AFr_w AFr_r (by decide) (by decide)
  | succ n ih =>
    show AFr _ _ a (aAskOne _ s k t n)
    unfold aAskOne
    exact AFr_w (AFr_t ih (AFr_if AFr_post AFr_r)) (by decide) (by decide)
theorem AFr_campaign {a : AA} {s : Nat} : AFr [73, 74, 53, 54, 150, 43, 45, 46, 2, 31, 32, 71, 79, 29, 30, 21, 22] [6, 0, 1] a (A_campaign a s) := by
  unfold A_campaign
  exact AFr_w (AFr_t (AFr_t (AFr_t (AFr_t (AFr_t (AFr_t (AFr_t AFr_I AFr_I) AFr_I) AFr_I) AFr_writeSlot) AFr_I) AFr_drawAlarm) (AFr_askVoters 7)) (by decide) (by decide)
