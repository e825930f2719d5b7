/-! a command is done -/
theorem in_nat2 {v : Int32} {hi : Nat} (hh : hi < 2147483648) (h : aInR v 0 (Int32.ofNat hi) = true) : ∃ n, v = Int32.ofNat n ∧ n ≤ hi := by
  obtain ⟨n, h1, _, h2⟩ := in_nat (lo := 0) hh h (by omega)
  exact ⟨n, h1, h2⟩
theorem sub_rng {p q hi : Nat} (hp : p < 1000000) (hq : q < 1000000) (hh : hi < 1000000) (lo : Nat) (hlo : lo < 1000000) (h : aInR (Int32.ofNat p - Int32.ofNat q) (Int32.ofNat lo) (Int32.ofNat hi) = true) : q + lo ≤ p ∧ p - q ≤ hi := by
  unfold aInR at h
  have h1 := of_decide_eq_true (Bool.and_eq_true_iff.mp h).1
  have h2 := of_decide_eq_true (Bool.and_eq_true_iff.mp h).2
  rw [Int32.le_iff_toInt_le, i_subI (by rw [Int32.toInt_ofNat_of_lt (by omega), Int32.toInt_ofNat_of_lt (by omega)]; omega) (by rw [Int32.toInt_ofNat_of_lt (by omega), Int32.toInt_ofNat_of_lt (by omega)]; omega), Int32.toInt_ofNat_of_lt (by omega), Int32.toInt_ofNat_of_lt (by omega), Int32.toInt_ofNat_of_lt (by omega)] at h1 h2
  omega
/-- an asking in numbers -/
theorem ask_nat {k : AK} (h : wfK k) : ∃ kd f v : Nat, k.1 1 = Int32.ofNat kd ∧ kd ≤ 5 ∧ k.1 7 = Int32.ofNat f ∧ 1 ≤ f ∧ f ≤ 32 ∧ k.1 8 = Int32.ofNat v ∧ v ≤ 100 ∧ f ≤ k.2.length ∧ k.2.length ≤ 232 ∧ (kd = 0 → k.2.length - f ≤ 100) ∧ (kd = 1 → f + v ≤ k.2.length ∧ k.2.length - f - v ≤ 100) ∧ (kd = 4 → f + 1 ≤ k.2.length ∧ k.2.length - f ≤ 32) ∧ (kd = 2 ∨ kd = 3 ∨ kd = 5 → k.2.length = f) := by
  obtain ⟨h1, h2, _⟩ := h
  unfold aAskable at h1
  rw [Bool.and_eq_true_iff, Bool.and_eq_true_iff, Bool.and_eq_true_iff] at h1
  obtain ⟨⟨⟨a1, a2⟩, a3⟩, a4⟩ := h1
  obtain ⟨kd, e1, g1⟩ := in_nat2 (hi := 5) (by omega) a1
  obtain ⟨f, e2, g2, g3⟩ := in_nat (lo := 1) (hi := 32) (by omega) a2 (by omega)
  rw [e1, e2] at a4
  rw [e1] at a3
  by_cases q0 : kd = 0
  · subst q0
    rw [if_pos (by decide)] at a4
    have r := sub_rng (p := k.2.length) (q := f) (hi := 100) (by omega) (by omega) (by omega) 0 (by omega) a4
    have v0 : k.1 8 = 0 := by
      rw [Bool.or_eq_true_iff] at a3
      rcases a3 with z | z
      · exact absurd (of_decide_eq_true z) (by decide)
      · exact of_decide_eq_true z
    exact ⟨0, f, 0, e1, by omega, e2, g2, g3, v0, by omega, by omega, by omega, fun _ => by omega, fun z => by omega, fun z => by omega, fun z => by omega⟩
  · have n0 : ¬ Int32.ofNat kd = 0 := by
      rw [show (0 : Int32) = Int32.ofNat 0 from rfl, i_eqi (by omega) (by omega)]
      exact q0
    rw [if_neg n0] at a4
    by_cases q1 : kd = 1
    · subst q1
      rw [if_pos (by decide)] at a4
      rw [Bool.and_eq_true_iff] at a4
      obtain ⟨v, e3, g4⟩ := in_nat2 (hi := 100) (by omega) a4.1
      have a5 := a4.2
      rw [e3] at a5
      have key : f + v ≤ k.2.length ∧ k.2.length - f - v ≤ 100 := by
        unfold aInR at a5
        have h1 := of_decide_eq_true (Bool.and_eq_true_iff.mp a5).1
        have h2' := of_decide_eq_true (Bool.and_eq_true_iff.mp a5).2
        have es : (Int32.ofNat k.2.length - Int32.ofNat f).toInt = k.2.length - f := by
          rw [i_subI (by rw [Int32.toInt_ofNat_of_lt (by omega), Int32.toInt_ofNat_of_lt (by omega)]; omega) (by rw [Int32.toInt_ofNat_of_lt (by omega), Int32.toInt_ofNat_of_lt (by omega)]; omega), Int32.toInt_ofNat_of_lt (by omega), Int32.toInt_ofNat_of_lt (by omega)]
        have es2 : (Int32.ofNat k.2.length - Int32.ofNat f - Int32.ofNat v).toInt = k.2.length - f - v := by
          rw [i_subI (by rw [es, Int32.toInt_ofNat_of_lt (by omega)]; omega) (by rw [es, Int32.toInt_ofNat_of_lt (by omega)]; omega), es, Int32.toInt_ofNat_of_lt (by omega)]
        rw [Int32.le_iff_toInt_le, es2, i_0] at h1
        rw [Int32.le_iff_toInt_le, es2, show (100 : Int32).toInt = 100 by decide] at h2'
        omega
      exact ⟨1, f, v, e1, by omega, e2, g2, g3, e3, g4, by omega, by omega, fun z => by omega, fun _ => key, fun z => by omega, fun z => by omega⟩
    · have n1 : ¬ Int32.ofNat kd = 1 := by
        rw [show (1 : Int32) = Int32.ofNat 1 from rfl, i_eqi (by omega) (by omega)]
        exact q1
      rw [if_neg n1] at a4
      have v0 : k.1 8 = 0 := by
        rw [Bool.or_eq_true_iff] at a3
        rcases a3 with z | z
        · exact absurd (of_decide_eq_true z) n1
        · exact of_decide_eq_true z
      by_cases q4 : kd = 4
      · subst q4
        rw [if_pos (by decide)] at a4
        have r := sub_rng (p := k.2.length) (q := f) (hi := 32) (by omega) (by omega) (by omega) 1 (by omega) a4
        exact ⟨4, f, 0, e1, by omega, e2, g2, g3, v0, by omega, by omega, by omega, fun z => by omega, fun z => by omega, fun _ => by omega, fun z => by omega⟩
      · have n4 : ¬ Int32.ofNat kd = 4 := by
          rw [show (4 : Int32) = Int32.ofNat 4 from rfl, i_eqi (by omega) (by omega)]
          exact q4
        rw [if_neg n4] at a4
        have r : k.2.length = f := by
          have := i_sub0.mp (of_decide_eq_true a4)
          exact (i_eqi (by omega) (by omega)).mp this
        exact ⟨kd, f, 0, e1, by omega, e2, g2, g3, v0, by omega, by omega, by omega, fun z => by omega, fun z => by omega, fun z => by omega, fun _ => r⟩
theorem low_nat {n : Nat} (h : n < 128) : aLow8 (Int32.ofNat n) = Int32.ofNat n ∧ aLow8 (Int32.ofNat n) &&& 255 = Int32.ofNat n := by
  revert n
  decide +kernel
theorem aKeep_ses {M M' : AM} {k v : List Int32} (h : aKeep M k v = some M') : M'.1 = M.1 := by
  have g : ∀ (c : Prop) [Decidable c] (x : AM), (if c then none else some x) = some M' → x = M' := by
    intro c _ x hx
    by_cases q : c
    · rw [if_pos q] at hx
      exact absurd hx (by simp)
    · rw [if_neg q] at hx
      exact Option.some.inj hx
  unfold aKeep at h
  dsimp only at h
  rw [← g _ _ h]
theorem aOp_ses {M : AM} {kd : Int32} {k v : Nat} {b : List Int32} : (aOp M kd k v b).1.1 = M.1 := by
  unfold aOp
  dsimp only
  split
  · split
    · rename_i M' e
      exact aKeep_ses e
    · rfl
  · split
    · split
      · rfl
      · split
        · split
          · rename_i M' e
            exact aKeep_ses e
          · rfl
        · rfl
    · split
      · rfl
      · rfl
theorem aFind_wf {M : AM} {k w : List Int32} (h : wfM M) (e : aFind M k = some w) : w.length ≤ 100 ∧ ∀ b ∈ w, aLow8 b = b := by
  rw [aFind_e] at e
  by_cases q : aRank M k < M.2.length
  · rw [if_pos q] at e
    obtain ⟨w1, w2, w3, w4⟩ := wf_get h q
    by_cases z : aCmp (M.2.getD (aRank M k) ([], [])).1 k = 0
    · rw [if_pos z] at e
      rw [← Option.some.inj e]
      exact ⟨w2, w4⟩
    · rw [if_neg z] at e
      exact absurd e (by simp)
  · rw [if_neg q] at e
    exact absurd e (by simp)
theorem aOp_ans {M : AM} {kd : Int32} {k v : Nat} {b : List Int32} (h : wfM M) : (aOp M kd k v b).2.length ≤ 101 ∧ ∀ x ∈ (aOp M kd k v b).2, aLow8 x = x := by
  have c1 : ∀ d : Int32, aLow8 d = d → ([d] : List Int32).length ≤ 101 ∧ ∀ x ∈ [d], aLow8 x = x := fun d hd => ⟨by simp, fun x hx => by rw [List.mem_singleton.mp hx]; exact hd⟩
  have c2 : ∀ (d : Int32) (w : List Int32), aLow8 d = d → (w.length ≤ 100 ∧ ∀ b ∈ w, aLow8 b = b) → (d :: w).length ≤ 101 ∧ ∀ x ∈ d :: w, aLow8 x = x := fun d w hd hw => ⟨by simp; omega, fun x hx => by
    rcases List.mem_cons.mp hx with z | z
    · rw [z]; exact hd
    · exact hw.2 x z⟩
  unfold aOp
  dsimp only
  split
  · split
    · dsimp only
      split
      · rename_i e
        exact c2 1 _ (by decide) (aFind_wf h e)
      · exact c1 0 (by decide)
    · exact c1 2 (by decide)
  · split
    · split
      · exact c1 3 (by decide)
      · rename_i e
        split
        · split
          · exact c1 1 (by decide)
          · exact c1 2 (by decide)
        · exact c2 0 _ (by decide) (aFind_wf h e)
    · split
      · exact c1 0 (by decide)
      · rename_i e
        exact c2 1 _ (by decide) (aFind_wf h e)
theorem pf137 {F : Nat} {σ : RS} {q : Nat} {l : List Int32} (hq : q < 112) (hl : l.length ≤ 112) (hb : ∀ b ∈ l, aLow8 b = b) (h112 : ∀ j, j < l.length → σ.1 112 (112 * q + j) = l.getD j 0) : ∀ n j (τ : RS), l.length + 1 ≤ j + n → j ≤ l.length → SLa σ τ → τ.1 122 0 = Int32.ofNat l.length → (∀ i, i < j → τ.1 121 i = l.getD i 0) → WP (m_perform_b137 F n τ (Int32.ofNat q) (Int32.ofNat j)) (fun τ' => SLa σ τ' ∧ An τ' l) := by
  intro n
  induction n with
  | zero => intro j τ h1 h2; omega
  | succ n ih =>
    intro j τ h1 h2 g1 g2 g3
    unfold m_perform_b137
    rw [g2]
    refine WP_if (i_gei (by omega) (by omega)) (fun y => ?_) (fun y => ?_)
    · have : j = l.length := by omega
      subst this
      exact WP_some ⟨g1, g2, by omega, g3⟩
    · refine WP_ld (n := 112 * q + j) i_ma 12544 (by decide +kernel) (by omega) ?_
      rw [g1.1 112 (by decide) (by decide), h112 j (by omega)]
      refine WP_st rfl 160 (by decide +kernel) (by omega) ?_
      have hx : (l.getD j 0).toInt8.toInt32 = l.getD j 0 := by
        rw [List.getD_eq_getElem?_getD, List.getElem?_eq_getElem (by omega)]
        exact hb _ (List.getElem_mem _)
      rw [hx, i_s]
      refine ih (j + 1) _ (by omega) (by omega) (SLa_I g1 (Or.inl rfl)) ((setI_f (by decide)).trans g2) (fun i hi => ?_)
      by_cases z : i = j
      · rw [z, setI_e]
      · rw [setI_i z]
        exact g3 i (by omega)
theorem pf258 {F : Nat} {σ : RS} {s q : Nat} {l : List Int32} (hs : s < 7) (hq : q / 16 = s) (hl : l.length ≤ 112) (hb : ∀ b ∈ l, aLow8 b = b) (hA : An σ l) : ∀ n j (τ : RS), l.length + 1 ≤ j + n → j ≤ l.length → (∀ f i, f ≠ 112 → τ.1 f i = σ.1 f i) → τ.2 = σ.2 → (∀ i, i / 112 ≠ q → τ.1 112 i = σ.1 112 i) → (∀ i, i < j → τ.1 112 (112 * q + i) = l.getD i 0) → WP (m_perform_b258 F n τ (Int32.ofNat q) (Int32.ofNat j)) (fun τ' => (∀ f i, f ≠ 112 → τ'.1 f i = σ.1 f i) ∧ τ'.2 = σ.2 ∧ (∀ i, i / 112 ≠ q → τ'.1 112 i = σ.1 112 i) ∧ ∀ i, i < l.length → τ'.1 112 (112 * q + i) = l.getD i 0) := by
  obtain ⟨a1, a2, a3⟩ := hA
  intro n
  induction n with
  | zero => intro j τ h1 h2; omega
  | succ n ih =>
    intro j τ h1 h2 g1 g2 g3 g4
    unfold m_perform_b258
    rw [g1 122 0 (by decide), a1]
    refine WP_if (i_gei (by omega) (by omega)) (fun y => ?_) (fun y => ?_)
    · have : j = l.length := by omega
      subst this
      exact WP_some ⟨g1, g2, g3, g4⟩
    · refine WP_ld rfl 160 (by decide +kernel) (by omega) ?_
      rw [g1 121 j (by decide), a3 j (by omega)]
      refine WP_st (n := 112 * q + j) i_ma 12544 (by decide +kernel) (by omega) ?_
      have hx : (l.getD j 0).toInt8.toInt32 = l.getD j 0 := by
        rw [List.getD_eq_getElem?_getD, List.getElem?_eq_getElem (by omega)]
        exact hb _ (List.getElem_mem _)
      rw [hx, i_s]
      refine ih (j + 1) _ (by omega) (by omega) (fun f i hf => (setI_f hf).trans (g1 f i hf)) g2 (fun i hi => ?_) (fun i hi => ?_)
      · rw [setI_i (by omega)]
        exact g3 i hi
      · by_cases z : i = j
        · rw [z, setI_e]
        · rw [setI_i (by omega)]
          exact g4 i (by omega)
/-- what comes of a command: the machine, what is known of the answer -/
def pfQ (σ : RS) (s : Nat) (r : AM × Int32 × Int32 × List Int32) (τ : RS) : Prop := SLp s σ τ ∧ RMc τ s r.1 ∧ τ.1 120 0 = r.2.1 ∧ (r.2.1 = 0 → τ.1 123 0 = r.2.2.1 ∧ An τ r.2.2.2)
theorem An_p {σ τ : RS} {l : List Int32} (h : An σ l) (e1 : τ.1 121 = σ.1 121) (e2 : τ.1 122 0 = σ.1 122 0) : An τ l := by
  obtain ⟨h1, h2, h3⟩ := h
  exact ⟨e2.trans h1, h2, fun i hi => by rw [e1]; exact h3 i hi⟩
theorem m_perform_n {F : Nat} {σ : RS} {s : Nat} {n : Int32} {K : List AK} {M : AM} {e : AE} (hF : 400 ≤ F) (hs : s < 7) (h : RMc σ s M) (hK : ∀ k ∈ K, wfK k) (he : wfE K e) (hk2 : e.2.1 = 2) (he2 : (eCon K e).length ≤ 256) (h61 : σ.1 61 (rLp s n) = e.2.2.1) (hb : bM (fun q => rB (σ.2 63) (256 * rLp s n + q)) (eCon K e) 256) : WP (m_perform F σ (Int32.ofNat s) n) (pfQ σ s (aPerf K M n e)) := by
  have hp := rLp_lt (n := n) hs
  obtain ⟨w1, w2, w3⟩ := he
  have w3 := w3 hk2
  unfold m_perform m_perform_b0
  refine WP_eq m_logOf_n ?_
  rw [show 512 * s + rMod n = rLp s n from rfl]
  generalize rLp s n = p at hp h61 hb
  show WP ((rld (setI (setI σ 120 0 0) 123 0 n) 61 (Int32.ofNat p)).bind _) _
  have hS0 : SLp s σ (setI (setI σ 120 0 0) 123 0 n) := SLp_I (SLp_I SLp_refl (Or.inr (by omega))) (Or.inr (by omega))
  have hm0 : RMc (setI (setI σ 120 0 0) 123 0 n) s M := RMc_fr (Fr_t Fr_I Fr_I) (by decide) h
  have v120 : (setI (setI σ 120 0 0) 123 0 n).1 120 0 = 0 := rfl
  have v123 : (setI (setI σ 120 0 0) 123 0 n).1 123 0 = n := rfl
  have v61 : (setI (setI σ 120 0 0) 123 0 n).1 61 p = e.2.2.1 := h61
  have v63 : (setI (setI σ 120 0 0) 123 0 n).2 = σ.2 := rfl
  generalize setI (setI σ 120 0 0) 123 0 n = σ0 at hS0 hm0 v120 v123 v61 v63
  refine WP_ld rfl 3584 (by decide +kernel) hp ?_
  rw [v61, w1]
  by_cases qo : e.2.2.2.2.2 = -1
  · -- a session is opened
    have el : (eCon K e).length = 2 := by
      unfold eCon
      rw [if_neg (by rw [hk2]; decide), if_pos hk2, if_pos qo]
      rfl
    have eP : aPerf K M n e = (aOpen M n, 0, n, []) := by
      unfold aPerf
      rw [if_pos qo]
    rw [el, eP]
    refine WP_if c2_ne (fun y => absurd rfl y) (fun _ => ?_)
    refine WP_call (m_open_n hF hs hm0) (fun τ hτ => ?_)
    obtain ⟨t1, t2, t3, t4, t5⟩ := hτ
    exact WP_some ⟨SLp_t hS0 t1, t5, t2.trans v120, fun _ => ⟨t3, t4⟩⟩
  · -- an operation in a session
    obtain ⟨j0, j1, j2⟩ := w3.resolve_left qo
    have hkm : K.getD e.2.2.2.2.2.toNatClampNeg (fun _ => 0, []) ∈ K := by
      rw [List.getD_eq_getElem?_getD, List.getElem?_eq_getElem j1]
      exact List.getElem_mem j1
    have hkw := ask_nat (hK _ hkm)
    have eC : eCon K e = (a4 e.2.2.2.1 ++ a4 e.2.2.2.2.1).map some ++ [some (aLow8 ((K.getD e.2.2.2.2.2.toNatClampNeg (fun _ => 0, [])).1 1)), some (aLow8 ((K.getD e.2.2.2.2.2.toNatClampNeg (fun _ => 0, [])).1 7)), some (aLow8 ((K.getD e.2.2.2.2.2.toNatClampNeg (fun _ => 0, [])).1 8)), none] ++ (K.getD e.2.2.2.2.2.toNatClampNeg (fun _ => 0, [])).2.map some := by
      unfold eCon
      rw [if_neg (by rw [hk2]; decide), if_pos hk2, if_neg qo]
    have eP : aPerf K M n e = (match aSesOf M e.2.2.2.1 with
      | none => (M, 1, n, [])
      | some i =>
        let x := M.1.getD i (0, 0, 0, 0, [])
        let M1 : AM := (M.1.set i (x.1, n, x.2.2), M.2)
        if e.2.2.2.2.1 < x.2.2.1 then (M1, 2, n, [])
        else if e.2.2.2.2.1 = x.2.2.1 then (M1, 0, x.2.2.2.1, x.2.2.2.2)
        else
          let k := K.getD e.2.2.2.2.2.toNatClampNeg (fun _ => 0, [])
          let r := aOp M1 (k.1 1) (k.1 7).toNatClampNeg (k.1 8).toNatClampNeg k.2
          ((r.1.1.set i (x.1, n, e.2.2.2.2.1, n, r.2), r.1.2), 0, n, r.2)) := by
      unfold aPerf
      rw [if_neg qo]
      rfl
    rw [eP]
    clear eP
    generalize K.getD e.2.2.2.2.2.toNatClampNeg (fun _ => 0, []) = k at hkw eC j2
    obtain ⟨kd, f, v, k1, k2, k3, k4, k5, k6, k7, k8, k9, k10, k11, k12, k13⟩ := hkw
    have el : (eCon K e).length = 12 + k.2.length := by
      rw [eC]
      simp [a4] <;> omega
    rw [el]
    have bytes : ∀ q x, (eCon K e)[q]? = some (some x) → rB (σ.2 63) (256 * p + q) = x := by
      intro q x hx
      obtain ⟨hl, _⟩ := List.getElem?_eq_some_iff.mp hx
      exact hb q x (by omega) hx
    rw [eC] at bytes
    have b0 : ∀ q x, (a4 e.2.2.2.1)[q]? = some x → rB (σ.2 63) (256 * p + q) = x := by
      intro q x hx
      obtain ⟨hl, _⟩ := List.getElem?_eq_some_iff.mp hx
      have hl : q < 4 := hl
      refine bytes q x ?_
      rw [List.getElem?_append_left (by simp [a4] <;> omega), List.getElem?_append_left (by simp [a4] <;> omega), List.getElem?_map, List.getElem?_append_left hl, hx]
      rfl
    have b4 : ∀ q x, (a4 e.2.2.2.2.1)[q]? = some x → rB (σ.2 63) (256 * p + 4 + q) = x := by
      intro q x hx
      obtain ⟨hl, _⟩ := List.getElem?_eq_some_iff.mp hx
      have hl : q < 4 := hl
      rw [Nat.add_assoc]
      refine bytes (4 + q) x ?_
      rw [List.getElem?_append_left (by simp [a4] <;> omega), List.getElem?_append_left (by simp [a4] <;> omega), List.getElem?_map, List.getElem?_append_right (by show 4 ≤ _; omega), show 4 + q - (a4 e.2.2.2.1).length = q by show 4 + q - 4 = q; omega, hx]
      rfl
    have b8 : rB (σ.2 63) (256 * p + 8) = aLow8 (k.1 1) := bytes 8 _ rfl
    have b9 : rB (σ.2 63) (256 * p + 9) = aLow8 (k.1 7) := bytes 9 _ rfl
    have b10 : rB (σ.2 63) (256 * p + 10) = aLow8 (k.1 8) := bytes 10 _ rfl
    have b12 : ∀ j, j < k.2.length → rB (σ.2 63) (256 * p + 12 + j) = k.2.getD j 0 := by
      intro j hj
      rw [Nat.add_assoc]
      refine bytes (12 + j) _ ?_
      rw [List.getElem?_append_right (by simp [a4] <;> omega)]
      have : 12 + j - ((a4 e.2.2.2.1 ++ a4 e.2.2.2.2.1).map some ++ [some (aLow8 (k.1 1)), some (aLow8 (k.1 7)), some (aLow8 (k.1 8)), none]).length = j := by
        simp [a4] <;> omega
      rw [this, List.getElem?_map, List.getElem?_eq_getElem hj, List.getD_eq_getElem?_getD, List.getElem?_eq_getElem hj]
      rfl
    clear bytes
    refine WP_if (p := True) (by
      rw [c2_ne, show (2 : Int32) = Int32.ofNat 2 from rfl, i_eqi (by omega) (by omega)]
      exact ⟨fun _ => trivial, fun _ => by omega⟩) (fun _ => ?_) (fun y => absurd trivial y)
    rw [show (256 : Int32) * Int32.ofNat p = Int32.ofNat (256 * p) from i_mc]
    refine WP_eq (M_integer rfl (by omega) (by rw [v63]; exact b0)) ?_
    refine WP_eq (m_sessionOf_n hF hs hm0) ?_
    cases es : aSesOf M e.2.2.2.1 with
    | none =>
      refine WP_if c0_ge (fun y => absurd (show (0 : Int32) ≤ -1 from y) (by decide)) (fun _ => ?_)
      refine WP_some ⟨SLp_I hS0 (Or.inr (by omega)), RMc_fr Fr_I (by decide) hm0, setI_e, fun z => absurd (show (1 : Int32) = 0 from z) (by decide)⟩
    | some i =>
      have hi : i < M.1.length := by
        unfold aSesOf at es
        exact (List.findIdx?_eq_some_iff_getElem.mp es).1
      have hl16 := ses_len hm0
      obtain ⟨y1, y2, y3, y4, y5, y6⟩ := hm0.2.2.2.1 i hi
      obtain ⟨u1, u2⟩ := ses_get hm0.1 hi
      have u1 : (M.1.getD i (0, 0, 0, 0, [])).2.2.2.2.length ≤ 112 := u1
      have u2 : ∀ b ∈ (M.1.getD i (0, 0, 0, 0, [])).2.2.2.2, aLow8 b = b := u2
      dsimp only
      generalize M.1.getD i (0, 0, 0, 0, []) = x at y1 y2 y3 y4 y5 y6 u1 u2
      have hge : (0 : Int32) ≤ Int32.ofNat (16 * s + i) := by
        rw [Int32.le_iff_toInt_le, i_0, Int32.toInt_ofNat_of_lt (by omega)]
        omega
      refine WP_if c0_ge (fun _ => ?_) (fun y => absurd hge y)
      refine WP_st rfl 112 (by decide +kernel) (by omega) ?_
      have hm1 : RMc (setI σ0 108 (16 * s + i) n) s (M.1.set i (x.1, n, x.2.2), M.2) := by
        refine RMc_ses hm0 hi (x := (x.1, n, x.2.2)) ⟨u1, u2⟩ (fun f j q1 q2 _ _ => if_neg (fun z => q1 (by omega))) ?_ setI_e ?_ ?_ ?_ (fun j hj => ?_)
        · rw [setI_f (by decide)]; exact y1
        · rw [setI_f (by decide)]; exact y3
        · rw [setI_f (by decide)]; exact y4
        · rw [setI_f (by decide)]; exact y5
        · rw [setI_f (by decide)]; exact y6 j hj
      have hS1 : SLp s σ (setI σ0 108 (16 * s + i) n) := SLp_I hS0 (Or.inl (by unfold mOf; omega))
      have z63 : (setI σ0 108 (16 * s + i) n).2 = σ.2 := v63
      have z120 : (setI σ0 108 (16 * s + i) n).1 120 0 = 0 := v120
      have z123 : (setI σ0 108 (16 * s + i) n).1 123 0 = n := v123
      have z61 : (setI σ0 108 (16 * s + i) n).1 61 p = e.2.2.1 := v61
      have z109 : (setI σ0 108 (16 * s + i) n).1 109 (16 * s + i) = x.2.2.1 := y3
      have z110 : (setI σ0 108 (16 * s + i) n).1 110 (16 * s + i) = x.2.2.2.1 := y4
      have z111 : (setI σ0 108 (16 * s + i) n).1 111 (16 * s + i) = Int32.ofNat x.2.2.2.2.length := y5
      have z112 : ∀ j, j < x.2.2.2.2.length → (setI σ0 108 (16 * s + i) n).1 112 (112 * (16 * s + i) + j) = x.2.2.2.2.getD j 0 := y6
      generalize setI σ0 108 (16 * s + i) n = σ1 at hm1 hS1 z63 z120 z123 z61 z109 z110 z111 z112
      refine WP_eq (M_integer (k := 256 * p + 4) i_ad (by omega) (by rw [z63]; exact b4)) ?_
      refine WP_ld rfl 112 (by decide +kernel) (by omega) ?_
      rw [z109]
      refine WP_if c2_ge (fun g1 => ?_) (fun g1 => ?_)
      · rw [if_neg (i_nlt.mpr g1)]
        refine WP_ld rfl 112 (by decide +kernel) (by omega) ?_
        rw [z109]
        refine WP_if c2_ne (fun g2 => ?_) (fun g2 => ?_)
        · -- it is new
          rw [if_neg g2]
          rw [show Int32.ofNat (256 * p) + 8 = Int32.ofNat (256 * p + 8) from i_ad, show Int32.ofNat (256 * p) + 9 = Int32.ofNat (256 * p + 9) from i_ad, show Int32.ofNat (256 * p) + 10 = Int32.ofNat (256 * p + 10) from i_ad, show Int32.ofNat (256 * p) + 12 = Int32.ofNat (256 * p + 12) from i_ad]
          refine WP_eq (m_inLog_n (by omega)) ?_
          refine WP_eq (m_inLog_n (by omega)) ?_
          refine WP_eq (m_inLog_n (by omega)) ?_
          refine WP_ld rfl 3584 (by decide +kernel) hp ?_
          rw [z61, w1, el, z63, b8, b9, b10, k1, k3, k6, (low_nat (show kd < 128 by omega)).1, (low_nat (show f < 128 by omega)).2, (low_nat (show v < 128 by omega)).2, i_cl (by omega), i_cl (by omega), show Int32.ofNat (12 + k.2.length) - 12 = Int32.ofNat k.2.length by
            rw [show (12 : Int32) = Int32.ofNat 12 from rfl, i_subn (by omega), Nat.add_sub_cancel_left]]
          have hkd3 : kd < 3 := by
            rw [k1, Int32.lt_iff_toInt_lt, Int32.toInt_ofNat_of_lt (by omega), show (3 : Int32).toInt = 3 by decide] at j2
            omega
          have hkd : Int32.ofNat kd = 0 ∨ Int32.ofNat kd = 1 ∨ Int32.ofNat kd = 2 := by
            have : kd = 0 ∨ kd = 1 ∨ kd = 2 := by omega
            rcases this with rfl | rfl | rfl <;> simp
          refine WP_call (m_operate_n (at0 := 256 * p + 12) (k := f) (v := v) (b := k.2) hF hs hm1 hkd k5 (by omega) (by rw [z63]; exact b12) k8 (fun z => k10 ((i_eqi (q := 0) (by omega) (by omega)).mp z)) (fun z => by
            have := k11 ((i_eqi (q := 1) (by omega) (by omega)).mp z)
            omega)) (fun τ2 hτ2 => ?_)
          obtain ⟨o1, o2, o3⟩ := hτ2
          have oses := @aOp_ses (M.1.set i (x.1, n, x.2.2), M.2) (Int32.ofNat kd) f v k.2
          have oans := @aOp_ans (M.1.set i (x.1, n, x.2.2), M.2) (Int32.ofNat kd) f v k.2 hm1.1
          generalize aOp (M.1.set i (x.1, n, x.2.2), M.2) (Int32.ofNat kd) f v k.2 = r at o2 o3 oses oans
          have oses : r.1.1 = M.1.set i (x.1, n, x.2.2) := oses
          have hri : i < r.1.1.length := by rw [oses, List.length_set]; exact hi
          refine WP_st rfl 112 (by decide +kernel) (by omega) ?_
          refine WP_st rfl 112 (by decide +kernel) (by omega) ?_
          have e122 : (setI (setI τ2 109 (16 * s + i) e.2.2.2.2.1) 110 (16 * s + i) n).1 122 0 = Int32.ofNat r.2.length := o3.1
          rw [e122]
          refine WP_st rfl 112 (by decide +kernel) (by omega) ?_
          have hA3 : An (setI (setI (setI τ2 109 (16 * s + i) e.2.2.2.2.1) 110 (16 * s + i) n) 111 (16 * s + i) (Int32.ofNat r.2.length)) r.2 := o3
          have hS3 : SLp s σ (setI (setI (setI τ2 109 (16 * s + i) e.2.2.2.2.1) 110 (16 * s + i) n) 111 (16 * s + i) (Int32.ofNat r.2.length)) := by
            refine SLp_I (SLp_I (SLp_I (SLp_t hS1 (SLp_x o1)) ?_) ?_) ?_ <;> exact Or.inl (by unfold mOf; omega)
          have t107 : (setI (setI (setI τ2 109 (16 * s + i) e.2.2.2.2.1) 110 (16 * s + i) n) 111 (16 * s + i) (Int32.ofNat r.2.length)).1 107 (16 * s + i) = x.1 := by
            have := (o2.2.2.2.1 i hri).1
            rw [oses] at this
            have e' : (M.1.set i (x.1, n, x.2.2)).getD i (0, 0, 0, 0, []) = (x.1, n, x.2.2) := by rw [getD_set hi, if_pos rfl]
            rw [e'] at this
            exact this
          have t108 : (setI (setI (setI τ2 109 (16 * s + i) e.2.2.2.2.1) 110 (16 * s + i) n) 111 (16 * s + i) (Int32.ofNat r.2.length)).1 108 (16 * s + i) = n := by
            have := (o2.2.2.2.1 i hri).2.1
            rw [oses] at this
            have e' : (M.1.set i (x.1, n, x.2.2)).getD i (0, 0, 0, 0, []) = (x.1, n, x.2.2) := by rw [getD_set hi, if_pos rfl]
            rw [e'] at this
            exact this
          have t109 : (setI (setI (setI τ2 109 (16 * s + i) e.2.2.2.2.1) 110 (16 * s + i) n) 111 (16 * s + i) (Int32.ofNat r.2.length)).1 109 (16 * s + i) = e.2.2.2.2.1 := by simp [setI]
          have t110 : (setI (setI (setI τ2 109 (16 * s + i) e.2.2.2.2.1) 110 (16 * s + i) n) 111 (16 * s + i) (Int32.ofNat r.2.length)).1 110 (16 * s + i) = n := by simp [setI]
          have t111 : (setI (setI (setI τ2 109 (16 * s + i) e.2.2.2.2.1) 110 (16 * s + i) n) 111 (16 * s + i) (Int32.ofNat r.2.length)).1 111 (16 * s + i) = Int32.ofNat r.2.length := setI_e
          have to : ∀ f j, ¬ (107 ≤ f ∧ f ≤ 111 ∧ j = 16 * s + i) → (setI (setI (setI τ2 109 (16 * s + i) e.2.2.2.2.1) 110 (16 * s + i) n) 111 (16 * s + i) (Int32.ofNat r.2.length)).1 f j = τ2.1 f j := by
            intro f j hf
            have g : ∀ (ρ : RS) (g' : Nat) (v : Int32), 107 ≤ g' → g' ≤ 111 → (setI ρ g' (16 * s + i) v).1 f j = ρ.1 f j := by
              intro ρ g' v g1 g2
              refine if_neg (fun z => hf ?_)
              omega
            rw [g _ 111 _ (by omega) (by omega), g _ 110 _ (by omega) (by omega), g _ 109 _ (by omega) (by omega)]
          have t120 : (setI (setI (setI τ2 109 (16 * s + i) e.2.2.2.2.1) 110 (16 * s + i) n) 111 (16 * s + i) (Int32.ofNat r.2.length)).1 120 0 = 0 := by
            rw [to 120 0 (by omega), o1.1 120 0 (by unfold mOf; omega) (by decide) (by decide)]
            exact z120
          have t123 : (setI (setI (setI τ2 109 (16 * s + i) e.2.2.2.2.1) 110 (16 * s + i) n) 111 (16 * s + i) (Int32.ofNat r.2.length)).1 123 0 = n := by
            rw [to 123 0 (by omega), o1.1 123 0 (by unfold mOf; omega) (by decide) (by decide)]
            exact z123
          generalize setI (setI (setI τ2 109 (16 * s + i) e.2.2.2.2.1) 110 (16 * s + i) n) 111 (16 * s + i) (Int32.ofNat r.2.length) = τ3 at hA3 hS3 t107 t108 t109 t110 t111 to t120 t123
          refine WP_mono (pf258 (F := F) (σ := τ3) (s := s) (q := 16 * s + i) (l := r.2) hs (by omega) (by omega) oans.2 hA3 F 0 τ3 (by omega) (Nat.zero_le _) (fun _ _ _ => rfl) rfl (fun _ _ => rfl) (fun j hj => absurd hj (Nat.not_lt_zero _))) ?_
          rintro τ4 ⟨c1, c2, c3, c4⟩
          have hfin : RMc τ4 s (r.1.1.set i (x.1, n, e.2.2.2.2.1, n, r.2), r.1.2) := by
            refine RMc_ses o2 hri (x := (x.1, n, e.2.2.2.2.1, n, r.2)) ⟨by show r.2.length ≤ 112; omega, oans.2⟩ (fun f j q1 q2 f1 f2 => ?_) ?_ ?_ ?_ ?_ ?_ c4
            · by_cases z : f = 112
              · subst z
                rw [c3 j (fun z => q2 ⟨rfl, z⟩)]
                exact to 112 j q1
              · rw [c1 f j z]
                exact to f j q1
            · rw [c1 107 _ (by decide)]; exact t107
            · rw [c1 108 _ (by decide)]; exact t108
            · rw [c1 109 _ (by decide)]; exact t109
            · rw [c1 110 _ (by decide)]; exact t110
            · rw [c1 111 _ (by decide)]; exact t111
          refine ⟨SLp_t hS3 ⟨fun f j q1 q2 => ?_, c2⟩, hfin, (c1 120 0 (by decide)).trans t120, fun _ => ⟨(c1 123 0 (by decide)).trans t123, An_p hA3 (by funext j; exact c1 121 j (by decide)) (c1 122 0 (by decide))⟩⟩
          by_cases z : f = 112
          · subst z
            exact c3 j (fun z => q1 (by unfold mOf; omega))
          · exact c1 f j z
        · -- it was done before
          rw [if_pos (Classical.not_not.mp g2)]
          refine WP_ld rfl 112 (by decide +kernel) (by omega) ?_
          rw [z110]
          show WP ((rld (setI σ1 123 0 x.2.2.2.1) 111 (Int32.ofNat (16 * s + i))).bind _) _
          refine WP_ld rfl 112 (by decide +kernel) (by omega) ?_
          rw [show (setI σ1 123 0 x.2.2.2.1).1 111 (16 * s + i) = Int32.ofNat x.2.2.2.2.length from z111]
          show WP (m_perform_b137 F F (setI (setI σ1 123 0 x.2.2.2.1) 122 0 (Int32.ofNat x.2.2.2.2.length)) (Int32.ofNat (16 * s + i)) (Int32.ofNat 0)) _
          refine WP_mono (pf137 (F := F) (σ := setI (setI σ1 123 0 x.2.2.2.1) 122 0 (Int32.ofNat x.2.2.2.2.length)) (q := 16 * s + i) (l := x.2.2.2.2) (by omega) u1 u2 z112 F 0 _ (by omega) (Nat.zero_le _) SLa_refl setI_e (fun j hj => absurd hj (Nat.not_lt_zero _))) ?_
          rintro τ ⟨c1, c2⟩
          have hS2 : SLp s σ (setI (setI σ1 123 0 x.2.2.2.1) 122 0 (Int32.ofNat x.2.2.2.2.length)) := SLp_I (SLp_I hS1 (Or.inr (by omega))) (Or.inr (by omega))
          refine ⟨SLp_t hS2 (SLp_x (SLx_a c1)), RMc_a c1 (RMc_fr (Fr_t Fr_I Fr_I) (by decide) hm1), ?_, fun _ => ⟨?_, c2⟩⟩
          · rw [c1.1 120 (by decide) (by decide)]
            exact z120
          · rw [c1.1 123 (by decide) (by decide)]
            rfl
      · rw [if_pos (i_nle.mp g1)]
        refine WP_some ⟨SLp_I hS1 (Or.inr (by omega)), RMc_fr Fr_I (by decide) hm1, setI_e, fun z => absurd (show (2 : Int32) = 0 from z) (by decide)⟩
