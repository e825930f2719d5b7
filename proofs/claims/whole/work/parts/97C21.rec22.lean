/-! start -/
theorem RM_94 {σ : RS} {a : AA} {u : AU} {s : Nat} (h : RM σ a u) (hs : s < 7) (hq : aRq a s = []) : RM (setI σ 94 s 0) a ((u.1.1, fun t => if t = s then (aS a 151 s).toNatClampNeg else u.1.2 t), u.2) := by
  have hF : Fr [94] [] σ (setI σ 94 s 0) := Fr_I
  have hrq : ∀ t, t < 7 → RRq (aAk a) (setI σ 94 s 0) t (if t = s then (aS a 151 s).toNatClampNeg else u.1.2 t) (aS a 151 t) (aRq a t) := by
    intro t ht
    obtain ⟨b, e1, e1', e2, e3, e4, e5⟩ := h.2.2.2.2.2.2.2.2.2.2.2.2.1 t ht
    by_cases q : t = s
    · subst q
      rw [if_pos rfl, hq]
      rw [hq] at e5
      have ed : (aS a 151 t).toNatClampNeg = u.1.2 t + b := by rw [e1, i_cl e1']
      refine ⟨0, by rw [ed]; exact e1, by rw [ed]; exact e1', setI_e, List.Pairwise.nil, fun x hx => absurd hx List.not_mem_nil, fun w hw => ?_⟩
      rw [setI_f (by decide)]
      exact e5 w hw
    · rw [if_neg q]
      refine ⟨b, e1, e1', ?_, e3, fun x hx => ?_, fun w hw => ?_⟩
      · rw [setI_i q]
        exact e2
      · obtain ⟨y1, y2, y3, y4⟩ := e4 x hx
        refine ⟨y1, y2, y3, ?_⟩
        unfold RRq1 at y4 ⊢
        rw [hF.1 95 (by decide), hF.1 96 (by decide), hF.1 97 (by decide), hF.1 98 (by decide), hF.1 99 (by decide), hF.1 100 (by decide), hF.1 101 (by decide), hF.1 102 (by decide), hF.1 103 (by decide), hF.1 104 (by decide), hF.1 105 (by decide)]
        exact y4
      · rw [setI_f (by decide)]
        exact e5 w hw
  exact ⟨RSc_fr hF (by decide) h.1, RWay_fr hF (by decide) h.2.1, fun s hs => RWt_fr hF (by decide) (h.2.2.1 s hs), fun l hl => RLt_fr hF (by decide) (h.2.2.2.1 l hl), fun s hs => RLog_fr hF (by decide) (h.2.2.2.2.1 s hs), fun s hs => RDk_fr hF (by decide) (h.2.2.2.2.2.1 s hs), fun s hs => RSl_fr hF (by decide) (h.2.2.2.2.2.2.1 s hs), fun s hs hu => RCh_fr hF (by decide) (h.2.2.2.2.2.2.2.1 s hs hu), fun s hs hu => RAt_fr hF (by decide) (h.2.2.2.2.2.2.2.2.1 s hs hu), fun s hs => RMc_fr hF (by decide) (h.2.2.2.2.2.2.2.2.2.1 s hs), fun s hs => RSh_fr hF (by decide) (h.2.2.2.2.2.2.2.2.2.2.1 s hs), fun s hs => RPc_fr hF (by decide) (h.2.2.2.2.2.2.2.2.2.2.2.1 s hs), hrq, RAk_fr hF (by decide) h.2.2.2.2.2.2.2.2.2.2.2.2.2.1, fun s hs => RWn_fr hF (by decide) (h.2.2.2.2.2.2.2.2.2.2.2.2.2.2.1 s hs), RTp_fr hF (by decide) h.2.2.2.2.2.2.2.2.2.2.2.2.2.2.2.1, RRe_fr hF (by decide) h.2.2.2.2.2.2.2.2.2.2.2.2.2.2.2.2.1, fun s hs => RDn_fr hF (by decide) (h.2.2.2.2.2.2.2.2.2.2.2.2.2.2.2.2.2.1 s hs), RSum_fr hF (by decide) h.2.2.2.2.2.2.2.2.2.2.2.2.2.2.2.2.2.2.1, h.2.2.2.2.2.2.2.2.2.2.2.2.2.2.2.2.2.2.2.1, h.2.2.2.2.2.2.2.2.2.2.2.2.2.2.2.2.2.2.2.2.1, h.2.2.2.2.2.2.2.2.2.2.2.2.2.2.2.2.2.2.2.2.2.1, h.2.2.2.2.2.2.2.2.2.2.2.2.2.2.2.2.2.2.2.2.2.2.1, h.2.2.2.2.2.2.2.2.2.2.2.2.2.2.2.2.2.2.2.2.2.2.2⟩
def stA (a : AA) (i : Nat) : AA :=
  let a2 := aI (aI (aI (aI a 73 i 0) 74 i (-1)) 75 i (aS a 55 i)) 76 i (aS a 55 i)
  aI (aI (aI (aI (aI (aMcS a2 i (aSh a2 i)) 77 i (aS a2 56 i)) 78 i (-2000000000)) 79 i 0) 80 i (-1)) 69 i (-1)
theorem stA_f {a : AA} {i f : Nat} : aS (stA a i) f i = if f = 69 ∨ f = 74 ∨ f = 80 then -1 else if f = 79 ∨ f = 73 then 0 else if f = 78 then -2000000000 else if f = 77 then aS a 56 i else if f = 75 ∨ f = 76 then aS a 55 i else aS a f i := by
  by_cases q1 : f = 69
  · subst q1
    simp [stA, aS, aI, setI, aMcS]
  · by_cases q2 : f = 80
    · subst q2
      simp [stA, aS, aI, setI, aMcS]
    · by_cases q3 : f = 79
      · subst q3
        simp [stA, aS, aI, setI, aMcS]
      · by_cases q4 : f = 78
        · subst q4
          simp [stA, aS, aI, setI, aMcS]
        · by_cases q5 : f = 77
          · subst q5
            simp [stA, aS, aI, setI, aMcS]
          · by_cases q6 : f = 76
            · subst q6
              simp [stA, aS, aI, setI, aMcS]
            · by_cases q7 : f = 75
              · subst q7
                simp [stA, aS, aI, setI, aMcS]
              · by_cases q8 : f = 74
                · subst q8
                  simp [stA, aS, aI, setI, aMcS]
                · by_cases q9 : f = 73
                  · subst q9
                    simp [stA, aS, aI, setI, aMcS]
                  · simp [stA, aS, aI, setI, aMcS, q1, q2, q3, q4, q5, q6, q7, q8, q9]
/-- a server's flags are on again -/
theorem RM_on3 {σ : RS} {a : AA} {u : AU} {s : Nat} (h : RM σ a (u.1, fun x => ((u.2 x ∧ x ≠ s) ∧ x ≠ 14 + s) ∧ x ≠ 7 + s)) (hs : s < 7) (h1 : u.2 s → aS a 52 s = 1 → WCh a s) (h2 : u.2 (14 + s) → WMk a s) (h3 : u.2 (7 + s) → aS a 73 s = 3 → WLd a s) : RM σ a u :=
  RM_on (RM_on14 (u := (u.1, fun x => u.2 x ∧ x ≠ s)) (RM_on7 (u := (u.1, fun x => (u.2 x ∧ x ≠ s) ∧ x ≠ 14 + s)) h hs (fun z => h3 z.1.1)) hs (fun z => h2 z.1)) hs h1
