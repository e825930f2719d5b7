/-! to all, back, over; replies -/
theorem K_sendTo {F : Nat} {c : CS} {a : AA} {s p : Nat} {bt : Bool} {H : List (Nat × Option AL)} {U : Nat → Int32} {N : Nat × Nat} (hF : 130 ≤ F) (h : RC c a ((H, U), N)) (hs : s < 7) (hp : p < 7) (hu : aS a 52 s = 1) (hr : aS a 73 s = 3) (w : WLg a s) (wl : WLd a s) (hH : H.length ≤ 5) : WP (k_Server_sendTo F c s (Int32.ofNat p) (aB bt)) (fun c' => RC c' (A_send a s p bt) ((H, U), N)) := K_send1 hF h hs hp hu hr w (wl p hp) hH
theorem stream_ne {s p f i : Nat} (hf : f = 86 ∨ f = 88) (hi : i ≠ 7 * s + p) : ∀ m a, aS (aStream s p m a).1 f i = aS a f i := by
  intro m
  induction m with
  | zero => exact fun a => rfl
  | succ m ih =>
    intro a
    unfold aStream
    dsimp only
    by_cases q : aS a 86 (7 * s + p) ≤ aLast a s ∧ aS a 88 (7 * s + p) < (if aS a 89 (7 * s + p) = 0 then 4 else 1)
    · rw [if_pos q]
      dsimp only
      rw [ih, AFr_post.1 f (by rcases hf with rfl | rfl <;> decide)]
      exact (if_neg (fun z => hi z.2)).trans (if_neg (fun z => hi z.2))
    · rw [if_neg q]
theorem send_ne {a : AA} {s p f i : Nat} {bt : Bool} (hf : f = 86 ∨ f = 88) (hi : i ≠ 7 * s + p) : aS (A_send a s p bt) f i = aS a f i := by
  have e : f ∉ [2, 21, 22] := by rcases hf with rfl | rfl <;> decide
  unfold A_send
  dsimp only
  split
  · split
    · rfl
    · rw [AFr_post.1 f e]
      exact if_neg (fun z => hi z.2)
  · split
    · rw [AFr_post.1 f e]
      exact stream_ne hf hi 4 a
    · exact stream_ne hf hi 4 a
theorem sendAll_ne {a : AA} {s f i : Nat} {bt : Bool} (hf : f = 86 ∨ f = 88) : ∀ n, 7 * s + n ≤ i → aS (aSendAll s bt a n) f i = aS a f i := by
  intro n
  induction n with
  | zero => exact fun _ => rfl
  | succ n ih =>
    intro hi
    unfold aSendAll
    dsimp only
    split
    · rw [send_ne hf (by omega)]
      exact ih (by omega)
    · exact ih (by omega)
theorem K_sendToAll {F : Nat} {c : CS} {a : AA} {s : Nat} {bt : Bool} {H : List (Nat × Option AL)} {U : Nat → Int32} {N : Nat × Nat} (hF : 130 ≤ F) (h : RC c a ((H, U), N)) (hs : s < 7) (hu : aS a 52 s = 1) (hr : aS a 73 s = 3) (w : WLg a s) (wl : WLd a s) (hH : H.length ≤ 5) : WP (k_Server_sendToAll F c s (aB bt)) (fun c' => RC c' (A_sendAll a s bt) ((H, U), N)) := by
  obtain ⟨x, x1, x2⟩ := K_peers h hs
  unfold k_Server_sendToAll k_Server_sendToAll_b0
  rw [x1]
  refine WP_b ?_
  have key : ∀ n p c, 8 ≤ p + n → p ≤ 7 → RC c (aSendAll s bt a p) ((H, U), N) → WP (k_Server_sendToAll_b7 F n c s (aB bt) x (Int32.ofNat p)) (fun c' => RC c' (A_sendAll a s bt) ((H, U), N)) := by
    intro n
    induction n with
    | zero => intro p c h1 h2; omega
    | succ n ih =>
      intro p c h1 h2 h3
      unfold k_Server_sendToAll_b7
      dsimp only
      unfold k_Server_sendToAll_b27
      by_cases q : p = 7
      · subst q
        rw [if_pos (by decide)]
        exact WP_some h3
      · have hp : p < 7 := by omega
        rw [if_neg (fun y => by
          rw [show (7 : Int32) = Int32.ofNat 7 from rfl] at y
          have := (i_gei (by omega) (by omega)).mp y
          omega)]
        have fr := @AFr_sendAllN a s bt p
        have e65 : aS (aSendAll s bt a p) 65 s = aS a 65 s := fr.1 65 (by decide) s
        have ev : aPeer (aSendAll s bt a p) s p = aPeer a s p := by
          unfold aPeer aVoters
          rw [e65]
        have es : aSendAll s bt a (p + 1) = if aPeer (aSendAll s bt a p) s p then A_send (aSendAll s bt a p) s p bt else aSendAll s bt a p := rfl
        have wb : WLg (aSendAll s bt a p) s := WLg_fr fr (by decide) (by decide) w
        have e86 : aS (aSendAll s bt a p) 86 (7 * s + p) = aS a 86 (7 * s + p) := sendAll_ne (Or.inl rfl) p (Nat.le_refl _)
        have e88 : aS (aSendAll s bt a p) 88 (7 * s + p) = aS a 88 (7 * s + p) := sendAll_ne (Or.inr rfl) p (Nat.le_refl _)
        have wr : WLr (aSendAll s bt a p) s p := by
          have := wl p hp
          unfold WLr aLast
          rw [e86, e88, fr.1 56 (by decide), fr.1 87 (by decide), fr.1 90 (by decide), fr.1 67 (by decide)]
          exact this
        have ub := (fr.1 52 (by decide) s).trans hu
        have rb := (fr.1 73 (by decide) s).trans hr
        rw [ev] at es
        generalize aSendAll s bt a p = b at h3 es wb wr ub rb
        by_cases z : aIn x p = false
        · rw [if_pos ((bit_k hp).mpr z), i_s]
          refine ih (p + 1) c (by omega) (by omega) ?_
          rw [es, if_neg (by rw [← x2 p hp, z]; decide)]
          exact h3
        · have z' : aIn x p = true := by simpa using z
          rw [if_neg (fun y => z ((bit_k hp).mp y))]
          refine WP_call (K_send1 (bt := bt) hF h3 hs hp ub rb wb wr hH) (fun c' h' => ?_)
          rw [i_s]
          refine ih (p + 1) c' (by omega) (by omega) ?_
          rw [es, if_pos (by rw [← x2 p hp]; exact z')]
          exact h'
  exact key F 0 c (by omega) (by omega) h
/-- a letter that has nothing but its kind -/
theorem LR_9 {c : CS} {a : AA} {s ad : Nat} {t : Int32} (l0 : L6 c ad (Int32.ofNat s) t 9 (aS a 53 s)) : LR c ad (aU (aU (aU (aU (aLet (Int32.ofNat s) t 9 (aS a 53 s)).1 7 0) 6 0) 12 0) 10 0, [], [], ([], [])) := by
  obtain ⟨l2, l3, l4, l5, l6, l17⟩ := l0
  refine LR_mk l2 l3 l4 l5 (fun j hj => ?_) (show (9 : Int32) ≠ 5 ∧ (9 : Int32) ≠ 7 ∧ (9 : Int32) ≠ 11 by decide)
  have hj' : j ∈ lFs 9 := hj
  rw [lF9] at hj'
  exact absurd hj' List.not_mem_nil
theorem K_tell9 {F : Nat} {c : CS} {a : AA} {s p : Nat} {H : List (Nat × Option AL)} {U : Nat → Int32} {N : Nat × Nat} (hF : 130 ≤ F) (h : RC c a ((H, U), N)) (hs : s < 7) (hp : p < 7) (hH : H.length ≤ 5) : WP ((k_Server_letterTo c s (Int32.ofNat p) 9).bind fun p12 => k_Server_dispatch F p12.2 s p12.1) (fun c' => RC c' (A_tell a s (Int32.ofNat p) 9 0 0 0 0) ((H, U), N)) := by
  refine WP_call (K_letterTo (to := Int32.ofNat p) (k := 9) h hs (by omega)) (fun r hr => ?_)
  exact K_dispatch hF (RC_fin hr.1 (LR_9 hr.2)) hs (wf_of hs (Or.inl (end_s hp)) rfl rfl) hH
theorem WP_bb {α β : Type} {x : Option α} {g : α → Option β} {Q : β → Prop} (h : WP (x.bind g) Q) : WP (x.bind fun y => (g y).bind fun z => some z) Q := by
  cases x with
  | none => exact h
  | some y =>
    show WP ((g y).bind fun z => some z) Q
    have h' : WP (g y) Q := h
    cases e : g y with
    | none => rw [e] at h'; exact h'
    | some z => rw [e] at h'; exact h'
/-- what a leader sends to one who answered -/
def aBack (a : AA) (s p : Nat) (l2 : Int32) : AA :=
  if ¬ aS a 73 s = 3 ∨ aPeer a s p = false then a
  else
    let a4 := A_send a s p false
    if aS a4 80 s = l2 ∧ aS a4 87 (7 * s + p) = aLast a4 s then A_tell a4 s l2 9 0 0 0 0 else a4
theorem K_sendBack {F : Nat} {c : CS} {a : AA} {s p : Nat} {H : List (Nat × Option AL)} {U : Nat → Int32} {N : Nat × Nat} (hF : 130 ≤ F) (h : RC c a ((H, U), N)) (hs : s < 7) (hp : p < 7) (hu : aS a 52 s = 1) (w : WLg a s) (wl : aS a 73 s = 3 → WLd a s) (hH : H.length ≤ 5) : WP (k_Server_sendBack F c s (Int32.ofNat p)) (fun c' => RC c' (aBack a s p (Int32.ofNat p)) ((H, U), N)) := by
  unfold k_Server_sendBack k_Server_sendBack_b0 k_Server_sendBack_b19 k_Server_sendBack_b67 aBack
  rw [K_r h (F := 73) (cl := 13) (f := 12) (by decide) hs]
  refine WP_if c2_ne (fun q => ?_) (fun q => ?_)
  · rw [if_pos (Or.inl q)]
    exact WP_some h
  · have hr : aS a 73 s = 3 := Classical.not_not.mp q
    obtain ⟨x, x1, x2⟩ := K_peers h hs
    rw [x1]
    refine WP_b ?_
    have hb : (xc0 ClassFile.Cond.ne ((x >>> (Int32.ofNat p &&& 31)) &&& 1) = true) ↔ aPeer a s p = true := by
      rw [← x2 p hp, c0_ne, ← c0_eq, bit_k hp]
      simp
    refine WP_if hb (fun z => ?_) (fun z => ?_)
    · rw [if_neg (show ¬ (¬ aS a 73 s = 3 ∨ aPeer a s p = false) from fun y => y.elim (fun y => y hr) (fun y => by rw [z] at y; exact absurd y (by decide)))]
      dsimp only
      refine WP_call (K_sendTo (bt := false) hF h hs hp hu hr w (wl hr) hH) (fun c2 h2 => ?_)
      have fr := @AFr_send a s p false
      have hr2 := (fr.1 73 (by decide) s).trans hr
      generalize A_send a s p false = b at h2 hr2
      rw [K_r h2 (F := 80) (cl := 7) (f := 10) (by decide) hs]
      refine WP_if c2_ne (fun y => ?_) (fun y => ?_)
      · rw [if_neg (fun u => y u.1)]
        exact WP_some h2
      · rw [K_crd h2 hs hr2 (F := 87) (f := 1) (by decide) hp]
        refine WP_b ?_
        rw [K_r h2 (F := 56) (cl := 9) (f := 6) (by decide) hs]
        refine WP_if c2_ne (fun y2 => ?_) (fun y2 => ?_)
        · rw [if_neg (fun u => y2 u.2)]
          exact WP_some h2
        · rw [if_pos ⟨Classical.not_not.mp y, Classical.not_not.mp y2⟩]
          exact WP_bb (K_tell9 hF h2 hs hp hH)
    · rw [if_pos (show ¬ aS a 73 s = 3 ∨ aPeer a s p = false from Or.inr (by simpa using z))]
      exact WP_some h
/-- the lead goes to another -/
theorem K_handOver {F : Nat} {c : CS} {a : AA} {s p : Nat} {H : List (Nat × Option AL)} {U : Nat → Int32} {N : Nat × Nat} (hF : 130 ≤ F) (h : RC c a ((H, U), N)) (hs : s < 7) (hp : p < 7) (hu : aS a 52 s = 1) (hr : aS a 73 s = 3) (w : WLg a s) (wl : WLd a s) (hH : H.length ≤ 5) : WP (k_Server_handOver F c s (Int32.ofNat p)) (fun c' => RC c' (let a1 := aI (aI a 80 s (Int32.ofNat p)) 81 s (aNow a); if aS a1 87 (7 * s + p) = aLast a1 s then A_tell a1 s (Int32.ofNat p) 9 0 0 0 0 else A_send a1 s p false) ((H, U), N)) := by
  unfold k_Server_handOver k_Server_handOver_b0 k_Server_handOver_b61
  dsimp only
  have h1 := RC_I (x := Int32.ofNat p) h (F := 80) (cl := 7) (f := 10) (i := s) (by decide) (by decide)
  refine WP_b ?_
  rw [K_r h1 (F := 1) (cl := 14) (f := 0) (by decide) (by decide)]
  have h2 := RC_I (x := aS (aI a 80 s (Int32.ofNat p)) 1 0) h1 (F := 81) (cl := 7) (f := 11) (i := s) (by decide) (by decide)
  refine WP_b ?_
  have en : aI (aI a 80 s (Int32.ofNat p)) 81 s (aS (aI a 80 s (Int32.ofNat p)) 1 0) = aI (aI a 80 s (Int32.ofNat p)) 81 s (aNow a) := rfl
  rw [en] at h2
  have fr : AFr [80, 81] [] a (aI (aI a 80 s (Int32.ofNat p)) 81 s (aNow a)) := AFr_w (AFr_t AFr_I AFr_I) (by decide) (by decide)
  have wl2 : WLd (aI (aI a 80 s (Int32.ofNat p)) 81 s (aNow a)) s := wl
  generalize aI (aI a 80 s (Int32.ofNat p)) 81 s (aNow a) = b at h2 fr wl2
  have hrb := (fr.1 73 (by decide) s).trans hr
  rw [K_crd h2 hs hrb (F := 87) (f := 1) (by decide) hp]
  refine WP_b ?_
  rw [K_r h2 (F := 56) (cl := 9) (f := 6) (by decide) hs]
  refine WP_if c2_ne (fun y => ?_) (fun y => ?_)
  · rw [if_neg (show ¬ aS b 87 (7 * s + p) = aLast b s from y)]
    exact WP_call (K_sendTo (bt := false) hF h2 hs hp ((fr.1 52 (by decide) s).trans hu) hrb (WLg_fr fr (by decide) (by decide) w) wl2 hH) (fun c3 h3 => WP_some h3)
  · rw [if_pos (show aS b 87 (7 * s + p) = aLast b s from Classical.not_not.mp y)]
    exact WP_bb (K_tell9 hF h2 hs hp hH)
/-! answers -/
theorem K_fill10 {c : CS} {a : AA} {s ad n : Nat} {H : List (Nat × Option AL)} {U : Nat → Int32} {N : Nat × Nat} (g : RC c a (((ad, none) :: H, U), N)) (hn : n ≤ 134) : WP (k_Letter_fill_10_10 c ad s 0 (Int32.ofNat n)) (fun c' => RC c' a (((ad, none) :: H, U), N) ∧ cI c' 8 ad 17 0 = Int32.ofNat n ∧ (∀ f, f < 17 → cI c' 8 ad f 0 = cI c 8 ad f 0) ∧ ∀ i, i < n → cI c' 8 ad 19 i = cI c 10 s 10 i) := by
  unfold k_Letter_fill_10_10 k_Letter_fill_10_10_b0 k_Letter_fill_10_10_b45
  have en : cmax 0 (cmin (cmin (Int32.ofNat n) (Int32.ofNat (cal c 8 ad 19))) (Int32.ofNat (cal c 10 s 10) - 0)) = Int32.ofNat n := by
    rw [show cal c 8 ad 19 = 200 from rfl, show cal c 10 s 10 = 134 from rfl, show Int32.ofNat 134 - 0 = Int32.ofNat 134 from rfl, cmin_n (by omega) (by omega), cmin_n (by omega) (by omega), cmax_0 (by omega)]
    congr 1
    omega
  rw [en]
  refine WP_b ?_
  have g1 := RC_I8 (ad := ad) (f := 17) (j := 0) (x := Int32.ofNat n) g
  rw [show cI (csI c 8 ad 17 0 (Int32.ofNat n)) 8 ad 17 0 = Int32.ofNat n from csI_e]
  by_cases q0 : n = 0
  · rw [if_pos (by rw [q0]; decide)]
    exact WP_some ⟨g1, csI_e, fun f hf => csI_f (by omega), fun i hi => by omega⟩
  · rw [if_neg (fun z => by
      have := c0_le.mp z
      rw [Int32.le_iff_toInt_le, Int32.toInt_ofNat_of_lt (by omega), i_0] at this
      omega)]
    refine WP_eq (ccpy_n (s := 0) (t := 0) (n := n) rfl rfl rfl (show 0 + n ≤ 134 by omega) (show 0 + n ≤ 200 by omega) (by omega) (by omega)) (WP_some ⟨RC_A8 g1, ?_, fun f hf => ?_, fun i hi => ?_⟩)
    · exact (if_neg (fun z => absurd z.2.2 (by decide))).trans csI_e
    · exact (if_neg (fun z => by have := z.2.2; omega)).trans (csI_f (by omega))
    · have e6 : cI (csA (csI c 8 ad 17 0 (Int32.ofNat n)) 8 ad 19 (fun w => if 0 ≤ w ∧ w < 0 + n then cI (csI c 8 ad 17 0 (Int32.ofNat n)) 10 s 10 (0 + (w - 0)) else cI (csI c 8 ad 17 0 (Int32.ofNat n)) 8 ad 19 w)) 8 ad 19 i = if 0 ≤ i ∧ i < 0 + n then cI (csI c 8 ad 17 0 (Int32.ofNat n)) 10 s 10 (0 + (i - 0)) else cI (csI c 8 ad 17 0 (Int32.ofNat n)) 8 ad 19 i := if_pos ⟨rfl, rfl, rfl⟩
      rw [e6, if_pos (by omega), Nat.sub_zero, Nat.zero_add]
      exact csI_cl (by decide)
theorem blank_I {c : CS} {p : Nat × CS} (e : k_World_blank c 0 = some p) (cl i f j : Nat) (h8 : cl ≠ 8) (h14 : cl ≠ 14) : cI p.2 cl i f j = cI c cl i f j := by
  unfold k_World_blank k_World_blank_b0 k_World_blank_b39 at e
  by_cases q : xc0 .eq (clemp c 14 0 16) = true
  · rw [if_pos q] at e
    unfold clrem at e
    cases hg : clget c 14 0 16 (clsz c 14 0 16 - 1) with
    | none =>
      rw [hg] at e
      exact absurd e (fun z => by cases (show (none : Option (Nat × CS)) = some p from z))
    | some x =>
      rw [hg] at e
      have e2 : (x, csS c 14 0 16 ((cS c 14 0 16).eraseIdx (clsz c 14 0 16 - 1).toNatClampNeg) (cL c 14 0 16) (cT c)) = p := Option.some.inj e
      rw [← e2]
      exact if_neg (fun z => h14 z.1)
  · rw [if_neg q] at e
    have e2 : ((cT c).1, csN c) = p := Option.some.inj e
    rw [← e2]
    exact if_neg (fun z => h8 z.1)
theorem K_letterTo10 {c : CS} {a : AA} {s : Nat} {to k : Int32} {H : List (Nat × Option AL)} {U : Nat → Int32} {N : Nat × Nat} (h : RC c a ((H, U), N)) (hs : s < 7) (hH : H.length ≤ 6) : WP (k_Server_letterTo c s to k) (fun p => (RC p.2 a (((p.1, none) :: H, U), N) ∧ L6 p.2 p.1 (Int32.ofNat s) to k (aS a 53 s)) ∧ ∀ i, cI p.2 10 s 10 i = cI c 10 s 10 i) := by
  have hb : WP (k_World_blank c 0) (fun p => RC p.2 a (((p.1, none) :: H, U), N) ∧ ∀ i, cI p.2 10 s 10 i = cI c 10 s 10 i) := by
    obtain ⟨p, e, h1, _, _⟩ := K_blank h hH
    exact ⟨p, e, h1, fun i => blank_I e 10 s 10 i (by decide) (by decide)⟩
  unfold k_Server_letterTo k_Server_letterTo_b0
  refine WP_call hb (fun p hp => ?_)
  obtain ⟨h1, e10⟩ := hp
  have e1 : cI p.2 13 s 0 0 = Int32.ofNat s := (h1.2.2.2.2.2.2.2.2.2.2.2.2.2.2.2.2.2.1 s hs).1
  refine WP_b (WP_b (WP_b (WP_b (WP_b (WP_b (WP_some ⟨⟨RC_I8 (RC_I8 (RC_I8 (RC_I8 (RC_I8 (RC_I8 h1))))), ?_⟩, fun i => ?_⟩))))))
  refine ⟨?_, ?_, ?_, ?_, ?_, csI_e⟩
  · rw [csI_f (by decide), csI_f (by decide), csI_f (by decide), csI_f (by decide), csI_f (by decide), csI_e]
    exact e1
  · rw [csI_f (by decide), csI_f (by decide), csI_f (by decide), csI_f (by decide), csI_e]
  · rw [csI_f (by decide), csI_f (by decide), csI_f (by decide), csI_e]
  · rw [csI_f (by decide), csI_f (by decide), csI_e, csI_cl (by decide), csI_cl (by decide), csI_cl (by decide)]
    exact K_r h1 (F := 53) (cl := 13) (f := 10) (by decide) hs
  · rw [csI_f (by decide), csI_e]
  · exact (csI_cl (by decide)).trans ((csI_cl (by decide)).trans ((csI_cl (by decide)).trans ((csI_cl (by decide)).trans ((csI_cl (by decide)).trans ((csI_cl (by decide)).trans (e10 i))))))
/-- the place matters only where the word is DONE or ELSEWHERE -/
theorem K_reply2 {F : Nat} {c : CS} {a : AA} {s : Nat} {q : AQ} {x y y1 : Int32} {bs : List Int32} {H : List (Nat × Option AL)} {U : Nat → Int32} {N : Nat × Nat} (hF : 130 ≤ F) (h : RC c a ((H, U), N)) (hs : s < 7) (hq : aInR (q 1) 0 6 = true ∨ aInR (q 1) 8 15 = true) (hb : bs.length ≤ 134) (hB : ∀ i, i < bs.length → cI c 10 s 10 i = bs.getD i 0) (hy : x = 0 ∨ x = 1 → y1 = y) (hH : H.length ≤ 5) : WP (k_Server_reply F c s (q 1) (q 2) x y1 (Int32.ofNat bs.length)) (fun c' => RC c' (aReply a s q x y bs) ((H, U), N)) := by
  unfold k_Server_reply k_Server_reply_b0
  have hk : WP (k_Server_letterTo c s (q 1) 11) (fun p => (RC p.2 a (((p.1, none) :: H, U), N) ∧ L6 p.2 p.1 (Int32.ofNat s) (q 1) 11 (aS a 53 s)) ∧ ∀ i, cI p.2 10 s 10 i = cI c 10 s 10 i) := by
    exact K_letterTo10 h hs (by omega)
  refine WP_call hk (fun r hr => ?_)
  obtain ⟨⟨g1, l2, l3, l4, l5, l6, l17⟩, hB2⟩ := hr
  refine WP_b (WP_b (WP_b ?_))
  have g2 := RC_I8 (ad := r.1) (f := 7) (j := 0) (x := y1) (RC_I8 (ad := r.1) (f := 6) (j := 0) (x := x) (RC_I8 (ad := r.1) (f := 5) (j := 0) (x := q 2) g1))
  refine WP_call (K_fill10 g2 hb) (fun c3 h3 => ?_)
  obtain ⟨g3, k17, kf, kb⟩ := h3
  have hl : LR c3 r.1 (aU (aU (aU (aLet (Int32.ofNat s) (q 1) 11 (q 2)).1 6 x) 7 y) 17 (Int32.ofNat bs.length), [], bs, ([], [])) := by
    refine ⟨fun f hf => ?_, fun f hf => ?_, fun z => ?_, fun z => ?_, fun _ => ⟨fun w => ?_, k17, hb, fun i hi => ?_⟩⟩
    · rw [kf f (by simp at hf; omega)]
      simp only [List.mem_cons, List.not_mem_nil, or_false] at hf
      rcases hf with rfl | rfl | rfl | rfl
      · exact (csI_f (by decide)).trans ((csI_f (by decide)).trans ((csI_f (by decide)).trans l2))
      · exact (csI_f (by decide)).trans ((csI_f (by decide)).trans ((csI_f (by decide)).trans l3))
      · exact (csI_f (by decide)).trans ((csI_f (by decide)).trans ((csI_f (by decide)).trans l4))
      · exact (csI_f (by decide)).trans ((csI_f (by decide)).trans csI_e)
    · have hf' : f ∈ lFs 11 := hf
      rw [lF11] at hf'
      simp only [List.mem_cons, List.not_mem_nil, or_false] at hf'
      subst hf'
      rw [kf 6 (by omega)]
      exact (csI_f (by decide)).trans csI_e
    · exact absurd z (show ¬ (11 : Int32) = 5 by decide)
    · exact absurd z (show ¬ (11 : Int32) = 7 by decide)
    · rw [kf 7 (by omega)]
      exact csI_e.trans (hy w)
    · have e1 : cI (csI (csI (csI r.2 8 r.1 5 0 (q 2)) 8 r.1 6 0 x) 8 r.1 7 0 y1) 10 s 10 i = cI r.2 10 s 10 i := (csI_cl (by decide)).trans ((csI_cl (by decide)).trans (csI_cl (by decide)))
      rw [kb i hi, e1, hB2, hB i hi]
  exact WP_call (K_dispatch hF (RC_fin g3 hl) hs (wf_of hs hq rfl rfl) hH) (fun c4 g4 => WP_some g4)
theorem K_reply {F : Nat} {c : CS} {a : AA} {s : Nat} {q : AQ} {x y : Int32} {bs : List Int32} {H : List (Nat × Option AL)} {U : Nat → Int32} {N : Nat × Nat} (hF : 130 ≤ F) (h : RC c a ((H, U), N)) (hs : s < 7) (hq : aInR (q 1) 0 6 = true ∨ aInR (q 1) 8 15 = true) (hb : bs.length ≤ 134) (hB : ∀ i, i < bs.length → cI c 10 s 10 i = bs.getD i 0) (hH : H.length ≤ 5) : WP (k_Server_reply F c s (q 1) (q 2) x y (Int32.ofNat bs.length)) (fun c' => RC c' (aReply a s q x y bs) ((H, U), N)) := K_reply2 hF h hs hq hb hB (fun _ => rfl) hH
