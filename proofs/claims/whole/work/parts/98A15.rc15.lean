/-! segments opened, entries appended -/
theorem aF_whole {x y z w t : Int32} {M : AM} : aWhole (aF x y z w t [] M) = [] := by
  unfold aWhole
  rfl
theorem K_pw {c : CS} {q : Nat} {F : AF} {hz x y z : Int32} (M : AM) (h : PG c q F) : WP (k_Page_write c q hz x y z) (fun c' => P11 q [0, 1, 2, 3, 4, 5, 9] c c' ∧ PG c' q (aF 1 hz x y z [] M) ∧ cI c' 11 q 9 0 = 0) := by
  unfold k_Page_write k_Page_write_b0 cputZ
  rw [if_pos (Or.inr rfl)]
  refine WP_b (WP_b (WP_b (WP_b (WP_b (WP_b (WP_b (WP_some ⟨?_, ?_, csI_e⟩)))))))
  · exact P11_t (P11_t (P11_t (P11_t (P11_t (P11_t (P11_I (by decide)) (P11_I (by decide))) (P11_I (by decide))) (P11_I (by decide))) (P11_I (by decide))) (P11_I (by decide))) (P11_I (by decide))
  · refine PG_new (c := c) h aF_whole (Or.inr rfl) (fun e he => absurd he List.not_mem_nil) ?_ ?_ ?_ ?_ ?_ ?_ ⟨rfl, rfl⟩
    · rw [csI_f (by decide), csI_f (by decide), csI_f (by decide), csI_f (by decide), csI_f (by decide), csI_f (by decide), csI_e]
      rfl
    · rw [csI_f (by decide), csI_f (by decide), csI_f (by decide), csI_f (by decide), csI_f (by decide), csI_e]
      rfl
    · rw [csI_f (by decide), csI_f (by decide), csI_f (by decide), csI_f (by decide), csI_e]
      rfl
    · rw [csI_f (by decide), csI_f (by decide), csI_f (by decide), csI_e]
      rfl
    · rw [csI_f (by decide), csI_f (by decide), csI_e]
      rfl
    · rw [csI_f (by decide), csI_e]
theorem openL {F : Nat} {c : CS} {a : AA} {v : CV} {s f : Nat} {x y : Int32} {Q : CS → Prop} (h : RC c a v) (hs : s < 7) (f2 : f < 16) (f3 : (aFc a s f).1 0 = 0) (f4 : ∀ g, 4 ≤ g → g < f → ¬ (aFc a s g).1 0 = 0)
    (fin : WP ((k_Page_write c (30 * s + cpg f) 24 x y 0).bind fun p13 => (cwr p13 6 s 2 (Int32.ofNat f) 0).bind fun σ16 => (cwr σ16 6 s 3 (Int32.ofNat f) 0).bind fun σ18 => (cwr σ18 6 s 4 (cI σ18 6 s 5 0) (Int32.ofNat f)).bind fun σ20 => (some (csI σ20 6 s 5 0 ((cI σ20 6 s 5 0) + 1))).bind fun σ22 => some σ22) Q) :
    ∀ n g, f < g + n → 4 ≤ g → g ≤ f → WP (k_Disk_openSegment_b2 F n c s x y (Int32.ofNat g)) Q := by
  intro n
  induction n with
  | zero => intro g h1 h2 h3; omega
  | succ n ih =>
    intro g h1 h2 h3
    unfold k_Disk_openSegment_b2
    dsimp only
    rw [if_neg (fun z => by
      rw [show (16 : Int32) = Int32.ofNat 16 from rfl] at z
      have := (i_gei (by omega) (by omega)).mp z
      omega), cix0 (show g < 16 by omega)]
    refine WP_b ?_
    rw [(h.2.2.2.2.2.2.2.2.2.1 s hs g (by omega)).1.1]
    by_cases q : g = f
    · subst q
      rw [f3, if_neg (by decide)]
      exact fin
    · rw [if_pos (c0_ne.mpr (f4 g h2 (by omega))), i_s]
      exact ih (g + 1) (by omega) (by omega) (by omega)
theorem KCh_push {c c' : CS} {s f : Nat} {ch : List Nat} (h : KCh c s ch) (hf : 4 ≤ f ∧ f < 16) (hl : ch.length < 12) (e5 : cI c' 6 s 5 0 = Int32.ofNat (ch.length + 1)) (e4 : ∀ i, cI c' 6 s 4 i = if i = ch.length then Int32.ofNat f else cI c 6 s 4 i) : KCh c' s (ch ++ [f]) := by
  obtain ⟨h1, h2, h3⟩ := h
  refine ⟨by rw [e5, List.length_append, List.length_singleton], by rw [List.length_append, List.length_singleton]; omega, fun i hi => ?_⟩
  rw [List.length_append, List.length_singleton] at hi
  rw [e4]
  by_cases q : i = ch.length
  · subst q
    rw [if_pos rfl, getD_l]
    exact ⟨hf.1, hf.2, rfl⟩
  · rw [if_neg q, getD_p (by omega)]
    exact h3 i (by omega)
theorem K_open {F : Nat} {c : CS} {a : AA} {v : CV} {s f : Nat} {x y : Int32} (hF : 20 ≤ F) (h : RC c a v) (hs : s < 7) (f1 : 4 ≤ f) (f2 : f < 16) (f3 : (aFc a s f).1 0 = 0) (f4 : ∀ g, 4 ≤ g → g < f → ¬ (aFc a s g).1 0 = 0) (hl : (aCh a s).length < 12) (hx : x = aLast a s + 1) (hy : y = aTermAt a s (aLast a s)) : WP (k_Disk_openSegment F c s x y) (fun c' => RC c' (aSeg1 a s f) v ∧ ∀ cl i g, cl ≠ 11 → cl ≠ 6 → Sm c c' cl i g) := by
  unfold k_Disk_openSegment k_Disk_openSegment_b0
  refine openL h hs f2 f3 f4 ?_ F 4 (by omega) (by omega) f1
  obtain ⟨y1, y2, y3, y4⟩ := h.2.2.2.2.2.2.2.2.2.1 s hs f f2
  have hch := h.2.2.2.2.2.2.2.2.2.2.1 s hs
  have ow : cOwn 11 (30 * s + cpg f) = s := (if_pos rfl).trans (pg_o f2).1
  have hgk : ckp f ≠ cpg f := fun z => by
    have := ((cpg_i f f2 f f2).2.2.mp z.symm).2
    omega
  refine WP_call (K_pw (hz := 24) (x := x) (y := y) (z := 0) ([], []) y1) (fun c1 hc1 => ?_)
  obtain ⟨p1, p2, _⟩ := hc1
  have e6 : ∀ g j, cI c1 6 s g j = cI c 6 s g j := fun g j => (p1.1 6 s g (fun w => by omega)).1 j
  refine WP_eq (cwr_n rfl (show f < 16 from f2) (by omega)) (WP_eq (cwr_n rfl (show f < 16 from f2) (by omega)) ?_)
  have e5 : cI (csI (csI c1 6 s 2 f 0) 6 s 3 f 0) 6 s 5 0 = Int32.ofNat (aCh a s).length := (csI_f (by decide)).trans ((csI_f (by decide)).trans ((e6 5 0).trans hch.1))
  rw [e5]
  refine WP_eq (cwr_n rfl (show (aCh a s).length < 16 by omega) (by omega)) (WP_b (WP_some ?_))
  rw [csI_f (show (5 : Nat) ≠ 4 by decide), e5, i_s]
  have hF0 : Ck [352, 353, 354, 355, 356, 357, 361, 194, 195] s c (csI (csI c1 6 s 2 f 0) 6 s 3 f 0) :=
    Ck_w (Ck_t (Ck_t (P11_k (D := [352, 353, 354, 355, 356, 357, 361]) p1 ow (by decide)) (Ck_I (Or.inr rfl))) (Ck_I (Or.inr rfl))) (by decide)
  have eT : cT (csI (csI c1 6 s 2 f 0) 6 s 3 f 0) = cT c := p1.2.1
  have eseg : aF 1 24 x y 0 [] ([], []) = aSegF a s := by
    rw [hx, hy]
    rfl
  rw [eseg] at p2
  have h1 : RC (csI (csI c1 6 s 2 f 0) 6 s 3 f 0) (aI (aPut a s f (aSegF a s)) 43 (16 * s + f) 0) v := by
    refine RC_pgc h hs f2 ⟨by omega, by omega⟩ (fun y => by omega) (Ck_w hF0 (by decide)) (by rw [eT]; exact Nat.le_refl _) (KRm_fr hF0 eT (by decide) h.2.2.2.2.2.2.2.2.2.2.2.2.2.2.2.2.2.2.2.2.1) ?_ ?_ ?_ ?_ ?_ ?_
    · exact PG_fr (c := c1) (fun g _ => ⟨fun j => (csI_cl (by decide)).trans (csI_cl (by decide)), fun _ => rfl, rfl, rfl⟩) p2
    · refine PG_fr (c := c) (fun g _ => Sm_t (p1.1 11 (30 * s + ckp f) g (fun w => by omega)) ⟨fun j => (csI_cl (by decide)).trans (csI_cl (by decide)), fun _ => rfl, rfl, rfl⟩) y2
    · exact ⟨0, csI_e, Nat.zero_le _, Nat.zero_le _, rfl⟩
    · intro q g hq n1 n2 hg
      exact Sm_t (p1.1 11 q g (fun w => n1 w.2.1)) ⟨fun j => (csI_cl (by decide)).trans (csI_cl (by decide)), fun _ => rfl, rfl, rfl⟩
    · intro g hg hgf
      rw [csI_j hgf, csI_f (by decide)]
      exact e6 3 g
    · intro g hg
      rw [csI_f (by decide)]
      by_cases z : g = f
      · rw [if_pos z, z, csI_e]
      · rw [if_neg z, csI_j z]
        exact e6 2 g
  refine ⟨RC_ch h1 (Ck_w (Ck_t (Ck_I (Or.inr rfl)) (Ck_I (Or.inr rfl))) (by decide)) rfl (KCh_push (c := csI (csI c1 6 s 2 f 0) 6 s 3 f 0) (h1.2.2.2.2.2.2.2.2.2.2.1 s hs) ⟨f1, f2⟩ hl csI_e (fun i => ?_)), ?_⟩
  · rw [csI_f (by decide)]
    show _ = if i = (aCh a s).length then Int32.ofNat f else _
    by_cases z : i = (aCh a s).length
    · rw [if_pos z, z, csI_e]
    · rw [if_neg z, csI_j z]
  · intro cl i g n1 n2
    exact Sm_t (p1.1 cl i g (fun w => n1 w.1)) ⟨fun j => by rw [csI_cl n2, csI_cl n2, csI_cl n2, csI_cl n2], fun _ => rfl, rfl, rfl⟩
def gDiskApp (cl f : Nat) (F : Nat) (σ : CS) (l0 : Nat) (l1 : Nat) (l2 : Int32) (l3 : Int32) (l4 : Int32) : Option (CS) :=
  let b39 := fun (σ : CS) =>
    if xc0 .le (cI σ 6 l0 5 0) = true then (
      some σ
    ) else (
      (crd σ 6 l0 4 ((cI σ 6 l0 5 0) - ((1 : Int32)))).bind fun x2 =>
      (cix 6 0 x2).bind fun n4 =>
      (gPageAdd cl f σ (30 * l0 + cpg n4) l1 l2).bind fun p6 =>
      some p6
    )
  if xc0 .eq (cI σ 6 l0 5 0) = true then (
    (k_Disk_openSegment F σ l0 l3 l4).bind fun p10 => b39 p10
  ) else (
    (crd σ 6 l0 4 ((cI σ 6 l0 5 0) - ((1 : Int32)))).bind fun x14 =>
    (cix 6 0 x14).bind fun n16 =>
    if xc2 .le (cI σ 11 (30 * l0 + cpg n16) 1 0) ((8000 : Int32)) = true then (
      b39 σ
    ) else (
      (k_Disk_openSegment F σ l0 l3 l4).bind fun p10 => b39 p10
    )
  )
theorem gDA_9 : k_Disk_append_9_2 = gDiskApp 9 2 := rfl
theorem gDA_8 : k_Disk_append_8_18 = gDiskApp 8 18 := rfl
def gSrvApp (cl f : Nat) (F : Nat) (σ : CS) (l0 : Nat) (l1 : Nat) (l2 : Int32) : Option (CS) :=
  (k_Log_length σ l0).bind fun p1 =>
  if xc2 .ge p1 ((300 : Int32)) = true then (
    some σ
  ) else (
    (k_Log_termAt σ l0 (cI σ 9 l0 6 0)).bind fun p5 =>
    (gDiskApp cl f F σ l0 l1 l2 ((cI σ 9 l0 6 0) + ((1 : Int32))) p5).bind fun p8 =>
    (gLogAdd cl f p8 l0 l1 l2).bind fun p12 =>
    (k_Server_soil p12 l0).bind fun p15 =>
    some p15
  )
theorem gSA_9 : k_Server_append_9_2 = gSrvApp 9 2 := rfl
theorem gSA_8 : k_Server_append_8_18 = gSrvApp 8 18 := rfl
theorem chOK_ex {fc : Nat → AF} {e : Int} {c : List Nat} {n : Int} {g : Nat} (h : chOK fc e n (c ++ [g])) : 4 ≤ g ∧ g < 16 ∧ exF (fc g) := by
  have := chOK_mem (c ++ [g]) n h g (by simp)
  exact ⟨this.1, this.2.1, this.2.2.2.1⟩
/-- an entry more -/
theorem K_append {cl f F l1 m : Nat} {c : CS} {a : AA} {v : CV} {s : Nat} {e : AE} (hF : 20 ≤ F) (h : RC c a v) (hs : s < 7) (wl : WLg a s) (wc : WCh a s) (hp : pApp a s) (hmd : mdOK a 0) (hcl : cl = 9 ∧ f = 2 ∨ cl = 8 ∧ f = 18) (hm : m + 6 ≤ cal c cl l1 f) (hm2 : m + 6 < 2147483648) (hsrc : ∀ j, j < 6 → cI c cl l1 f (m + j) = kF e j) (he : eOK e) : WP (gSrvApp cl f F c s l1 (Int32.ofNat m)) (fun c' => RC c' (A_append a s e) v ∧ mdOK a 0) := by
  obtain ⟨h1, h2, h3⟩ := hp
  obtain ⟨w1, w2, w3, w4⟩ := id wl
  have hch := h.2.2.2.2.2.2.2.2.2.2.1 s hs
  have hl12 := hch.2.1
  have e56 : cI c 9 s 6 0 = aLast a s := K_r h (F := 56) (cl := 9) (f := 6) (by decide) hs
  unfold gSrvApp k_Log_length k_Log_length_b0
  rw [K_r h (F := 55) (cl := 9) (f := 3) (by decide) hs, e56, show aLast a s - aS a 55 s = Int32.ofNat (aLg a s).length from len_i wl]
  refine WP_b ?_
  rw [if_neg (fun z => by
    rw [show (300 : Int32) = Int32.ofNat 300 from rfl] at z
    have := (i_gei (by omega) (by omega)).mp z
    omega), K_termAt h hs wl]
  refine WP_b ?_
  -- the page gets it, the log gets it, it is dirty
  have fin : ∀ (b : AA) (c1 : CS) (d : List Nat) (g : Nat), RC c1 b v → WLg b s → (aLg b s).length < 300 → mdOK b 0 → aCh b s = d ++ [g] → 4 ≤ g → g < 16 → exF (aFc b s g) → ((aFc b s g).1 1).toInt ≤ 8000 → (∀ j, cI c1 cl l1 f j = cI c cl l1 f j) → cal c1 cl l1 f = cal c cl l1 f →
      WP ((if xc0 .le (cI c1 6 s 5 0) = true then (
      some c1
    ) else (
      (crd c1 6 s 4 ((cI c1 6 s 5 0) - ((1 : Int32)))).bind fun x2 =>
      (cix 6 0 x2).bind fun n4 =>
      (gPageAdd cl f c1 (30 * s + cpg n4) l1 (Int32.ofNat m)).bind fun p6 =>
      some p6
    )).bind fun p8 => (gLogAdd cl f p8 s l1 (Int32.ofNat m)).bind fun p12 => (k_Server_soil p12 s).bind fun p15 => some p15) (fun c' => RC c' (aSoil (aLogAdd (aPut b s g (aPlus (aFc b s g) e)) s e) s) v) := by
    intro b c1 d g hb wb hb3 hmb hd g4 g16 hx h8 hs1 hs2
    have hch1 := hb.2.2.2.2.2.2.2.2.2.2.1 s hs
    rw [hd] at hch1
    obtain ⟨z1, z2, z3, z4, z5⟩ := ch_last hch1
    rw [z1, if_neg (fun z => by
      have := c0_le.mp z
      rw [Int32.le_iff_toInt_le, Int32.toInt_ofNat_of_lt (by omega), i_0] at this
      omega), i_pre (by omega), show d.length + 1 - 1 = d.length by omega]
    refine WP_call (Q1 := fun c2 => RC c2 (aPut b s g (aPlus (aFc b s g) e)) v ∧ (∀ j, cI c2 cl l1 f j = cI c cl l1 f j) ∧ cal c2 cl l1 f = cal c cl l1 f) ?_ (fun c2 hc2 => ?_)
    · refine WP_eq (crd_n rfl (show d.length < 16 by omega) (by omega)) ?_
      rw [z5, cix0 g16]
      refine WP_b (WP_call (K_pageAdd (e := e) hb hs g16 g4 hcl (by rw [hs2]; exact hm) hm2 (fun j hj => (hs1 _).trans (hsrc j hj)) he hx h8) (fun c2 hc2 => WP_some ?_))
      exact ⟨hc2.1, fun j => (hc2.2.1 j).trans (hs1 j), hc2.2.2.trans hs2⟩
    · obtain ⟨q1, q2, q3⟩ := hc2
      refine WP_call (K_logAdd (e := e) q1 hs (show WLg (aPut b s g (aPlus (aFc b s g) e)) s from wb) hb3 (fun z => by omega) (fun z => by omega) (by rw [q3]; exact hm) hm2 (fun j hj => (q2 _).trans (hsrc j hj)) he) (fun c3 hc3 => ?_)
      refine WP_call (K_soil hc3 hs ?_) (fun c4 h4 => WP_some h4)
      obtain ⟨mm, m1, m2⟩ := hmb
      refine ⟨mm, ?_, m2⟩
      rw [← m1]
      unfold aLogAdd
      dsimp only
      split
      · exact (aS_If (by decide)).trans ((aS_If (by decide)).trans (aS_If (by decide)))
      · exact aS_If (by decide)
  have opens : (aCh a s = [] ∨ 8000 < (aFc a s ((aCh a s).getLastD 0)).1 1) → WP (((k_Disk_openSegment F c s (aLast a s + 1) (aTermAt a s (aLast a s))).bind fun p10 => if xc0 .le (cI p10 6 s 5 0) = true then (
      some p10
    ) else (
      (crd p10 6 s 4 ((cI p10 6 s 5 0) - ((1 : Int32)))).bind fun x2 =>
      (cix 6 0 x2).bind fun n4 =>
      (gPageAdd cl f p10 (30 * s + cpg n4) l1 (Int32.ofNat m)).bind fun p6 =>
      some p6
    )).bind fun p8 => (gLogAdd cl f p8 s l1 (Int32.ofNat m)).bind fun p12 => (k_Server_soil p12 s).bind fun p15 => some p15) (fun c' => RC c' (A_append a s e) v) := by
    intro q
    have hl := h3 q
    have hex : ∃ f, 4 ≤ f ∧ f < 16 ∧ (aFc a s f).1 0 = 0 := by
      obtain ⟨f, y⟩ := free_ex wc hl
      rcases y with y | ⟨f, y1, y2, y3, y4⟩
      · exact ⟨f, y⟩
      · have := (h.2.2.2.2.2.2.2.2.2.1 s hs f y2).1.2.2.2.2.2.2.2.2.2.1
        exact absurd this (fun z => z.elim y3 y4)
    obtain ⟨g, f1, f2, f3, f4, f5⟩ := aFree_e hex
    have eseg : aSeg a s = (aSeg1 a s g, g) := by
      unfold aSeg
      dsimp only
      rw [if_pos q, f1]
      rfl
    have efc : aFc (aSeg1 a s g) s g = aSegF a s := by
      show aFc (aPut a s g (aSegF a s)) s g = _
      rw [aFc_put, if_pos ⟨rfl, rfl⟩]
    have eA : A_append a s e = aSoil (aLogAdd (aPut (aSeg1 a s g) s g (aPlus (aFc (aSeg1 a s g) s g) e)) s e) s := by
      unfold A_append
      rw [eseg]
      rfl
    rw [eA]
    rw [Option.bind_assoc]
    refine WP_call (K_open hF h hs f2 f3 f4 f5 hl rfl rfl) (fun c1 hc1 => ?_)
    obtain ⟨o1, o2⟩ := hc1
    exact fin (aSeg1 a s g) c1 (aCh a s) g o1 wl h1 hmd (if_pos rfl) f2 f3 (by rw [efc]; unfold exF; rw [aWhole_seg]; rfl) (by rw [efc]; show (24 : Int32).toInt ≤ 8000; decide) (fun j => (o2 cl l1 f (by omega) (by omega)).1 j) (by unfold cal; rw [(o2 cl l1 f (by omega) (by omega)).2.2.1])
  have key : WP ((gDiskApp cl f F c s l1 (Int32.ofNat m) (aLast a s + 1) (aTermAt a s (aLast a s))).bind fun p8 => (gLogAdd cl f p8 s l1 (Int32.ofNat m)).bind fun p12 => (k_Server_soil p12 s).bind fun p15 => some p15) (fun c' => RC c' (A_append a s e) v) := by
    unfold gDiskApp
    dsimp only
    rw [hch.1]
    by_cases q0 : aCh a s = []
    · rw [q0]
      rw [if_pos (by decide)]
      exact opens (Or.inl q0)
    · obtain ⟨d, g, hd⟩ : ∃ d g, aCh a s = d ++ [g] := ⟨(aCh a s).dropLast, (aCh a s).getLast q0, (List.dropLast_concat_getLast q0).symm⟩
      have hch1 := hch
      rw [hd] at hch1
      obtain ⟨z1, z2, z3, z4, z5⟩ := ch_last hch1
      have hlen : (aCh a s).length = d.length + 1 := by rw [hd]; simp
      rw [hlen, if_neg (fun z => by
        have := congrArg Int32.toInt (c0_eq.mp z)
        rw [Int32.toInt_ofNat_of_lt (by omega), i_0] at this
        omega), i_pre (by omega), show d.length + 1 - 1 = d.length by omega]
      rw [crd_n (c := c) (cl := 6) (i := s) (f := 4) (n := d.length) rfl (show d.length < 16 by omega) (by omega), Option.bind_some, z5, cix0 z4, Option.bind_some, (h.2.2.2.2.2.2.2.2.2.1 s hs g z4).1.2.1]
      have elast : (aCh a s).getLastD 0 = g := by rw [hd, getLastD_app]
      by_cases q8 : 8000 < (aFc a s g).1 1
      · rw [if_neg (fun z => (i_nle.mpr q8) (c2_le.mp z))]
        exact opens (Or.inr (by rw [elast]; exact q8))
      · rw [if_pos (c2_le.mpr (i_nlt.mp q8))]
        have eseg : aSeg a s = (a, g) := by
          unfold aSeg
          dsimp only
          rw [elast, if_neg (fun z => z.elim q0 q8)]
        have eA : A_append a s e = aSoil (aLogAdd (aPut a s g (aPlus (aFc a s g) e)) s e) s := by
          unfold A_append
          rw [eseg]
          rfl
        rw [eA]
        have hx : exF (aFc a s g) := by
          rcases wc.2.2 with ⟨x, _⟩ | ⟨n, n1, n2, n3⟩
          · exact absurd x q0
          · rw [hd] at n3
            exact (chOK_ex n3).2.2
        have h8 : ((aFc a s g).1 1).toInt ≤ 8000 := by
          have := i_nlt.mp q8
          rw [Int32.le_iff_toInt_le] at this
          exact this
        have := fin a c d g h wl h1 hmd hd z3 z4 hx h8 (fun _ => rfl) rfl
        rw [hch.1, hlen, i_pre (by omega), show d.length + 1 - 1 = d.length by omega, crd_n (c := c) (cl := 6) (i := s) (f := 4) (n := d.length) rfl (show d.length < 16 by omega) (by omega), z5] at this
        exact this
  exact WP_mono key (fun c' h' => ⟨h', hmd⟩)
