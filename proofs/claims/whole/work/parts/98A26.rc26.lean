/-! what is due; a leader begins, counts, moves members -/
theorem RC_due {c : CS} {a : AA} {s : Nat} {x : Int32} {H : List (Nat × Option AL)} {U : Nat → Int32} {N : Nat × Nat} (h : RC c a ((H, U), N)) : RC (csI c 13 s 19 0 x) a ((H, aU U s x), N) := by
  have hF : Ck [435] s c (csI c 13 s 19 0 x) := Ck_I (cl := 13) (i := s) (f := 19) (Or.inr rfl)
  have hid : ∀ t, t < 7 → KId (csI c 13 s 19 0 x) t (aS a 145 0) (aU U s x t) := by
    intro t ht
    obtain ⟨i1, i2, i3⟩ := h.2.2.2.2.2.2.2.2.2.2.2.2.2.2.2.2.2.1 t ht
    refine ⟨(csI_f (by decide)).trans i1, (csI_cl (by decide)).trans i2, ?_⟩
    unfold aU
    by_cases q : t = s
    · rw [if_pos q, q, csI_e]
    · rw [if_neg q]
      exact (csI_ne (fun z => q z.2.1)).trans i3
  exact ⟨KSc_fr hF (by decide) h.1, fun s hs hu => KFr_fr hF (by decide) (h.2.1 s hs hu), fun s hs => KHd_fr hF (by decide) (h.2.2.1 s hs), fun s hs hr => KLd_fr hF (by decide) (h.2.2.2.1 s hs hr), fun s hs hu => KRq_fr hF (by decide) (h.2.2.2.2.1 s hs hu), KBl_fr hF (by decide) h.2.2.2.2.2.1, KDa_fr hF (by decide) h.2.2.2.2.2.2.1, fun s hs => KLw_fr hF (by decide) (h.2.2.2.2.2.2.2.1 s hs), fun s hs => KG_fr hF (by decide) (h.2.2.2.2.2.2.2.2.1 s hs), fun s hs => KPg_fr hF (by decide) (h.2.2.2.2.2.2.2.2.2.1 s hs), fun s hs => KCh_fr hF (by decide) (h.2.2.2.2.2.2.2.2.2.2.1 s hs), fun s hs => KMc_fr hF (by decide) (h.2.2.2.2.2.2.2.2.2.2.2.1 s hs), fun s hs => KPc_fr hF (by decide) (h.2.2.2.2.2.2.2.2.2.2.2.2.1 s hs), fun k hk => KCl_fr hF (by decide) (h.2.2.2.2.2.2.2.2.2.2.2.2.2.1 k hk), fun k hk => KDn_fr hF (by decide) (h.2.2.2.2.2.2.2.2.2.2.2.2.2.2.1 k hk), KAk_fr hF (by decide) h.2.2.2.2.2.2.2.2.2.2.2.2.2.2.2.1, KFc_fr hF (by decide) h.2.2.2.2.2.2.2.2.2.2.2.2.2.2.2.2.1, hid, fun k hk => KIc_fr hF (by decide) (h.2.2.2.2.2.2.2.2.2.2.2.2.2.2.2.2.2.2.1 k hk), KLt_fr hF rfl (by decide) h.2.2.2.2.2.2.2.2.2.2.2.2.2.2.2.2.2.2.2.1, KRm_fr hF rfl (by decide) h.2.2.2.2.2.2.2.2.2.2.2.2.2.2.2.2.2.2.2.2.1, h.2.2.2.2.2.2.2.2.2.2.2.2.2.2.2.2.2.2.2.2.2.1, h.2.2.2.2.2.2.2.2.2.2.2.2.2.2.2.2.2.2.2.2.2.2⟩
theorem K_due {c : CS} {a : AA} {s : Nat} {b : Int32} {H : List (Nat × Option AL)} {U : Nat → Int32} {N : Nat × Nat} (h : RC c a ((H, U), N)) (hs : s < 7) : RC (csI c 13 s 19 0 (cI c 13 s 19 0 ||| b)) a ((H, aU U s (U s ||| b)), N) := by
  rw [(h.2.2.2.2.2.2.2.2.2.2.2.2.2.2.2.2.2.1 s hs).2.2]
  exact RC_due h
theorem K_takeDue {c : CS} {a : AA} {s : Nat} {b : Int32} {H : List (Nat × Option AL)} {U : Nat → Int32} {N : Nat × Nat} (h : RC c a ((H, U), N)) (hs : s < 7) : WP (k_Server_takeDue c s b) (fun p => p.1 = (if U s &&& b = 0 then 0 else 1) ∧ RC p.2 a ((H, aU U s (U s &&& (b ^^^ -1))), N)) := by
  unfold k_Server_takeDue k_Server_takeDue_b0 k_Server_takeDue_b14
  rw [(h.2.2.2.2.2.2.2.2.2.2.2.2.2.2.2.2.2.1 s hs).2.2]
  have h1 := RC_due (s := s) (x := U s &&& (b ^^^ -1)) h
  refine WP_if c0_eq (fun q => ?_) (fun q => ?_)
  · have q' : U s &&& b = 0 := q
    rw [if_pos q']
    refine WP_b ?_
    rw [if_pos (show (0 : Int32) = 0 ∨ (0 : Int32) = 1 from Or.inl rfl)]
    exact WP_some ⟨rfl, h1⟩
  · have q' : ¬ U s &&& b = 0 := q
    rw [if_neg q']
    refine WP_b ?_
    rw [if_pos (show (1 : Int32) = 0 ∨ (1 : Int32) = 1 from Or.inr rfl)]
    exact WP_some ⟨rfl, h1⟩
theorem K_rowOf {c : CS} {a : AA} {v : CV} {s : Nat} {e : AE} (h : RC c a v) (hs : s < 7) : WP (k_Log_rowOf c s e.1 e.2.1 e.2.2.1 e.2.2.2.1 e.2.2.2.2.1 e.2.2.2.2.2) (fun p => p.1 = s ∧ RC p.2 a v ∧ ∀ j, j < 6 → cI p.2 9 s 2 j = kF e j) := by
  unfold k_Log_rowOf k_Log_rowOf_b0
  refine WP_eq (cwr_n (n := 0) rfl (show 0 < 6 by omega) (by omega)) (WP_eq (cwr_n (n := 1) rfl (show 1 < 6 by omega) (by omega)) (WP_eq (cwr_n (n := 2) rfl (show 2 < 6 by omega) (by omega)) (WP_eq (cwr_n (n := 3) rfl (show 3 < 6 by omega) (by omega)) (WP_eq (cwr_n (n := 4) rfl (show 4 < 6 by omega) (by omega)) (WP_eq (cwr_n (n := 5) rfl (show 5 < 6 by omega) (by omega)) (WP_some ⟨rfl, ?_, fun j hj => ?_⟩))))))
  · have hF : Ck [290] s c (csI (csI (csI (csI (csI (csI c 9 s 2 0 e.1) 9 s 2 1 e.2.1) 9 s 2 2 e.2.2.1) 9 s 2 3 e.2.2.2.1) 9 s 2 4 e.2.2.2.2.1) 9 s 2 5 e.2.2.2.2.2) := PX_k (K := 9) (I := s) (fs := [2]) (PX_t (PX_t (PX_t (PX_t (PX_t (PX_I (by decide)) (PX_I (by decide))) (PX_I (by decide))) (PX_I (by decide))) (PX_I (by decide))) (PX_I (by decide))) (Or.inr rfl) (by decide)
    exact ⟨KSc_fr hF (by decide) h.1, fun s hs hu => KFr_fr hF (by decide) (h.2.1 s hs hu), fun s hs => KHd_fr hF (by decide) (h.2.2.1 s hs), fun s hs hr => KLd_fr hF (by decide) (h.2.2.2.1 s hs hr), fun s hs hu => KRq_fr hF (by decide) (h.2.2.2.2.1 s hs hu), KBl_fr hF (by decide) h.2.2.2.2.2.1, KDa_fr hF (by decide) h.2.2.2.2.2.2.1, fun s hs => KLw_fr hF (by decide) (h.2.2.2.2.2.2.2.1 s hs), fun s hs => KG_fr hF (by decide) (h.2.2.2.2.2.2.2.2.1 s hs), fun s hs => KPg_fr hF (by decide) (h.2.2.2.2.2.2.2.2.2.1 s hs), fun s hs => KCh_fr hF (by decide) (h.2.2.2.2.2.2.2.2.2.2.1 s hs), fun s hs => KMc_fr hF (by decide) (h.2.2.2.2.2.2.2.2.2.2.2.1 s hs), fun s hs => KPc_fr hF (by decide) (h.2.2.2.2.2.2.2.2.2.2.2.2.1 s hs), fun k hk => KCl_fr hF (by decide) (h.2.2.2.2.2.2.2.2.2.2.2.2.2.1 k hk), fun k hk => KDn_fr hF (by decide) (h.2.2.2.2.2.2.2.2.2.2.2.2.2.2.1 k hk), KAk_fr hF (by decide) h.2.2.2.2.2.2.2.2.2.2.2.2.2.2.2.1, KFc_fr hF (by decide) h.2.2.2.2.2.2.2.2.2.2.2.2.2.2.2.2.1, fun s hs => KId_fr hF (by decide) (h.2.2.2.2.2.2.2.2.2.2.2.2.2.2.2.2.2.1 s hs), fun k hk => KIc_fr hF (by decide) (h.2.2.2.2.2.2.2.2.2.2.2.2.2.2.2.2.2.2.1 k hk), KLt_fr hF rfl (by decide) h.2.2.2.2.2.2.2.2.2.2.2.2.2.2.2.2.2.2.2.1, KRm_fr hF rfl (by decide) h.2.2.2.2.2.2.2.2.2.2.2.2.2.2.2.2.2.2.2.2.1, h.2.2.2.2.2.2.2.2.2.2.2.2.2.2.2.2.2.2.2.2.2.1, h.2.2.2.2.2.2.2.2.2.2.2.2.2.2.2.2.2.2.2.2.2.2⟩
  · have : j = 0 ∨ j = 1 ∨ j = 2 ∨ j = 3 ∨ j = 4 ∨ j = 5 := by omega
    rcases this with rfl | rfl | rfl | rfl | rfl | rfl
    · exact (csI_j (by decide)).trans ((csI_j (by decide)).trans ((csI_j (by decide)).trans ((csI_j (by decide)).trans ((csI_j (by decide)).trans csI_e))))
    · exact (csI_j (by decide)).trans ((csI_j (by decide)).trans ((csI_j (by decide)).trans ((csI_j (by decide)).trans csI_e)))
    · exact (csI_j (by decide)).trans ((csI_j (by decide)).trans ((csI_j (by decide)).trans csI_e))
    · exact (csI_j (by decide)).trans ((csI_j (by decide)).trans csI_e)
    · exact (csI_j (by decide)).trans csI_e
    · exact csI_e
/-- an entry of the leader's own -/
theorem K_ownEntry {F : Nat} {c : CS} {a : AA} {v : CV} {s : Nat} {e : AE} (hF : 20 ≤ F) (h : RC c a v) (hs : s < 7) (wl : WLg a s) (wc : WCh a s) (hp : pApp a s) (hmd : mdOK a 0) (he : eOK e) : WP ((k_Log_rowOf c s e.1 e.2.1 e.2.2.1 e.2.2.2.1 e.2.2.2.2.1 e.2.2.2.2.2).bind fun p => k_Server_append_9_2 F p.2 s p.1 ((0 : Int32))) (fun c' => RC c' (A_append a s e) v) := by
  refine WP_call (K_rowOf h hs) (fun p hp1 => ?_)
  obtain ⟨e1, h2, h3⟩ := hp1
  rw [e1, gSA_9]
  exact WP_mono (K_append (cl := 9) (f := 2) (l1 := s) (m := 0) hF h2 hs wl wc hp hmd (Or.inl ⟨rfl, rfl⟩) (show 0 + 6 ≤ 6 by omega) (by omega) (fun j hj => by rw [Nat.zero_add]; exact h3 j hj) he) (fun c' h' => h'.1)
theorem beg1_e2 {b : AA} {s p : Nat} {l t : Int32} : aS (beg1 b s p l t) 91 (7 * s + p) = 0 ∧ aS (beg1 b s p l t) 89 (7 * s + p) = 1 ∧ aS (beg1 b s p l t) 92 (7 * s + p) = t ∧ aS (beg1 b s p l t) 93 (7 * s + p) = 0 := by
  have hI : ∀ (c : AA) (f i : Nat) (v : Int32), aS (aI c f i v) f i = v := fun c f i v => if_pos ⟨rfl, rfl⟩
  unfold beg1
  dsimp only
  refine ⟨?_, ?_, ?_, ?_⟩
  · rw [aS_If (by decide), aS_If (by decide), aS_If (by decide), hI]
  · rw [aS_If (by decide), aS_If (by decide), hI]
  · rw [aS_If (by decide), hI]
  · rw [hI]
theorem aBegin_e2 {a : AA} {s : Nat} : ∀ n p, p < n → aS (aBegin a s n) 91 (7 * s + p) = 0 ∧ aS (aBegin a s n) 89 (7 * s + p) = 1 ∧ aS (aBegin a s n) 92 (7 * s + p) = aNow a ∧ aS (aBegin a s n) 93 (7 * s + p) = 0 := by
  intro n
  induction n with
  | zero => intro p hp; omega
  | succ n ih =>
    intro p hp
    rw [aBegin_s]
    by_cases q : p = n
    · rw [q]
      exact beg1_e2
    · rw [beg1_o (by omega), beg1_o (by omega), beg1_o (by omega), beg1_o (by omega)]
      exact ih p (by omega)
theorem aBegin_o {a : AA} {s f q : Nat} : ∀ n, n ≤ 7 → (∀ p, p < 7 → q ≠ 7 * s + p) → aS (aBegin a s n) f q = aS a f q := by
  intro n
  induction n with
  | zero => exact fun _ _ => rfl
  | succ n ih =>
    intro hn hq
    rw [aBegin_s, beg1_o (hq n (by omega))]
    exact ih (by omega) hq
theorem aBegin_x {a : AA} {s : Nat} : ∀ n, ∃ X, aBegin a s n = ((X, a.1.2), a.2) := by
  intro n
  induction n with
  | zero => exact ⟨a.1.1, rfl⟩
  | succ n ih =>
    obtain ⟨X, e⟩ := ih
    rw [aBegin_s, e]
    exact ⟨_, rfl⟩
def aLed (a : AA) (s : Nat) : AA := aI (aI (aBegin (aI (aI (aI a 73 s 3) 74 s (Int32.ofNat s)) 80 s (-1)) s 7) 83 s 0) 82 s (aLast a s + 1)
theorem aLed_x {a : AA} {s : Nat} : ∃ X, aLed a s = ((X, a.1.2), a.2) := by
  obtain ⟨X, e⟩ := aBegin_x (a := aI (aI (aI a 73 s 3) 74 s (Int32.ofNat s)) 80 s (-1)) (s := s) 7
  unfold aLed
  rw [e]
  exact ⟨_, rfl⟩
theorem AFr_led {a : AA} {s : Nat} : AFr [73, 74, 80, 82, 83, 86, 87, 88, 89, 90, 91, 92, 93] [] a (aLed a s) := AFr_w (AFr_t (AFr_t (AFr_t (AFr_t (AFr_t AFr_I AFr_I) AFr_I) (AFr_begin 7)) AFr_I) AFr_I) (by decide) (by decide)
theorem csfill_v {c : CS} {cl i f p : Nat} {x : Int32} (h : p < cal c cl i f) : cI (csfill c cl i f x) cl i f p = x := (if_pos ⟨rfl, rfl, rfl⟩).trans (if_pos h)
theorem csfill_f {c : CS} {cl i f cl' i' g p : Nat} {x : Int32} (h : g ≠ f) : cI (csfill c cl i f x) cl' i' g p = cI c cl' i' g p := if_neg (fun z => h z.2.2)
theorem beginL {F : Nat} {s : Nat} {l : Int32} : ∀ n k (c : CS), 8 ≤ k + n → k ≤ 7 → (∀ p, p < k → cI c 7 s 6 p = 1 ∧ cI c 7 s 7 p = 0) → WP (k_Lead_begin_b52 F n c s l (Int32.ofNat k)) (fun c' => PX 7 s [6, 7, 8, 9, 10] c c' ∧ (∀ p, p < 7 → cI c' 7 s 6 p = 1 ∧ cI c' 7 s 7 p = 0) ∧ cI c' 7 s 8 0 = l + 1 ∧ cI c' 7 s 9 0 = 0 ∧ cI c' 7 s 10 0 = -1) := by
  intro n
  induction n with
  | zero => intro k c h1 h2; omega
  | succ n ih =>
    intro k c h1 h2 h3
    unfold k_Lead_begin_b52
    dsimp only
    by_cases q : k = 7
    · subst q
      rw [if_pos (by decide)]
      refine WP_b (WP_b (WP_b (WP_some ⟨PX_t (PX_t (PX_I (by decide)) (PX_I (by decide))) (PX_I (by decide)), fun p hp => ⟨?_, ?_⟩, ?_, ?_, csI_e⟩)))
      · exact (csI_f (by decide)).trans ((csI_f (by decide)).trans ((csI_f (by decide)).trans (h3 p hp).1))
      · exact (csI_f (by decide)).trans ((csI_f (by decide)).trans ((csI_f (by decide)).trans (h3 p hp).2))
      · exact (csI_f (by decide)).trans ((csI_f (by decide)).trans csI_e)
      · exact (csI_f (by decide)).trans csI_e
    · rw [if_neg (fun y => by
        rw [show (7 : Int32) = Int32.ofNat 7 from rfl] at y
        have := (i_gei (by omega) (by omega)).mp y
        omega)]
      refine WP_eq (cwr_n rfl (show k < 7 by omega) (by omega)) (WP_eq (cwr_n rfl (show k < 7 by omega) (by omega)) ?_)
      rw [i_s]
      refine WP_mono (ih (k + 1) _ (by omega) (by omega) (fun p hp => ⟨?_, ?_⟩)) (fun c' h' => ⟨PX_t (PX_t (PX_I (by decide)) (PX_I (by decide))) h'.1, h'.2⟩)
      · rw [csI_f (by decide)]
        by_cases z : p = k
        · rw [z, csI_e]
          decide
        · rw [csI_j z]
          exact (h3 p (by omega)).1
      · by_cases z : p = k
        · rw [z, csI_e]
          decide
        · rw [csI_j z, csI_f (by decide)]
          exact (h3 p (by omega)).2
theorem K_begin {F : Nat} {c : CS} {a : AA} {v : CV} {s : Nat} (hF8 : 8 ≤ F) (h : RC c a v) (hs : s < 7) : WP (k_Lead_begin F (csI (csI c 13 s 12 0 3) 13 s 13 0 (Int32.ofNat s)) s (aLast a s) (aNow a)) (fun c' => RC c' (aLed a s) v) := by
  have k1 : KSc (csI (csI c 13 s 12 0 3) 13 s 13 0 (Int32.ofNat s)) (aI (aI a 73 s 3) 74 s (Int32.ofNat s)) := KSc_I (by decide) (KSc_I (by decide) h.1)
  have F0 : Ck [428, 429] s c (csI (csI c 13 s 12 0 3) 13 s 13 0 (Int32.ofNat s)) := Ck_w (Ck_t (Ck_I (cl := 13) (i := s) (f := 12) (Or.inr rfl)) (Ck_I (cl := 13) (i := s) (f := 13) (Or.inr rfl))) (by decide)
  have T0 : cT (csI (csI c 13 s 12 0 3) 13 s 13 0 (Int32.ofNat s)) = cT c := rfl
  generalize csI (csI c 13 s 12 0 3) 13 s 13 0 (Int32.ofNat s) = c1 at k1 F0 T0
  unfold k_Lead_begin k_Lead_begin_b0
  refine WP_b (WP_b (WP_b (WP_b (WP_b (WP_b ?_)))))
  refine WP_mono (beginL F 0 _ (by omega) (by omega) (fun p hp => by omega)) (fun c8 h8 => ?_)
  obtain ⟨P, w67, w8, w9, w10⟩ := h8
  have P2 : PX 7 s [0, 1, 2, 3, 4, 5, 6, 7, 8, 9, 10] c1 c8 := by
    have Q : PX 7 s [0, 1, 2, 3, 4, 5, 6, 7, 8, 9, 10] c1 (csfill (csfill (csfill (csfill (csfill (csfill c1 7 s 0 (aLast a s + 1)) 7 s 1 0) 7 s 2 0) 7 s 3 0) 7 s 4 0) 7 s 5 (aNow a)) := PX_t (PX_t (PX_t (PX_t (PX_t (PX_A (by decide)) (PX_A (by decide))) (PX_A (by decide))) (PX_A (by decide))) (PX_A (by decide))) (PX_A (by decide))
    refine PX_t Q ⟨fun cl i f z => P.1 cl i f (fun u => z ⟨u.1, u.2.1, ?_⟩), P.2⟩
    exact (by decide : ∀ f ∈ [6, 7, 8, 9, 10], f ∈ [0, 1, 2, 3, 4, 5, 6, 7, 8, 9, 10]) f u.2.2
  have cv : ∀ f p, f < 6 → cI c8 7 s f p = cI (csfill (csfill (csfill (csfill (csfill (csfill c1 7 s 0 (aLast a s + 1)) 7 s 1 0) 7 s 2 0) 7 s 3 0) 7 s 4 0) 7 s 5 (aNow a)) 7 s f p := fun f p hf => (P.1 7 s f (fun u => by have := u.2.2; simp only [List.mem_cons, List.not_mem_nil, or_false] at this; omega)).1 p
  have F1 : Ck [224, 225, 226, 227, 228, 229, 230, 231, 232, 233, 234] s c1 c8 := PX_k P2 (Or.inr rfl) (by decide)
  have hF : Ck [428, 429, 224, 225, 226, 227, 228, 229, 230, 231, 232, 233, 234] s c c8 := Ck_t F0 F1
  have hT : cT c8 = cT c := P2.2.1.trans T0
  have fr := @AFr_led a s
  have e : ∀ f, f ∉ [73, 74, 80, 82, 83, 86, 87, 88, 89, 90, 91, 92, 93] → ∀ i, aS (aLed a s) f i = aS a f i := fr.1
  have e2 : ∀ f, f ∉ [80, 82, 83, 86, 87, 88, 89, 90, 91, 92, 93] → ∀ i, aS (aLed a s) f i = aS (aI (aI a 73 s 3) 74 s (Int32.ofNat s)) f i := (AFr_w (AFr_t (AFr_t (AFr_t (AFr_I (a := aI (aI a 73 s 3) 74 s (Int32.ofNat s)) (f := 80) (i := s) (v := -1)) (AFr_begin (s := s) 7)) (AFr_I (f := 83) (i := s) (v := 0))) (AFr_I (f := 82) (i := s) (v := aLast a s + 1))) (by decide) (by decide) : AFr [80, 82, 83, 86, 87, 88, 89, 90, 91, 92, 93] [] (aI (aI a 73 s 3) 74 s (Int32.ofNat s)) (aLed a s)).1
  have e80 : ∀ i, aS (aLed a s) 80 i = if i = s then -1 else aS a 80 i := by
    intro i
    have y1 : aS (aLed a s) 80 i = aS (aI (aI (aI a 73 s 3) 74 s (Int32.ofNat s)) 80 s (-1)) 80 i := (AFr_w (AFr_t (AFr_t (AFr_begin (a := aI (aI (aI a 73 s 3) 74 s (Int32.ofNat s)) 80 s (-1)) (s := s) 7) (AFr_I (f := 83) (i := s) (v := 0))) (AFr_I (f := 82) (i := s) (v := aLast a s + 1))) (by decide) (by decide) : AFr [82, 83, 86, 87, 88, 89, 90, 91, 92, 93] [] (aI (aI (aI a 73 s 3) 74 s (Int32.ofNat s)) 80 s (-1)) (aLed a s)).1 80 (by decide) i
    rw [y1]
    by_cases q : i = s
    · rw [if_pos q, q]
      exact if_pos ⟨rfl, rfl⟩
    · rw [if_neg q]
      exact if_neg (fun z => q z.2)
  have esc : KSc c8 (aLed a s) := by
    intro q hq i hi
    by_cases u : q = (80, 7, 10)
    · subst u
      show cI c8 7 i 10 0 = _
      rw [e80]
      by_cases k : i = s
      · rw [if_pos k, k, w10]
      · rw [if_neg k, (hF 7 i 10 (by decide) (Or.inr ⟨rfl, k⟩)).1 0]
        exact h.1 (80, 7, 10) hq i hi
    · obtain ⟨y1, y2⟩ := (by decide : ∀ q ∈ sT, q ≠ (80, 7, 10) → q.1 ∉ [80, 82, 83, 86, 87, 88, 89, 90, 91, 92, 93] ∧ 32 * q.2.1 + q.2.2 ∉ [224, 225, 226, 227, 228, 229, 230, 231, 232, 233, 234] ∧ q.2.2 < 32) q hq u
      rw [e2 _ y1, (F1 q.2.1 i q.2.2 y2.2 (Or.inl y2.1)).1 0]
      exact k1 q hq i hi
  have eB : ∀ f, f ≠ 82 → f ≠ 83 → ∀ i, aS (aLed a s) f i = aS (aBegin (aI (aI (aI a 73 s 3) 74 s (Int32.ofNat s)) 80 s (-1)) s 7) f i := fun f n1 n2 i => (if_neg (fun z => n1 z.1)).trans (if_neg (fun z => n2 z.1))
  have hld : ∀ t, t < 7 → aS (aLed a s) 73 t = 3 → KLd c8 (aLed a s) t := by
    intro t ht hr
    by_cases q : t = s
    · subst q
      refine ⟨w8.trans (if_pos ⟨rfl, rfl⟩).symm, w9.trans ?_, fun p hp => ?_⟩
      · have y83 : aS (aLed a t) 83 t = 0 := by
          unfold aLed
          rw [aS_If (by decide)]
          exact if_pos ⟨rfl, rfl⟩
        exact y83.symm
      · obtain ⟨b1, b2, b3, b4⟩ := @aBegin_e (aI (aI (aI a 73 t 3) 74 t (Int32.ofNat t)) 80 t (-1)) t 7 p hp
        obtain ⟨b5, b6, b7, b8⟩ := @aBegin_e2 (aI (aI (aI a 73 t 3) 74 t (Int32.ofNat t)) 80 t (-1)) t 7 p hp
        rw [eB 86 (by decide) (by decide), eB 87 (by decide) (by decide), eB 88 (by decide) (by decide), eB 90 (by decide) (by decide), eB 91 (by decide) (by decide), eB 92 (by decide) (by decide), eB 89 (by decide) (by decide), eB 93 (by decide) (by decide), b1, b2, b3, b4, b5, b6, b7, b8, cv 0 p (by omega), cv 1 p (by omega), cv 2 p (by omega), cv 3 p (by omega), cv 4 p (by omega), cv 5 p (by omega)]
        refine ⟨?_, ?_, ?_, ?_, ?_, ?_, (w67 p hp).1, (w67 p hp).2⟩
        · exact (csfill_f (by decide)).trans ((csfill_f (by decide)).trans ((csfill_f (by decide)).trans ((csfill_f (by decide)).trans ((csfill_f (by decide)).trans (csfill_v hp)))))
        · exact (csfill_f (by decide)).trans ((csfill_f (by decide)).trans ((csfill_f (by decide)).trans ((csfill_f (by decide)).trans (csfill_v hp))))
        · exact (csfill_f (by decide)).trans ((csfill_f (by decide)).trans ((csfill_f (by decide)).trans (csfill_v hp)))
        · exact (csfill_f (by decide)).trans ((csfill_f (by decide)).trans (csfill_v hp))
        · exact (csfill_f (by decide)).trans (csfill_v hp)
        · exact csfill_v hp
    · have hr' : aS a 73 t = 3 := by
        have y : aS (aLed a s) 73 t = aS (aI (aI a 73 s 3) 74 s (Int32.ofNat s)) 73 t := e2 73 (by decide) t
        rw [y] at hr
        have y2 : aS (aI (aI a 73 s 3) 74 s (Int32.ofNat s)) 73 t = aS a 73 t := by
          rw [aS_If (by decide)]
          exact if_neg (fun z => q z.2)
        exact y2.symm.trans hr
      have k := KLd_ne hF (by decide) q (h.2.2.2.1 t ht hr')
      have zB : ∀ f, f ∈ [82, 83] → aS (aBegin (aI (aI (aI a 73 s 3) 74 s (Int32.ofNat s)) 80 s (-1)) s 7) f t = aS a f t := fun f hf => (AFr_w (AFr_t (AFr_t (AFr_t (AFr_I (a := a) (f := 73) (i := s) (v := 3)) (AFr_I (f := 74) (i := s) (v := Int32.ofNat s))) (AFr_I (f := 80) (i := s) (v := -1))) (AFr_begin (s := s) 7)) (by decide) (by decide) : AFr [73, 74, 80, 86, 87, 88, 89, 90, 91, 92, 93] [] a _).1 f ((by decide : ∀ f ∈ [82, 83], f ∉ [73, 74, 80, 86, 87, 88, 89, 90, 91, 92, 93]) f hf) t
      have z82 : aS (aLed a s) 82 t = aS a 82 t := by
        unfold aLed
        rw [aS_I, if_neg (fun z => q z.2), aS_If (by decide)]
        exact zB 82 (by decide)
      have z83 : aS (aLed a s) 83 t = aS a 83 t := by
        unfold aLed
        rw [aS_If (by decide), aS_I, if_neg (fun z => q z.2)]
        exact zB 83 (by decide)
      have zf : ∀ f, f ∈ [86, 87, 88, 89, 90, 91, 92, 93] → ∀ p, p < 7 → aS (aLed a s) f (7 * t + p) = aS a f (7 * t + p) := by
        intro f hf p hp
        obtain ⟨n1, n2, n3, n4, n5⟩ := (by decide : ∀ f ∈ [86, 87, 88, 89, 90, 91, 92, 93], f ≠ 82 ∧ f ≠ 83 ∧ f ≠ 73 ∧ f ≠ 74 ∧ f ≠ 80) f hf
        rw [eB f n1 n2, aBegin_o 7 (Nat.le_refl _) (fun p' hp' => by omega), aS_If n5, aS_If n4, aS_If n3]
      obtain ⟨u1, u2, u3⟩ := k
      refine ⟨u1.trans z82.symm, u2.trans z83.symm, fun p hp => ?_⟩
      rw [zf 86 (by decide) p hp, zf 87 (by decide) p hp, zf 88 (by decide) p hp, zf 89 (by decide) p hp, zf 90 (by decide) p hp, zf 91 (by decide) p hp, zf 92 (by decide) p hp, zf 93 (by decide) p hp]
      exact u3 p hp
  obtain ⟨X, E⟩ := aLed_x (a := a) (s := s)
  rw [E] at e esc hld ⊢
  exact ⟨esc, fr_k hF (by decide) e (by decide) h.2.1, hd_k hF (by decide) e (by decide) h.2.2.1, hld, rq_k hF (by decide) e (by decide) rfl h.2.2.2.2.1, bl_k hF (by decide) e (by decide) h.2.2.2.2.2.1, da_k hF (by decide) e (by decide) rfl h.2.2.2.2.2.2.1, lw_k hF (by decide) e (by decide) h.2.2.2.2.2.2.2.1, fun s hs => KG_fr hF (by decide) (h.2.2.2.2.2.2.2.2.1 s hs), fun s hs => KPg_fr hF (by decide) (h.2.2.2.2.2.2.2.2.2.1 s hs), fun s hs => KCh_fr hF (by decide) (h.2.2.2.2.2.2.2.2.2.2.1 s hs), fun s hs => KMc_fr hF (by decide) (h.2.2.2.2.2.2.2.2.2.2.2.1 s hs), pc_k hF (by decide) e (by decide) rfl h.2.2.2.2.2.2.2.2.2.2.2.2.1, cl_k hF (by decide) e (by decide) h.2.2.2.2.2.2.2.2.2.2.2.2.2.1, fun k hk => KDn_fr hF (by decide) (h.2.2.2.2.2.2.2.2.2.2.2.2.2.2.1 k hk), KAk_fr hF (by decide) h.2.2.2.2.2.2.2.2.2.2.2.2.2.2.2.1, KFc_fr hF (by decide) h.2.2.2.2.2.2.2.2.2.2.2.2.2.2.2.2.1, id_k hF (by decide) e (by decide) h.2.2.2.2.2.2.2.2.2.2.2.2.2.2.2.2.2.1, fun k hk => KIc_fr hF (by decide) (h.2.2.2.2.2.2.2.2.2.2.2.2.2.2.2.2.2.2.1 k hk), KLt_fr hF hT (by decide) h.2.2.2.2.2.2.2.2.2.2.2.2.2.2.2.2.2.2.2.1, KRm_fr hF hT (by decide) h.2.2.2.2.2.2.2.2.2.2.2.2.2.2.2.2.2.2.2.2.1, sh_k e (by decide) rfl rfl h.2.2.2.2.2.2.2.2.2.2.2.2.2.2.2.2.2.2.2.2.2.1, nw_k e (by decide) h.2.2.2.2.2.2.2.2.2.2.2.2.2.2.2.2.2.2.2.2.2.2⟩
theorem pW_fr {a b : AA} {W T : List Nat} {s : Nat} (fr : AFr W T a b) (q : dj [55, 56] W = true) (q2 : 2 ∉ T) (q6 : 6 ∉ T) (q8 : 8 ∉ T) : (WCh a s → WCh b s) ∧ (pApp a s → pApp b s) := by
  have e55 := fr.1 55 (dj_m q (by decide)) s
  have e56 := fr.1 56 (dj_m q (by decide)) s
  have e2 := fr.2.2.2.1 q2
  have e6 := fr.2.2.2.2.2.2.2.1 q6
  have e8 := fr.2.2.2.2.2.2.2.2.2.1 q8
  refine ⟨fun w => ?_, fun w => ?_⟩
  · unfold WCh aBase aLast at w ⊢
    rw [e55, e56, e6, e8]
    exact w
  · unfold pApp aLast at w ⊢
    rw [e56, e2, e6, e8]
    exact w
/-- the lead is taken -/
def aTakeLead (a : AA) (s : Nat) : AA := if 300 ≤ aLast a s - aBase a s then A_stepDown a s (aS a 53 s) (-1) else A_append (aLed a s) s (aS a 53 s, 0, 0, 0, 0, -1)
theorem K_takeLead {F : Nat} {c : CS} {a : AA} {s : Nat} {H : List (Nat × Option AL)} {U : Nat → Int32} {N : Nat × Nat} (hF : 33 ≤ F) (h : RC c a ((H, U), N)) (hs : s < 7) (hup : aS a 52 s = 1) (hl : aLoc a) (hm : mdOK a 1) (wl : WLg a s) (wc : WCh a s) (hp : ¬ 300 ≤ aLast a s - aBase a s → pApp a s) : WP (k_Server_takeLead F c s) (fun c' => RC c' (aTakeLead a s) ((H, if 300 ≤ aLast a s - aBase a s then U else aU U s (U s ||| 4)), N)) := by
  unfold k_Server_takeLead k_Server_takeLead_b0 k_Log_length k_Log_length_b0 aTakeLead
  rw [K_r h (F := 56) (cl := 9) (f := 6) (by decide) hs, K_r h (F := 55) (cl := 9) (f := 3) (by decide) hs]
  refine WP_b ?_
  refine WP_if c2_lt (fun q => ?_) (fun q => ?_)
  · have q' : ¬ 300 ≤ aLast a s - aBase a s := fun y => Int32.not_le.mpr q y
    rw [if_neg q', if_neg q']
    refine WP_b ?_
    rw [show cI (csI c 13 s 12 0 3) 13 s 0 0 = Int32.ofNat s from (csI_f (by decide)).trans (RC_b1 h hs)]
    refine WP_b ?_
    rw [show cI (csI (csI c 13 s 12 0 3) 13 s 13 0 (Int32.ofNat s)) 9 s 6 0 = aLast a s from (csI_cl (by decide)).trans ((csI_cl (by decide)).trans (K_r h (F := 56) (cl := 9) (f := 6) (by decide) hs)), show cI (csI (csI c 13 s 12 0 3) 13 s 13 0 (Int32.ofNat s)) 14 0 0 0 = aNow a from (csI_cl (by decide)).trans ((csI_cl (by decide)).trans (K_r h (F := 1) (cl := 14) (f := 0) (by decide) (by decide)))]
    refine WP_call (K_begin (by omega) h hs) (fun c1 h1 => ?_)
    have fr := @AFr_led a s
    have e53 : aS (aLed a s) 53 s = aS a 53 s := fr.1 53 (by decide) s
    have w2 : WLg (aLed a s) s := WLg_fr fr (by decide) (by decide) wl
    obtain ⟨f1, f2⟩ := pW_fr (s := s) fr (by decide) (by decide) (by decide) (by decide)
    have hm2 : mdOK (aLed a s) 1 := mdOK_s hm (fr.1 2 (by decide) 0)
    rw [K_r h1 (F := 53) (cl := 13) (f := 10) (by decide) hs, e53]
    have key := K_ownEntry (F := F) (e := (aS a 53 s, 0, 0, 0, 0, -1)) (by omega) h1 hs w2 (f1 wc) (f2 (hp q')) (mdOK_w hm2 (by omega)) (show 0 ≤ (0 : Int32).toInt ∧ (0 : Int32).toInt ≤ 256 by decide)
    obtain ⟨c2, e2, h2⟩ := key
    refine ⟨csI c2 13 s 19 0 (cI c2 13 s 19 0 ||| 4), ?_, K_due h2 hs⟩
    cases hr : k_Log_rowOf c1 s (aS a 53 s) 0 0 0 0 (-1) with
    | none =>
      rw [show (k_Log_rowOf c1 s (aS a 53 s, (0 : Int32), (0 : Int32), (0 : Int32), (0 : Int32), (-1 : Int32)).1 (aS a 53 s, (0 : Int32), (0 : Int32), (0 : Int32), (0 : Int32), (-1 : Int32)).2.1 (aS a 53 s, (0 : Int32), (0 : Int32), (0 : Int32), (0 : Int32), (-1 : Int32)).2.2.1 (aS a 53 s, (0 : Int32), (0 : Int32), (0 : Int32), (0 : Int32), (-1 : Int32)).2.2.2.1 (aS a 53 s, (0 : Int32), (0 : Int32), (0 : Int32), (0 : Int32), (-1 : Int32)).2.2.2.2.1 (aS a 53 s, (0 : Int32), (0 : Int32), (0 : Int32), (0 : Int32), (-1 : Int32)).2.2.2.2.2) = none from hr] at e2
      exact absurd e2 (fun z => by cases (show (none : Option CS) = some c2 from z))
    | some p =>
      rw [show (k_Log_rowOf c1 s (aS a 53 s, (0 : Int32), (0 : Int32), (0 : Int32), (0 : Int32), (-1 : Int32)).1 (aS a 53 s, (0 : Int32), (0 : Int32), (0 : Int32), (0 : Int32), (-1 : Int32)).2.1 (aS a 53 s, (0 : Int32), (0 : Int32), (0 : Int32), (0 : Int32), (-1 : Int32)).2.2.1 (aS a 53 s, (0 : Int32), (0 : Int32), (0 : Int32), (0 : Int32), (-1 : Int32)).2.2.2.1 (aS a 53 s, (0 : Int32), (0 : Int32), (0 : Int32), (0 : Int32), (-1 : Int32)).2.2.2.2.1 (aS a 53 s, (0 : Int32), (0 : Int32), (0 : Int32), (0 : Int32), (-1 : Int32)).2.2.2.2.2) = some p from hr] at e2
      have e3 : k_Server_append_9_2 F p.2 s p.1 0 = some c2 := e2
      show ((k_Server_append_9_2 F p.2 s p.1 0).bind fun p16 => (some (csI p16 13 s 19 0 (cI p16 13 s 19 0 ||| 4))).bind fun σ20 => some σ20) = _
      rw [e3]
      rfl
  · have q' : 300 ≤ aLast a s - aBase a s := Int32.not_lt.mp q
    rw [if_pos q', if_pos q', K_r h (F := 53) (cl := 13) (f := 10) (by decide) hs]
    exact WP_call (K_stepDown hF h hs hup hl hm) (fun c1 h1 => WP_some h1)
/-- how far a majority has the log -/
theorem K_countMatches {F : Nat} {c : CS} {a : AA} {s : Nat} {H : List (Nat × Option AL)} {U : Nat → Int32} {N : Nat × Nat} (hF : 10 ≤ F) (h : RC c a ((H, U), N)) (hs : s < 7) (hr : aS a 73 s = 3) (wl : WLg a s) (ho : ∃ p, p < 7 ∧ aIn (aOldM (aS a 65 s)) p = true) (h0 : ∀ p, p < 7 → 0 ≤ aS a 87 (7 * s + p)) :
    WP (k_Server_countMatches F c s) (fun c' => RC c' (let n := aCommon (aS a 65 s) (fun p => aS a 87 (7 * s + p)) 7; if aS a 75 s < n ∧ aTermAt a s n = aS a 53 s then aI a 75 s n else a) ((H, let n := aCommon (aS a 65 s) (fun p => aS a 87 (7 * s + p)) 7; if aS a 75 s < n ∧ aTermAt a s n = aS a 53 s then aU U s (U s ||| 16 ||| 32) else aU U s (U s ||| 32)), N)) := by
  unfold k_Server_countMatches k_Server_countMatches_b0 k_Server_countMatches_b72
  dsimp only
  rw [K_r h (F := 73) (cl := 13) (f := 12) (by decide) hs, if_pos (c2_eq.mpr hr), K_r h (F := 65) (cl := 9) (f := 7) (by decide) hs, K_most1 (x := fun p => aS a 87 (7 * s + p)) hF (fun p hp => K_ld h hs hr (F := 87) (by decide) hp) ho h0]
  refine WP_b ?_
  generalize aCommon (aS a 65 s) (fun p => aS a 87 (7 * s + p)) 7 = n
  rw [K_r h (F := 75) (cl := 9) (f := 9) (by decide) hs]
  refine WP_if c2_le (fun q => ?_) (fun q => ?_)
  · rw [if_neg (fun z => Int32.not_le.mpr z.1 q), if_neg (fun z => Int32.not_le.mpr z.1 q)]
    exact WP_b (WP_some (K_due h hs))
  · rw [K_termAt h hs wl]
    refine WP_b ?_
    rw [K_r h (F := 53) (cl := 13) (f := 10) (by decide) hs]
    refine WP_if c2_ne (fun q2 => ?_) (fun q2 => ?_)
    · rw [if_neg (fun z => q2 z.2), if_neg (fun z => q2 z.2)]
      exact WP_b (WP_some (K_due h hs))
    · have q3 : aS a 75 s < n ∧ aTermAt a s n = aS a 53 s := ⟨Int32.not_le.mp q, Classical.not_not.mp q2⟩
      rw [if_pos q3, if_pos q3]
      have h1 := RC_I (x := n) h (F := 75) (cl := 9) (f := 9) (i := s) (by decide) (by decide)
      refine WP_b ?_
      have h2 := K_due (b := 16) h1 hs
      refine WP_b ?_
      have h3 := K_due (b := 32) h2 hs
      have eu : aU (aU U s (U s ||| 16)) s ((aU U s (U s ||| 16)) s ||| 32) = aU U s (U s ||| 16 ||| 32) := by
        funext j
        unfold aU
        by_cases z : j = s
        · rw [if_pos z, if_pos z, if_pos rfl]
        · rw [if_neg z, if_neg z, if_neg z]
      rw [eu] at h3
      exact WP_b (WP_some h3)
