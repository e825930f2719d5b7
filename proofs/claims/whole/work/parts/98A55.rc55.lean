/-! a machine is loaded from bytes -/
/-- the bytes that a machine is loaded from -/
theorem K_num11_8 {F : Nat} {c : CS} {t : Nat} {E pre w post : List Int32} {x y z : Int32} (hF : w.length + 1 ≤ F) (hE : E = pre ++ w ++ post) (hl : E.length ≤ cal c 11 t 8) (h20 : E.length ≤ 20000) (hcap : cal c 11 t 8 ≤ 30000) (hsrc : ∀ i, i < E.length → cI c 11 t 8 i = E.getD i 0) (hx : x = Int32.ofNat pre.length) (hy : y = Int32.ofNat w.length) (hz : z = Int32.ofNat E.length) : k_Machine_numberAt_11_8 F c t x y z = some (aCat w) := by
  subst hx
  subst hy
  subst hz
  have hlen : E.length = pre.length + w.length + post.length := by
    rw [hE, List.length_append, List.length_append]
  have hget : ∀ j, j < w.length → E.getD (pre.length + j) 0 = w.getD j 0 := by
    intro j hj
    rw [hE, List.append_assoc, getD_ap, if_neg (by omega), getD_ap, show pre.length + j - pre.length = j by omega, if_pos hj]
  have key : ∀ n j, w.length + 1 ≤ j + n → j ≤ w.length → k_Machine_numberAt_11_8_b6 F n c t (Int32.ofNat pre.length) (Int32.ofNat w.length) (Int32.ofNat E.length) (aCat (w.take j)) (Int32.ofNat (pre.length + j)) = some (aCat w) := by
    intro n
    induction n with
    | zero => intro j g1 g2; omega
    | succ n ih =>
      intro j g1 g2
      unfold k_Machine_numberAt_11_8_b6 k_Machine_numberAt_11_8_b49
      dsimp only
      rw [i_ad]
      by_cases q : j = w.length
      · rw [if_pos ((i_gei (by omega) (by omega)).mpr (by omega)), q, List.take_length]
      · rw [if_neg (fun u => by have := (i_gei (by omega) (by omega)).mp u; omega), if_neg (fun u => by have := (i_gei (by omega) (by omega)).mp u; omega)]
        have hcal : ¬ xc2 .ge (Int32.ofNat (pre.length + j)) (Int32.ofNat (cal c 11 t 8)) = true := fun u => by have := (i_gei (by omega) (by omega)).mp u; omega
        rw [if_neg hcal, crd_n rfl (show pre.length + j < cal c 11 t 8 by omega) (by omega), Option.bind_some, hsrc _ (by omega), hget j (by omega), i_s, Nat.add_assoc]
        have := ih (j + 1) (by omega) (by omega)
        rw [take_s (d := 0) (by omega)] at this
        have e : aCat (w.take j ++ [w.getD j 0]) = (aCat (w.take j) <<< ((8 : Int32) &&& 31)) ||| (w.getD j 0 &&& 255) := by
          unfold aCat
          rw [List.foldl_append]
          rfl
        rw [e] at this
        exact this
  have := key F 0 (by omega) (Nat.zero_le _)
  rw [Nat.add_zero] at this
  exact this
theorem srcP11_8 {c c2 : CS} {t s : Nat} {E : List Int32} {fs : List Nat} (P : PX 10 s fs c c2) (hl : E.length ≤ cal c 11 t 8) (hcap : cal c 11 t 8 ≤ 30000) (hsrc : ∀ i, i < E.length → cI c 11 t 8 i = E.getD i 0) : E.length ≤ cal c2 11 t 8 ∧ cal c2 11 t 8 ≤ 30000 ∧ ∀ i, i < E.length → cI c2 11 t 8 i = E.getD i 0 := by
  have e : cal c2 11 t 8 = cal c 11 t 8 := PX_cL P
  rw [e]
  exact ⟨hl, hcap, fun i hi => (PX_c P (by decide)).trans (hsrc i hi)⟩
/-- sessions are loaded -/
theorem K_ldSes11_8 {F : Nat} {c : CS} {s t : Nat} {E post : List Int32} {S : List AN} (hF : 200 ≤ F) (hE : E = a4 (Int32.ofNat S.length) ++ S.flatMap sEnc ++ post) (hl : E.length ≤ cal c 11 t 8) (h20 : E.length ≤ 20000) (hcap : cal c 11 t 8 ≤ 30000) (hsrc : ∀ i, i < E.length → cI c 11 t 8 i = E.getD i 0) (w : shN S) (h1 : cI c 10 s 1 0 = 0) : WP (k_Machine_loadSessions_11_8 F c s t (Int32.ofNat E.length)) (fun p => p.1 = Int32.ofNat (4 + (S.flatMap sEnc).length) ∧ PX 10 s [1, 2, 3] c p.2 ∧ cI p.2 10 s 1 0 = Int32.ofNat S.length ∧ KSs p.2 s S) := by
  have h16 := w.1
  have e4 : ∀ v : Int32, (a4 v).length = 4 := fun _ => rfl
  have hlen : E.length = 4 + (S.flatMap sEnc).length + post.length := by
    rw [hE, List.length_append, List.length_append, e4]
  unfold k_Machine_loadSessions_11_8 k_Machine_loadSessions_11_8_b0
  refine WP_eq (K_num11_8 (pre := []) (w := a4 (Int32.ofNat S.length)) (post := S.flatMap sEnc ++ post) (by rw [e4]; omega) (by rw [hE, List.nil_append, List.append_assoc]) hl h20 hcap hsrc rfl rfl rfl) ?_
  rw [aCat_4]
  have key : ∀ n i c2, S.length + 1 ≤ i + n → i ≤ S.length → PX 10 s [1, 2, 3] c c2 → cI c2 10 s 1 0 = Int32.ofNat i → (∀ j, j < i → KS1 c2 s j (S.getD j aN0)) → WP (k_Machine_loadSessions_11_8_b14 F n c2 s t (Int32.ofNat E.length) (Int32.ofNat S.length) (Int32.ofNat (4 + ((S.take i).flatMap sEnc).length)) (Int32.ofNat i)) (fun p => p.1 = Int32.ofNat (4 + (S.flatMap sEnc).length) ∧ PX 10 s [1, 2, 3] c p.2 ∧ cI p.2 10 s 1 0 = Int32.ofNat S.length ∧ KSs p.2 s S) := by
    intro n
    induction n with
    | zero => intro i c2 g1 g2; omega
    | succ n ih =>
      intro i c2 g1 g2 P g4 g5
      unfold k_Machine_loadSessions_11_8_b14 k_Machine_loadSessions_11_8_b173 k_Machine_loadSessions_11_8_b70
      dsimp only
      by_cases q : i = S.length
      · rw [if_pos ((i_gei (by omega) (by omega)).mpr (by omega))]
        subst q
        rw [List.take_length]
        exact WP_some ⟨rfl, P, g4, KSs_m g5⟩
      · have hi : i < S.length := by omega
        have ft := flat_take (f := sEnc) (d := aN0) hi
        have fl : ((S.take (i + 1)).flatMap sEnc).length ≤ (S.flatMap sEnc).length := flat_le
        have fs := flat_split (f := sEnc) (d := aN0) hi
        have ih1 := ih (i + 1)
        rw [ft] at fl ih1
        rw [List.length_append, sEnc_l] at fl ih1
        have yl := shN_get w hi
        -- the bytes ahead, of it, behind
        have hE2 : E = (a4 (Int32.ofNat S.length) ++ (S.take i).flatMap sEnc) ++ sEnc (S.getD i aN0) ++ ((S.drop (i + 1)).flatMap sEnc ++ post) := by
          rw [hE, fs]
          simp only [List.append_assoc]
        have hx : S.getD i aN0 = S.getD i aN0 := rfl
        generalize eX : S.getD i aN0 = x at fl ih1 yl hE2
        have lB : (a4 (Int32.ofNat S.length) ++ (S.take i).flatMap sEnc).length = 4 + ((S.take i).flatMap sEnc).length := by rw [List.length_append, e4]
        rw [← lB]
        generalize (S.drop (i + 1)).flatMap sEnc ++ post = R at hE2
        generalize ((S.take i).flatMap sEnc).length = z at fl ih1 lB
        generalize a4 (Int32.ofNat S.length) ++ (S.take i).flatMap sEnc = B at hE2 lB
        have hB : B.length + 18 + x.2.2.2.2.length ≤ E.length := by omega
        obtain ⟨s1, s2, s3⟩ := srcP11_8 P hl hcap hsrc
        rw [if_neg (fun u => by have := (i_gei (by omega) (by omega)).mp u; omega), if_neg (fun u => by
          rw [show (16 : Int32) = Int32.ofNat 16 from rfl] at u
          have := (i_gei (by omega) (by omega)).mp u
          omega), show Int32.ofNat B.length + 18 = Int32.ofNat (B.length + 18) from i_ad (s := 18), if_neg (fun u => by
          have u := c2_gt.mp u
          rw [Int32.lt_iff_toInt_lt, Int32.toInt_ofNat_of_lt (by omega), Int32.toInt_ofNat_of_lt (by omega)] at u
          omega), show Int32.ofNat (B.length + 18) - 2 = Int32.ofNat (B.length + 16) from i_subn (q := 2) (by omega)]
        have ex : sEnc x = (a4 x.1 ++ a4 x.2.1 ++ a4 x.2.2.1 ++ a4 x.2.2.2.1) ++ [aLow8 (Int32.ofNat x.2.2.2.2.length >>> 8), aLow8 (Int32.ofNat x.2.2.2.2.length)] ++ x.2.2.2.2 := by
          unfold sEnc
          rfl
        have el16 : (a4 x.1 ++ a4 x.2.1 ++ a4 x.2.2.1 ++ a4 x.2.2.2.1).length = 16 := rfl
        have n5 := K_num11_8 (F := F) (pre := B ++ (a4 x.1 ++ a4 x.2.1 ++ a4 x.2.2.1 ++ a4 x.2.2.2.1)) (w := [aLow8 (Int32.ofNat x.2.2.2.2.length >>> 8), aLow8 (Int32.ofNat x.2.2.2.2.length)]) (post := x.2.2.2.2 ++ R) (x := Int32.ofNat (B.length + 16)) (y := 2) (by show 2 + 1 ≤ F; omega) (by rw [hE2, ex]; simp only [List.append_assoc]) s1 h20 s2 s3 (by rw [List.length_append, el16]) rfl rfl
        rw [aCat_2 (by omega)] at n5
        refine WP_eq n5 ?_
        rw [if_neg (fun u => by
          have u := c2_gt.mp u
          rw [show (101 : Int32) = Int32.ofNat 101 from rfl, Int32.lt_iff_toInt_lt, Int32.toInt_ofNat_of_lt (by omega), Int32.toInt_ofNat_of_lt (by omega)] at u
          omega), i_ad, if_pos ((i_lei (by omega) (by omega)).mpr (by omega))]
        obtain ⟨k, hk⟩ : ∃ k, F = k + 5 := ⟨F - 5, by omega⟩
        rw [i_50]
        have step0 : ∀ G, k_Machine_loadSessions_11_8_b81 F G F c2 s t = k_Machine_loadSessions_11_8_b81 F G (k + 5) c2 s t := fun G => by rw [← hk]
        rw [step0]
        -- the four numbers
        have e1 : E = (B ++ []) ++ a4 x.1 ++ (a4 x.2.1 ++ a4 x.2.2.1 ++ a4 x.2.2.2.1 ++ [aLow8 (Int32.ofNat x.2.2.2.2.length >>> 8), aLow8 (Int32.ofNat x.2.2.2.2.length)] ++ x.2.2.2.2 ++ R) := by
          rw [hE2, ex]
          simp only [List.append_assoc, List.nil_append]
        have e2 : E = (B ++ a4 x.1) ++ a4 x.2.1 ++ (a4 x.2.2.1 ++ a4 x.2.2.2.1 ++ [aLow8 (Int32.ofNat x.2.2.2.2.length >>> 8), aLow8 (Int32.ofNat x.2.2.2.2.length)] ++ x.2.2.2.2 ++ R) := by
          rw [hE2, ex]
          simp only [List.append_assoc]
        have e3 : E = (B ++ a4 x.1 ++ a4 x.2.1) ++ a4 x.2.2.1 ++ (a4 x.2.2.2.1 ++ [aLow8 (Int32.ofNat x.2.2.2.2.length >>> 8), aLow8 (Int32.ofNat x.2.2.2.2.length)] ++ x.2.2.2.2 ++ R) := by
          rw [hE2, ex]
          simp only [List.append_assoc]
        have e5 : E = (B ++ a4 x.1 ++ a4 x.2.1 ++ a4 x.2.2.1) ++ a4 x.2.2.2.1 ++ ([aLow8 (Int32.ofNat x.2.2.2.2.length >>> 8), aLow8 (Int32.ofNat x.2.2.2.2.length)] ++ x.2.2.2.2 ++ R) := by
          rw [hE2, ex]
          simp only [List.append_assoc]
        have nu : ∀ {c3 : CS} (m : Nat) (pre v post), m < 5 → PX 10 s [1, 2, 3] c c3 → E = pre ++ a4 v ++ post → pre.length = B.length + 4 * m → k_Machine_numberAt_11_8 F c3 t (Int32.ofNat B.length + 4 * Int32.ofNat m) 4 (Int32.ofNat E.length) = some v := fun {c3} m pre v post hm P3 hE3 hp => by
          obtain ⟨y1, y2, y3⟩ := srcP11_8 P3 hl hcap hsrc
          have := K_num11_8 (F := F) (pre := pre) (w := a4 v) (post := post) (x := Int32.ofNat B.length + 4 * Int32.ofNat m) (y := 4) (by rw [e4]; omega) hE3 y1 h20 y2 y3 (by rw [hp, show (4 : Int32) = Int32.ofNat 4 from rfl, i_mc, i_ad]) rfl rfl
          rw [aCat_4] at this
          exact this
        unfold k_Machine_loadSessions_11_8_b81
        dsimp only
        rw [if_neg (show ¬ xc2 .ge (0 : Int32) 4 = true by decide)]
        refine WP_eq (nu 0 _ x.1 _ (by omega) P e1 (by rw [List.length_append]; rfl)) ?_
        refine WP_eq (cwr_n (n := 5 * i + 0) (i_ad (s := 0)) (show 5 * i + 0 < 80 by omega) (by omega)) ?_
        have P1 := PX_t P (PX_I (f := 2) (j := 5 * i + 0) (x := x.1) (c := c2) (K := 10) (I := s) (fs := [1, 2, 3]) (by decide))
        rw [show (0 : Int32) + 1 = 1 by decide]
        unfold k_Machine_loadSessions_11_8_b81
        dsimp only
        rw [if_neg (show ¬ xc2 .ge (1 : Int32) 4 = true by decide)]
        refine WP_eq (nu 1 _ x.2.1 _ (by omega) P1 e2 (by rw [List.length_append]; rfl)) ?_
        refine WP_eq (cwr_n (n := 5 * i + 1) (i_ad (s := 1)) (show 5 * i + 1 < 80 by omega) (by omega)) ?_
        have P2 := PX_t P1 (PX_I (f := 2) (j := 5 * i + 1) (x := x.2.1) (c := csI c2 10 s 2 (5 * i + 0) x.1) (K := 10) (I := s) (fs := [1, 2, 3]) (by decide))
        rw [show (1 : Int32) + 1 = 2 by decide]
        unfold k_Machine_loadSessions_11_8_b81
        dsimp only
        rw [if_neg (show ¬ xc2 .ge (2 : Int32) 4 = true by decide)]
        refine WP_eq (nu 2 _ x.2.2.1 _ (by omega) P2 e3 (by rw [List.length_append, List.length_append]; rfl)) ?_
        refine WP_eq (cwr_n (n := 5 * i + 2) (i_ad (s := 2)) (show 5 * i + 2 < 80 by omega) (by omega)) ?_
        have P3 := PX_t P2 (PX_I (f := 2) (j := 5 * i + 2) (x := x.2.2.1) (c := csI (csI c2 10 s 2 (5 * i + 0) x.1) 10 s 2 (5 * i + 1) x.2.1) (K := 10) (I := s) (fs := [1, 2, 3]) (by decide))
        rw [show (2 : Int32) + 1 = 3 by decide]
        unfold k_Machine_loadSessions_11_8_b81
        dsimp only
        rw [if_neg (show ¬ xc2 .ge (3 : Int32) 4 = true by decide)]
        refine WP_eq (nu 3 _ x.2.2.2.1 _ (by omega) P3 e5 (by rw [List.length_append, List.length_append, List.length_append]; rfl)) ?_
        refine WP_eq (cwr_n (n := 5 * i + 3) (i_ad (s := 3)) (show 5 * i + 3 < 80 by omega) (by omega)) ?_
        have P4 := PX_t P3 (PX_I (f := 2) (j := 5 * i + 3) (x := x.2.2.2.1) (c := csI (csI (csI c2 10 s 2 (5 * i + 0) x.1) 10 s 2 (5 * i + 1) x.2.1) 10 s 2 (5 * i + 2) x.2.2.1) (K := 10) (I := s) (fs := [1, 2, 3]) (by decide))
        rw [show (3 : Int32) + 1 = 4 by decide]
        unfold k_Machine_loadSessions_11_8_b81
        dsimp only
        rw [if_pos (show xc2 .ge (4 : Int32) 4 = true by decide)]
        refine WP_eq (cwr_n (n := 5 * i + 4) (i_ad (s := 4)) (show 5 * i + 4 < 80 by omega) (by omega)) ?_
        have P5 := PX_t P4 (PX_I (f := 2) (j := 5 * i + 4) (x := Int32.ofNat x.2.2.2.2.length) (c := csI (csI (csI (csI c2 10 s 2 (5 * i + 0) x.1) 10 s 2 (5 * i + 1) x.2.1) 10 s 2 (5 * i + 2) x.2.2.1) 10 s 2 (5 * i + 3) x.2.2.2.1) (K := 10) (I := s) (fs := [1, 2, 3]) (by decide))
        have r2 : ∀ m, cI (csI (csI (csI (csI (csI c2 10 s 2 (5 * i + 0) x.1) 10 s 2 (5 * i + 1) x.2.1) 10 s 2 (5 * i + 2) x.2.2.1) 10 s 2 (5 * i + 3) x.2.2.2.1) 10 s 2 (5 * i + 4) (Int32.ofNat x.2.2.2.2.length)) 10 s 2 m = if m = 5 * i + 4 then Int32.ofNat x.2.2.2.2.length else if m = 5 * i + 3 then x.2.2.2.1 else if m = 5 * i + 2 then x.2.2.1 else if m = 5 * i + 1 then x.2.1 else if m = 5 * i + 0 then x.1 else cI c2 10 s 2 m := by
          intro m
          by_cases z4 : m = 5 * i + 4
          · rw [if_pos z4, z4, csI_e]
          · rw [if_neg z4, csI_j z4]
            by_cases z3 : m = 5 * i + 3
            · rw [if_pos z3, z3, csI_e]
            · rw [if_neg z3, csI_j z3]
              by_cases z2 : m = 5 * i + 2
              · rw [if_pos z2, z2, csI_e]
              · rw [if_neg z2, csI_j z2]
                by_cases z1 : m = 5 * i + 1
                · rw [if_pos z1, z1, csI_e]
                · rw [if_neg z1, csI_j z1]
                  by_cases z0 : m = 5 * i + 0
                  · rw [if_pos z0, z0, csI_e]
                  · rw [if_neg z0, csI_j z0]
        have ro : ∀ g m, g ≠ 2 → cI (csI (csI (csI (csI (csI c2 10 s 2 (5 * i + 0) x.1) 10 s 2 (5 * i + 1) x.2.1) 10 s 2 (5 * i + 2) x.2.2.1) 10 s 2 (5 * i + 3) x.2.2.2.1) 10 s 2 (5 * i + 4) (Int32.ofNat x.2.2.2.2.length)) 10 s g m = cI c2 10 s g m := fun g m hg => (csI_f hg).trans ((csI_f hg).trans ((csI_f hg).trans ((csI_f hg).trans (csI_f hg))))
        generalize csI (csI (csI (csI (csI c2 10 s 2 (5 * i + 0) x.1) 10 s 2 (5 * i + 1) x.2.1) 10 s 2 (5 * i + 2) x.2.2.1) 10 s 2 (5 * i + 3) x.2.2.2.1) 10 s 2 (5 * i + 4) (Int32.ofNat x.2.2.2.2.length) = c3 at P5 r2 ro
        obtain ⟨y1, y2, y3⟩ := srcP11_8 P5 hl hcap hsrc
        rw [show Int32.ofNat B.length + 18 = Int32.ofNat (B.length + 18) from i_ad (s := 18), i_101]
        refine WP_eq (ccpy_n (s := B.length + 18) (t := 101 * i) (n := x.2.2.2.2.length) rfl rfl rfl (by omega) (show 101 * i + x.2.2.2.2.length ≤ 1616 by omega) (by omega) (by omega)) (WP_b ?_)
        have P6 := PX_t P5 (PX_A (f := 3) (x := fun w => if 101 * i ≤ w ∧ w < 101 * i + x.2.2.2.2.length then cI c3 11 t 8 (B.length + 18 + (w - 101 * i)) else cI c3 10 s 3 w) (c := c3) (K := 10) (I := s) (fs := [1, 2, 3]) (by decide))
        have q3 : ∀ m, cI (csA c3 10 s 3 (fun w => if 101 * i ≤ w ∧ w < 101 * i + x.2.2.2.2.length then cI c3 11 t 8 (B.length + 18 + (w - 101 * i)) else cI c3 10 s 3 w)) 10 s 3 m = if 101 * i ≤ m ∧ m < 101 * i + x.2.2.2.2.length then cI c3 11 t 8 (B.length + 18 + (m - 101 * i)) else cI c3 10 s 3 m := fun m => cI_A
        have qo : ∀ g m, g ≠ 3 → cI (csA c3 10 s 3 (fun w => if 101 * i ≤ w ∧ w < 101 * i + x.2.2.2.2.length then cI c3 11 t 8 (B.length + 18 + (w - 101 * i)) else cI c3 10 s 3 w)) 10 s g m = cI c3 10 s g m := fun g m hg => cI_Ao hg
        generalize csA c3 10 s 3 (fun w => if 101 * i ≤ w ∧ w < 101 * i + x.2.2.2.2.length then cI c3 11 t 8 (B.length + 18 + (w - 101 * i)) else cI c3 10 s 3 w) = c4 at P6 q3 qo
        rw [qo 1 0 (by decide), ro 1 0 (by decide), g4, i_s]
        have en : Int32.ofNat B.length + ((18 : Int32) + Int32.ofNat x.2.2.2.2.length) = Int32.ofNat (4 + (z + (18 + x.2.2.2.2.length))) := by
          rw [show (18 : Int32) = Int32.ofNat 18 from rfl, i_ad, i_ad]
          congr 1
          omega
        rw [en]
        have hby : ∀ j, j < x.2.2.2.2.length → E.getD (B.length + 18 + j) 0 = x.2.2.2.2.getD j 0 := by
          intro j hj
          have e6 : E = (B ++ (a4 x.1 ++ a4 x.2.1 ++ a4 x.2.2.1 ++ a4 x.2.2.2.1 ++ [aLow8 (Int32.ofNat x.2.2.2.2.length >>> 8), aLow8 (Int32.ofNat x.2.2.2.2.length)])) ++ (x.2.2.2.2 ++ R) := by
            rw [hE2, ex]
            simp only [List.append_assoc]
          have l6 : (B ++ (a4 x.1 ++ a4 x.2.1 ++ a4 x.2.2.1 ++ a4 x.2.2.2.1 ++ [aLow8 (Int32.ofNat x.2.2.2.2.length >>> 8), aLow8 (Int32.ofNat x.2.2.2.2.length)])).length = B.length + 18 := by
            rw [List.length_append]
            rfl
          rw [e6, getD_ap, if_neg (by omega), l6, getD_ap, show B.length + 18 + j - (B.length + 18) = j by omega, if_pos hj]
        refine ih1 _ (by omega) (by omega) (PX_t P6 (PX_I (by decide))) csI_e (fun j hj => ?_)
        by_cases zj : j = i
        · rw [zj, eX]
          refine ⟨?_, ?_, ?_, ?_, ?_, fun m hm => ?_⟩
          · rw [csI_f (by decide), qo 2 _ (by decide), r2, if_neg (by omega), if_neg (by omega), if_neg (by omega), if_neg (by omega), if_pos (by omega)]
          · rw [csI_f (by decide), qo 2 _ (by decide), r2, if_neg (by omega), if_neg (by omega), if_neg (by omega), if_pos rfl]
          · rw [csI_f (by decide), qo 2 _ (by decide), r2, if_neg (by omega), if_neg (by omega), if_pos rfl]
          · rw [csI_f (by decide), qo 2 _ (by decide), r2, if_neg (by omega), if_pos rfl]
          · rw [csI_f (by decide), qo 2 _ (by decide), r2, if_pos rfl]
          · rw [csI_f (by decide), q3, if_pos (by omega), show 101 * i + m - 101 * i = m by omega, y3 _ (by omega)]
            exact hby m hm
        · refine KS1_o (g5 j (by omega)) (shN_get w (by omega)) (fun m hm => ?_) (fun m hm => ?_)
          · rw [csI_f (by decide), qo 2 _ (by decide), r2, if_neg (by omega), if_neg (by omega), if_neg (by omega), if_neg (by omega), if_neg (by omega)]
          · rw [csI_f (by decide), q3, if_neg (by omega), ro 3 _ (by decide)]
  have := key F 0 c (by omega) (Nat.zero_le _) PX_r (h1.trans rfl) (fun j hj => absurd hj (Nat.not_lt_zero _))
  rw [List.take_zero, List.flatMap_nil] at this
  exact this
/-- a machine is loaded -/
theorem K_load11_8 {F : Nat} {c : CS} {s t : Nat} {M M0 : AM} (hF : 200 ≤ F) (h0 : KM0 c s M0) (w : wfM M) (wS : shN M.1) (hl : (aEnc M).length ≤ cal c 11 t 8) (hcap : cal c 11 t 8 ≤ 30000) (hsrc : ∀ i, i < (aEnc M).length → cI c 11 t 8 i = (aEnc M).getD i 0) : WP (k_Machine_load_11_8 F c s t (Int32.ofNat (aEnc M).length)) (fun c' => PX 10 s [1, 2, 3, 4, 5, 7, 8, 9] c c' ∧ KM0 c' s M) := by
  have hle := aEnc_len w
  have h128 := w.2.1
  have hsh := shL_wf w
  have e4 : ∀ v : Int32, (a4 v).length = 4 := fun _ => rfl
  obtain ⟨_, _, _, _, f, ⟨f1, f2⟩, f3, _⟩ := KM0_f h0
  have hE : aEnc M = a4 (Int32.ofNat M.1.length) ++ M.1.flatMap sEnc ++ (a4 (Int32.ofNat M.2.length) ++ M.2.flatMap kEnc) := by
    rw [aEnc_e, List.append_assoc]
  have hlen : (aEnc M).length = 4 + (M.1.flatMap sEnc).length + 4 + (M.2.flatMap kEnc).length := by
    rw [aEnc_e, List.length_append, List.length_append, List.length_append, e4, e4]
  have hE2 : aEnc M = (a4 (Int32.ofNat M.1.length) ++ M.1.flatMap sEnc) ++ a4 (Int32.ofNat M.2.length) ++ M.2.flatMap kEnc := aEnc_e
  have hEk : ∀ i, i < M.2.length → aEnc M = (a4 (Int32.ofNat M.1.length) ++ M.1.flatMap sEnc ++ a4 (Int32.ofNat M.2.length) ++ (M.2.take i).flatMap kEnc) ++ kEnc (M.2.getD i ([], [])) ++ (M.2.drop (i + 1)).flatMap kEnc := by
    intro i hi
    rw [hE2, flat_split (f := kEnc) (d := ([], [])) hi]
    simp only [List.append_assoc]
  generalize aEnc M = E at hl hsrc hE hE2 hlen hEk hle
  unfold k_Machine_load_11_8 k_Machine_load_11_8_b0 k_Machine_clear k_Machine_clear_b0
  refine WP_b (WP_b (WP_b (WP_b ?_)))
  have P0 : PX 10 s [1, 2, 3, 4, 5, 7, 8, 9] c (csI (csI (csI c 10 s 1 0 0) 10 s 4 0 0) 10 s 5 0 0) := PX_t (PX_t (PX_I (by decide)) (PX_I (by decide))) (PX_I (by decide))
  have x1 : cI (csI (csI (csI c 10 s 1 0 0) 10 s 4 0 0) 10 s 5 0 0) 10 s 1 0 = 0 := (csI_f (by decide)).trans ((csI_f (by decide)).trans csI_e)
  have x4 : cI (csI (csI (csI c 10 s 1 0 0) 10 s 4 0 0) 10 s 5 0 0) 10 s 4 0 = 0 := (csI_f (by decide)).trans csI_e
  have x5 : cI (csI (csI (csI c 10 s 1 0 0) 10 s 4 0 0) 10 s 5 0 0) 10 s 5 0 = 0 := csI_e
  generalize csI (csI (csI c 10 s 1 0 0) 10 s 4 0 0) 10 s 5 0 0 = c0 at P0 x1 x4 x5
  obtain ⟨s1, s2, s3⟩ := srcP11_8 P0 hl hcap hsrc
  refine WP_call (K_ldSes11_8 hF hE s1 (by omega) s2 s3 wS x1) (fun p hp => ?_)
  obtain ⟨p1, P1, y1, yS⟩ := hp
  have PA : PX 10 s [1, 2, 3, 4, 5, 7, 8, 9] c p.2 := PX_t P0 (PX_w P1 (by decide))
  have y4 : cI p.2 10 s 4 0 = 0 := (PX_o P1 (by decide)).trans x4
  have y5 : cI p.2 10 s 5 0 = 0 := (PX_o P1 (by decide)).trans x5
  obtain ⟨t1, t2, t3⟩ := srcP11_8 PA hl hcap hsrc
  rw [p1]
  have lA : (a4 (Int32.ofNat M.1.length) ++ M.1.flatMap sEnc).length = 4 + (M.1.flatMap sEnc).length := by rw [List.length_append, e4]
  have nk := K_num11_8 (F := F) (pre := a4 (Int32.ofNat M.1.length) ++ M.1.flatMap sEnc) (w := a4 (Int32.ofNat M.2.length)) (post := M.2.flatMap kEnc) (x := Int32.ofNat (4 + (M.1.flatMap sEnc).length)) (y := 4) (by rw [e4]; omega) hE2 t1 (by omega) t2 t3 (by rw [lA]) rfl rfl
  rw [aCat_4] at nk
  refine WP_eq nk ?_
  have key : ∀ n i c2, M.2.length + 1 ≤ i + n → i ≤ M.2.length → PX 10 s [4, 5, 7, 8, 9] p.2 c2 → cI c2 10 s 4 0 = Int32.ofNat i → cI c2 10 s 5 0 = Int32.ofNat (aUnits (M.1, M.2.take i)) → KMs c2 s (M.2.take i) f → WP (k_Machine_load_11_8_b26 F n c2 s t (Int32.ofNat E.length) (Int32.ofNat (4 + (M.1.flatMap sEnc).length + 4 + ((M.2.take i).flatMap kEnc).length)) (Int32.ofNat M.2.length) (Int32.ofNat i)) (fun c' => PX 10 s [1, 2, 3, 4, 5, 7, 8, 9] c c' ∧ KM0 c' s M) := by
    intro n
    induction n with
    | zero => intro i c2 g1 g2; omega
    | succ n ih =>
      intro i c2 g1 g2 P g4 g5 g6
      unfold k_Machine_load_11_8_b26 k_Machine_load_11_8_b203 k_Machine_load_11_8_b96
      dsimp only
      by_cases q : i = M.2.length
      · rw [if_pos ((i_gei (by omega) (by omega)).mpr (by omega))]
        subst q
        rw [List.take_length] at g5 g6
        exact WP_some ⟨PX_t PA (PX_w P (by decide)), KM0_b h128 ((PX_o P (by decide)).trans y1) g4 g5 (KSs_o yS (fun j => PX_o P (by decide)) (fun j => PX_o P (by decide))) g6⟩
      · have hi : i < M.2.length := by omega
        have ft := flat_take (f := kEnc) (d := ([], [])) hi
        have fl : ((M.2.take (i + 1)).flatMap kEnc).length ≤ (M.2.flatMap kEnc).length := flat_le
        have ih1 := ih (i + 1)
        have eT : M.2.take (i + 1) = M.2.take i ++ [M.2.getD i ([], [])] := take_s hi
        rw [ft] at fl ih1
        rw [List.length_append, kEnc_l] at fl ih1
        obtain ⟨yl1, yl2⟩ := hsh.2 i hi
        have hEi := hEk i hi
        have hun : aUnits (M.1, M.2.take (i + 1)) = aUnits (M.1, M.2.take i) + aUnit (M.2.getD i ([], [])).1.length (M.2.getD i ([], [])).2.length := by
          unfold aUnits
          show ((M.2.take (i + 1)).map _).sum = ((M.2.take i).map _).sum + _
          rw [eT, un_app]
          rfl
        have hul : aUnits (M.1, M.2.take i) ≤ 9 * 128 := by
          have hwl : wfM (M.1, M.2.take i) := ⟨⟨w.1.1, by
            have : aUnits (M.1, M.2.take i) ≤ aUnits M := by
              unfold aUnits
              conv => rhs; rw [← List.take_append_drop i M.2]
              rw [un_app]
              exact Nat.le_add_right _ _
            exact Nat.le_trans this w.1.2⟩, by show (M.2.take i).length ≤ 128; rw [List.length_take]; omega, w.2.2.1, fun e he => w.2.2.2 e (List.mem_of_mem_take he)⟩
          have := hwl.1.2
          omega
        have hshT : shL (M.2.take (i + 1)) := by
          refine ⟨by rw [List.length_take]; omega, fun j hj => ?_⟩
          rw [List.length_take] at hj
          have e : (M.2.take (i + 1)).getD j ([], []) = M.2.getD j ([], []) := by
            rw [List.getD_eq_getElem?_getD, List.getD_eq_getElem?_getD, List.getElem?_take, if_pos (by omega)]
          rw [e]
          exact hsh.2 j (by omega)
        have hgT : ∀ j, j < i + 1 → (M.2.take (i + 1)).getD j ([], []) = M.2.getD j ([], []) := by
          intro j hj
          rw [List.getD_eq_getElem?_getD, List.getD_eq_getElem?_getD, List.getElem?_take, if_pos hj]
        have hgT0 : ∀ j, j < i → (M.2.take i).getD j ([], []) = M.2.getD j ([], []) := by
          intro j hj
          rw [List.getD_eq_getElem?_getD, List.getD_eq_getElem?_getD, List.getElem?_take, if_pos hj]
        have lenT : (M.2.take i).length = i := by
          rw [List.length_take]
          omega
        have lenT1 : (M.2.take (i + 1)).length = i + 1 := by
          rw [List.length_take]
          omega
        generalize eX : M.2.getD i ([], []) = x at fl ih1 yl1 yl2 hEi hun
        have lB : (a4 (Int32.ofNat M.1.length) ++ M.1.flatMap sEnc ++ a4 (Int32.ofNat M.2.length) ++ (M.2.take i).flatMap kEnc).length = 4 + (M.1.flatMap sEnc).length + 4 + ((M.2.take i).flatMap kEnc).length := by
          rw [List.length_append, List.length_append, List.length_append, e4, e4]
        rw [← lB]
        generalize (M.2.drop (i + 1)).flatMap kEnc = R at hEi
        generalize ((M.2.take i).flatMap kEnc).length = z at fl ih1 lB
        generalize a4 (Int32.ofNat M.1.length) ++ M.1.flatMap sEnc ++ a4 (Int32.ofNat M.2.length) ++ (M.2.take i).flatMap kEnc = B at hEi lB
        obtain ⟨u1, u2, u3⟩ := srcP11_8 (PX_t PA (PX_w P (gs := [1, 2, 3, 4, 5, 7, 8, 9]) (by decide))) hl hcap hsrc
        have ek : kEnc x = [aLow8 (Int32.ofNat x.1.length)] ++ [aLow8 (Int32.ofNat x.2.length >>> 8), aLow8 (Int32.ofNat x.2.length)] ++ x.1 ++ x.2 := rfl
        rw [if_neg (fun u => by have := (i_gei (by omega) (by omega)).mp u; omega), if_neg (fun u => by
          rw [show (128 : Int32) = Int32.ofNat 128 from rfl] at u
          have := (i_gei (by omega) (by omega)).mp u
          omega), show Int32.ofNat B.length + 3 = Int32.ofNat (B.length + 3) from i_ad (s := 3), if_neg (fun u => by
          have u := c2_gt.mp u
          rw [Int32.lt_iff_toInt_lt, Int32.toInt_ofNat_of_lt (by omega), Int32.toInt_ofNat_of_lt (by omega)] at u
          omega)]
        have n1 := K_num11_8 (F := F) (pre := B) (w := [aLow8 (Int32.ofNat x.1.length)]) (post := [aLow8 (Int32.ofNat x.2.length >>> 8), aLow8 (Int32.ofNat x.2.length)] ++ x.1 ++ x.2 ++ R) (x := Int32.ofNat B.length) (y := 1) (by show 1 + 1 ≤ F; omega) (by rw [hEi, ek]; simp only [List.append_assoc]) u1 (by omega) u2 u3 rfl rfl rfl
        rw [aCat_1 (by omega)] at n1
        have n2 := K_num11_8 (F := F) (pre := B ++ [aLow8 (Int32.ofNat x.1.length)]) (w := [aLow8 (Int32.ofNat x.2.length >>> 8), aLow8 (Int32.ofNat x.2.length)]) (post := x.1 ++ x.2 ++ R) (x := Int32.ofNat B.length + 1) (y := 2) (by show 2 + 1 ≤ F; omega) (by rw [hEi, ek]; simp only [List.append_assoc]) u1 (by omega) u2 u3 (by rw [List.length_append]; exact i_ad (s := 1)) rfl rfl
        rw [aCat_2 (by omega)] at n2
        refine WP_eq n1 (WP_eq n2 ?_)
        rw [if_neg (fun u => by
          have u := c2_gt.mp u
          rw [show (32 : Int32) = Int32.ofNat 32 from rfl, Int32.lt_iff_toInt_lt, Int32.toInt_ofNat_of_lt (by omega), Int32.toInt_ofNat_of_lt (by omega)] at u
          omega), if_neg (fun u => by
          have u := c2_gt.mp u
          rw [show (100 : Int32) = Int32.ofNat 100 from rfl, Int32.lt_iff_toInt_lt, Int32.toInt_ofNat_of_lt (by omega), Int32.toInt_ofNat_of_lt (by omega)] at u
          omega), i_ad, i_ad, i_ad, if_pos ((i_lei (by omega) (by omega)).mpr (by omega))]
        have hq := f1 i (by omega)
        refine WP_eq (crd_n rfl (show i < 128 by omega) (by omega)) ?_
        rw [g6.2.1 i (by omega)]
        refine WP_eq (cwr_n rfl (show f i < 128 from hq) (by omega)) (WP_eq (cwr_n rfl (show f i < 128 from hq) (by omega)) ?_)
        have Pa : PX 10 s [4, 5, 7, 8, 9] c2 (csI (csI c2 10 s 7 (f i) (Int32.ofNat x.1.length)) 10 s 8 (f i) (Int32.ofNat x.2.length)) := PX_t (PX_I (by decide)) (PX_I (by decide))
        have a7 : ∀ m, cI (csI (csI c2 10 s 7 (f i) (Int32.ofNat x.1.length)) 10 s 8 (f i) (Int32.ofNat x.2.length)) 10 s 7 m = if m = f i then Int32.ofNat x.1.length else cI c2 10 s 7 m := by
          intro m
          rw [csI_f (by decide)]
          by_cases y : m = f i
          · rw [if_pos y, y, csI_e]
          · rw [if_neg y, csI_j y]
        have a8 : ∀ m, cI (csI (csI c2 10 s 7 (f i) (Int32.ofNat x.1.length)) 10 s 8 (f i) (Int32.ofNat x.2.length)) 10 s 8 m = if m = f i then Int32.ofNat x.2.length else cI c2 10 s 8 m := by
          intro m
          by_cases y : m = f i
          · rw [if_pos y, y, csI_e]
          · rw [if_neg y, csI_j y, csI_f (by decide)]
        have ao : ∀ g m, g ≠ 7 → g ≠ 8 → cI (csI (csI c2 10 s 7 (f i) (Int32.ofNat x.1.length)) 10 s 8 (f i) (Int32.ofNat x.2.length)) 10 s g m = cI c2 10 s g m := fun g m h7 h8 => (csI_f h8).trans (csI_f h7)
        generalize csI (csI c2 10 s 7 (f i) (Int32.ofNat x.1.length)) 10 s 8 (f i) (Int32.ofNat x.2.length) = c3 at Pa a7 a8 ao
        obtain ⟨v1, v2, v3⟩ := srcP11_8 Pa u1 u2 u3
        rw [i_132, show Int32.ofNat (132 * f i) + 32 = Int32.ofNat (132 * f i + 32) from i_ad (s := 32)]
        refine WP_eq (ccpy_n (s := B.length + 3) (t := 132 * f i) (n := x.1.length) rfl rfl rfl (by omega) (show 132 * f i + x.1.length ≤ 16896 by omega) (by omega) (by omega)) ?_
        have Pb := PX_t Pa (PX_A (f := 9) (x := fun w => if 132 * f i ≤ w ∧ w < 132 * f i + x.1.length then cI c3 11 t 8 (B.length + 3 + (w - 132 * f i)) else cI c3 10 s 9 w) (c := c3) (K := 10) (I := s) (fs := [4, 5, 7, 8, 9]) (by decide))
        have b9 : ∀ m, cI (csA c3 10 s 9 (fun w => if 132 * f i ≤ w ∧ w < 132 * f i + x.1.length then cI c3 11 t 8 (B.length + 3 + (w - 132 * f i)) else cI c3 10 s 9 w)) 10 s 9 m = if 132 * f i ≤ m ∧ m < 132 * f i + x.1.length then cI c3 11 t 8 (B.length + 3 + (m - 132 * f i)) else cI c2 10 s 9 m := fun m => by
          rw [cI_A, ao 9 _ (by decide) (by decide)]
        have bo : ∀ g m, g ≠ 9 → cI (csA c3 10 s 9 (fun w => if 132 * f i ≤ w ∧ w < 132 * f i + x.1.length then cI c3 11 t 8 (B.length + 3 + (w - 132 * f i)) else cI c3 10 s 9 w)) 10 s g m = cI c3 10 s g m := fun g m hg => cI_Ao hg
        generalize csA c3 10 s 9 (fun w => if 132 * f i ≤ w ∧ w < 132 * f i + x.1.length then cI c3 11 t 8 (B.length + 3 + (w - 132 * f i)) else cI c3 10 s 9 w) = c4 at Pb b9 bo
        obtain ⟨o1, o2, o3⟩ := srcP11_8 Pb u1 u2 u3
        refine WP_eq (ccpy_n (s := B.length + 3 + x.1.length) (t := 132 * f i + 32) (n := x.2.length) rfl rfl rfl (by omega) (show 132 * f i + 32 + x.2.length ≤ 16896 by omega) (by omega) (by omega)) (WP_b ?_)
        have Pc := PX_t Pb (PX_A (f := 9) (x := fun w => if 132 * f i + 32 ≤ w ∧ w < 132 * f i + 32 + x.2.length then cI c4 11 t 8 (B.length + 3 + x.1.length + (w - (132 * f i + 32))) else cI c4 10 s 9 w) (c := c4) (K := 10) (I := s) (fs := [4, 5, 7, 8, 9]) (by decide))
        have d9 : ∀ m, cI (csA c4 10 s 9 (fun w => if 132 * f i + 32 ≤ w ∧ w < 132 * f i + 32 + x.2.length then cI c4 11 t 8 (B.length + 3 + x.1.length + (w - (132 * f i + 32))) else cI c4 10 s 9 w)) 10 s 9 m = if 132 * f i + 32 ≤ m ∧ m < 132 * f i + 32 + x.2.length then cI c4 11 t 8 (B.length + 3 + x.1.length + (m - (132 * f i + 32))) else cI c4 10 s 9 m := fun m => cI_A
        have do9 : ∀ g m, g ≠ 9 → cI (csA c4 10 s 9 (fun w => if 132 * f i + 32 ≤ w ∧ w < 132 * f i + 32 + x.2.length then cI c4 11 t 8 (B.length + 3 + x.1.length + (w - (132 * f i + 32))) else cI c4 10 s 9 w)) 10 s g m = cI c4 10 s g m := fun g m hg => cI_Ao hg
        generalize csA c4 10 s 9 (fun w => if 132 * f i + 32 ≤ w ∧ w < 132 * f i + 32 + x.2.length then cI c4 11 t 8 (B.length + 3 + x.1.length + (w - (132 * f i + 32))) else cI c4 10 s 9 w) = c5 at Pc d9 do9
        rw [do9 4 0 (by decide), bo 4 0 (by decide), ao 4 0 (by decide) (by decide), g4, i_s]
        have Pd : PX 10 s [4, 5, 7, 8, 9] c2 (csI c5 10 s 4 0 (Int32.ofNat (i + 1))) := PX_t Pc (PX_I (by decide))
        have hb1 : ∀ j, j < x.1.length → E.getD (B.length + 3 + j) 0 = x.1.getD j 0 := by
          intro j hj
          have e6 : E = (B ++ ([aLow8 (Int32.ofNat x.1.length)] ++ [aLow8 (Int32.ofNat x.2.length >>> 8), aLow8 (Int32.ofNat x.2.length)])) ++ (x.1 ++ (x.2 ++ R)) := by
            rw [hEi, ek]
            simp only [List.append_assoc]
          have l6 : (B ++ ([aLow8 (Int32.ofNat x.1.length)] ++ [aLow8 (Int32.ofNat x.2.length >>> 8), aLow8 (Int32.ofNat x.2.length)])).length = B.length + 3 := by
            rw [List.length_append]
            rfl
          rw [e6, getD_ap, if_neg (by omega), l6, getD_ap, show B.length + 3 + j - (B.length + 3) = j by omega, if_pos hj]
        have hb2 : ∀ j, j < x.2.length → E.getD (B.length + 3 + x.1.length + j) 0 = x.2.getD j 0 := by
          intro j hj
          have e6 : E = (B ++ ([aLow8 (Int32.ofNat x.1.length)] ++ [aLow8 (Int32.ofNat x.2.length >>> 8), aLow8 (Int32.ofNat x.2.length)]) ++ x.1) ++ (x.2 ++ R) := by
            rw [hEi, ek]
            simp only [List.append_assoc]
          have l6 : (B ++ ([aLow8 (Int32.ofNat x.1.length)] ++ [aLow8 (Int32.ofNat x.2.length >>> 8), aLow8 (Int32.ofNat x.2.length)]) ++ x.1).length = B.length + 3 + x.1.length := by
            rw [List.length_append, List.length_append]
            rfl
          rw [e6, getD_ap, if_neg (by omega), l6, getD_ap, show B.length + 3 + x.1.length + j - (B.length + 3 + x.1.length) = j by omega, if_pos hj]
        have hK : KMs (csI c5 10 s 4 0 (Int32.ofNat (i + 1))) s (M.2.take (i + 1)) f := by
          refine ⟨⟨f1, f2⟩, fun m hm => (PX_o Pd (by decide)).trans (g6.2.1 m hm), fun j hj => ?_⟩
          rw [lenT1] at hj
          rw [hgT j hj]
          by_cases zj : j = i
          · rw [zj, eX]
            refine ⟨?_, ?_, fun m hm => ?_, fun m hm => ?_⟩
            · rw [csI_f (by decide), do9 7 _ (by decide), bo 7 _ (by decide), a7, if_pos rfl]
            · rw [csI_f (by decide), do9 8 _ (by decide), bo 8 _ (by decide), a8, if_pos rfl]
            · rw [csI_f (by decide), d9, if_neg (by omega), b9, if_pos (by omega), show 132 * f i + m - 132 * f i = m by omega, v3 _ (by omega)]
              exact hb1 m hm
            · rw [csI_f (by decide), d9, if_pos (by omega), show 132 * f i + 32 + m - (132 * f i + 32) = m by omega, o3 _ (by omega)]
              exact hb2 m hm
          · obtain ⟨k7, k8, k9, k10⟩ := g6.2.2 j (by rw [lenT]; omega)
            rw [hgT0 j (by omega)] at k7 k8 k9 k10
            obtain ⟨l1, l2⟩ := hsh.2 j (by omega)
            have hne : f j ≠ f i := fun y => zj (f2 j i (by omega) (by omega) y)
            refine ⟨?_, ?_, fun m hm => ?_, fun m hm => ?_⟩
            · rw [csI_f (by decide), do9 7 _ (by decide), bo 7 _ (by decide), a7, if_neg hne]
              exact k7
            · rw [csI_f (by decide), do9 8 _ (by decide), bo 8 _ (by decide), a8, if_neg hne]
              exact k8
            · rw [csI_f (by decide), d9, if_neg (by omega), b9, if_neg (by omega)]
              exact k9 m hm
            · rw [csI_f (by decide), d9, if_neg (by omega), b9, if_neg (by omega)]
              exact k10 m hm
        have hu := K_units hK hshT (i := i) (by omega)
        rw [hgT i (by omega), eX] at hu
        refine WP_eq hu (WP_b ?_)
        have u5 : cI (csI c5 10 s 4 0 (Int32.ofNat (i + 1))) 10 s 5 0 = Int32.ofNat (aUnits (M.1, M.2.take i)) := by
          rw [csI_f (by decide), do9 5 0 (by decide), bo 5 0 (by decide), ao 5 0 (by decide) (by decide), g5]
        rw [u5, i_ad, ← hun, i_ad]
        have en : B.length + 3 + (x.1.length + x.2.length) = 4 + (M.1.flatMap sEnc).length + 4 + (z + (3 + x.1.length + x.2.length)) := by omega
        rw [en]
        exact ih1 _ (by omega) (by omega) (PX_t P (PX_t Pd (PX_I (by decide)))) ((csI_f (by decide)).trans csI_e) csI_e (KMs_o hK (fun g hg m => csI_f (by omega)))
  have l8 : Int32.ofNat (4 + (M.1.flatMap sEnc).length) + 4 = Int32.ofNat (4 + (M.1.flatMap sEnc).length + 4) := i_ad (s := 4)
  rw [l8]
  have := key F 0 p.2 (by omega) (Nat.zero_le _) PX_r (y4.trans rfl) (y5.trans rfl) ⟨⟨f1, f2⟩, fun m hm => (PX_o PA (by decide)).trans (f3 m hm), fun j hj => absurd hj (by rw [List.take_zero]; exact Nat.not_lt_zero _)⟩
  rw [List.take_zero, List.flatMap_nil] at this
  exact this
/-- the bytes that a machine is loaded from -/
theorem K_num13_18 {F : Nat} {c : CS} {t : Nat} {E pre w post : List Int32} {x y z : Int32} (hF : w.length + 1 ≤ F) (hE : E = pre ++ w ++ post) (hl : E.length ≤ cal c 13 t 18) (h20 : E.length ≤ 20000) (hcap : cal c 13 t 18 ≤ 30000) (hsrc : ∀ i, i < E.length → cI c 13 t 18 i = E.getD i 0) (hx : x = Int32.ofNat pre.length) (hy : y = Int32.ofNat w.length) (hz : z = Int32.ofNat E.length) : k_Machine_numberAt_13_18 F c t x y z = some (aCat w) := by
  subst hx
  subst hy
  subst hz
  have hlen : E.length = pre.length + w.length + post.length := by
    rw [hE, List.length_append, List.length_append]
  have hget : ∀ j, j < w.length → E.getD (pre.length + j) 0 = w.getD j 0 := by
    intro j hj
    rw [hE, List.append_assoc, getD_ap, if_neg (by omega), getD_ap, show pre.length + j - pre.length = j by omega, if_pos hj]
  have key : ∀ n j, w.length + 1 ≤ j + n → j ≤ w.length → k_Machine_numberAt_13_18_b6 F n c t (Int32.ofNat pre.length) (Int32.ofNat w.length) (Int32.ofNat E.length) (aCat (w.take j)) (Int32.ofNat (pre.length + j)) = some (aCat w) := by
    intro n
    induction n with
    | zero => intro j g1 g2; omega
    | succ n ih =>
      intro j g1 g2
      unfold k_Machine_numberAt_13_18_b6 k_Machine_numberAt_13_18_b49
      dsimp only
      rw [i_ad]
      by_cases q : j = w.length
      · rw [if_pos ((i_gei (by omega) (by omega)).mpr (by omega)), q, List.take_length]
      · rw [if_neg (fun u => by have := (i_gei (by omega) (by omega)).mp u; omega), if_neg (fun u => by have := (i_gei (by omega) (by omega)).mp u; omega)]
        have hcal : ¬ xc2 .ge (Int32.ofNat (pre.length + j)) (Int32.ofNat (cal c 13 t 18)) = true := fun u => by have := (i_gei (by omega) (by omega)).mp u; omega
        rw [if_neg hcal, crd_n rfl (show pre.length + j < cal c 13 t 18 by omega) (by omega), Option.bind_some, hsrc _ (by omega), hget j (by omega), i_s, Nat.add_assoc]
        have := ih (j + 1) (by omega) (by omega)
        rw [take_s (d := 0) (by omega)] at this
        have e : aCat (w.take j ++ [w.getD j 0]) = (aCat (w.take j) <<< ((8 : Int32) &&& 31)) ||| (w.getD j 0 &&& 255) := by
          unfold aCat
          rw [List.foldl_append]
          rfl
        rw [e] at this
        exact this
  have := key F 0 (by omega) (Nat.zero_le _)
  rw [Nat.add_zero] at this
  exact this
theorem srcP13_18 {c c2 : CS} {t s : Nat} {E : List Int32} {fs : List Nat} (P : PX 10 s fs c c2) (hl : E.length ≤ cal c 13 t 18) (hcap : cal c 13 t 18 ≤ 30000) (hsrc : ∀ i, i < E.length → cI c 13 t 18 i = E.getD i 0) : E.length ≤ cal c2 13 t 18 ∧ cal c2 13 t 18 ≤ 30000 ∧ ∀ i, i < E.length → cI c2 13 t 18 i = E.getD i 0 := by
  have e : cal c2 13 t 18 = cal c 13 t 18 := PX_cL P
  rw [e]
  exact ⟨hl, hcap, fun i hi => (PX_c P (by decide)).trans (hsrc i hi)⟩
/-- sessions are loaded -/
theorem K_ldSes13_18 {F : Nat} {c : CS} {s t : Nat} {E post : List Int32} {S : List AN} (hF : 200 ≤ F) (hE : E = a4 (Int32.ofNat S.length) ++ S.flatMap sEnc ++ post) (hl : E.length ≤ cal c 13 t 18) (h20 : E.length ≤ 20000) (hcap : cal c 13 t 18 ≤ 30000) (hsrc : ∀ i, i < E.length → cI c 13 t 18 i = E.getD i 0) (w : shN S) (h1 : cI c 10 s 1 0 = 0) : WP (k_Machine_loadSessions_13_18 F c s t (Int32.ofNat E.length)) (fun p => p.1 = Int32.ofNat (4 + (S.flatMap sEnc).length) ∧ PX 10 s [1, 2, 3] c p.2 ∧ cI p.2 10 s 1 0 = Int32.ofNat S.length ∧ KSs p.2 s S) := by
  have h16 := w.1
  have e4 : ∀ v : Int32, (a4 v).length = 4 := fun _ => rfl
  have hlen : E.length = 4 + (S.flatMap sEnc).length + post.length := by
    rw [hE, List.length_append, List.length_append, e4]
  unfold k_Machine_loadSessions_13_18 k_Machine_loadSessions_13_18_b0
  refine WP_eq (K_num13_18 (pre := []) (w := a4 (Int32.ofNat S.length)) (post := S.flatMap sEnc ++ post) (by rw [e4]; omega) (by rw [hE, List.nil_append, List.append_assoc]) hl h20 hcap hsrc rfl rfl rfl) ?_
  rw [aCat_4]
  have key : ∀ n i c2, S.length + 1 ≤ i + n → i ≤ S.length → PX 10 s [1, 2, 3] c c2 → cI c2 10 s 1 0 = Int32.ofNat i → (∀ j, j < i → KS1 c2 s j (S.getD j aN0)) → WP (k_Machine_loadSessions_13_18_b14 F n c2 s t (Int32.ofNat E.length) (Int32.ofNat S.length) (Int32.ofNat (4 + ((S.take i).flatMap sEnc).length)) (Int32.ofNat i)) (fun p => p.1 = Int32.ofNat (4 + (S.flatMap sEnc).length) ∧ PX 10 s [1, 2, 3] c p.2 ∧ cI p.2 10 s 1 0 = Int32.ofNat S.length ∧ KSs p.2 s S) := by
    intro n
    induction n with
    | zero => intro i c2 g1 g2; omega
    | succ n ih =>
      intro i c2 g1 g2 P g4 g5
      unfold k_Machine_loadSessions_13_18_b14 k_Machine_loadSessions_13_18_b173 k_Machine_loadSessions_13_18_b70
      dsimp only
      by_cases q : i = S.length
      · rw [if_pos ((i_gei (by omega) (by omega)).mpr (by omega))]
        subst q
        rw [List.take_length]
        exact WP_some ⟨rfl, P, g4, KSs_m g5⟩
      · have hi : i < S.length := by omega
        have ft := flat_take (f := sEnc) (d := aN0) hi
        have fl : ((S.take (i + 1)).flatMap sEnc).length ≤ (S.flatMap sEnc).length := flat_le
        have fs := flat_split (f := sEnc) (d := aN0) hi
        have ih1 := ih (i + 1)
        rw [ft] at fl ih1
        rw [List.length_append, sEnc_l] at fl ih1
        have yl := shN_get w hi
        -- the bytes ahead, of it, behind
        have hE2 : E = (a4 (Int32.ofNat S.length) ++ (S.take i).flatMap sEnc) ++ sEnc (S.getD i aN0) ++ ((S.drop (i + 1)).flatMap sEnc ++ post) := by
          rw [hE, fs]
          simp only [List.append_assoc]
        have hx : S.getD i aN0 = S.getD i aN0 := rfl
        generalize eX : S.getD i aN0 = x at fl ih1 yl hE2
        have lB : (a4 (Int32.ofNat S.length) ++ (S.take i).flatMap sEnc).length = 4 + ((S.take i).flatMap sEnc).length := by rw [List.length_append, e4]
        rw [← lB]
        generalize (S.drop (i + 1)).flatMap sEnc ++ post = R at hE2
        generalize ((S.take i).flatMap sEnc).length = z at fl ih1 lB
        generalize a4 (Int32.ofNat S.length) ++ (S.take i).flatMap sEnc = B at hE2 lB
        have hB : B.length + 18 + x.2.2.2.2.length ≤ E.length := by omega
        obtain ⟨s1, s2, s3⟩ := srcP13_18 P hl hcap hsrc
        rw [if_neg (fun u => by have := (i_gei (by omega) (by omega)).mp u; omega), if_neg (fun u => by
          rw [show (16 : Int32) = Int32.ofNat 16 from rfl] at u
          have := (i_gei (by omega) (by omega)).mp u
          omega), show Int32.ofNat B.length + 18 = Int32.ofNat (B.length + 18) from i_ad (s := 18), if_neg (fun u => by
          have u := c2_gt.mp u
          rw [Int32.lt_iff_toInt_lt, Int32.toInt_ofNat_of_lt (by omega), Int32.toInt_ofNat_of_lt (by omega)] at u
          omega), show Int32.ofNat (B.length + 18) - 2 = Int32.ofNat (B.length + 16) from i_subn (q := 2) (by omega)]
        have ex : sEnc x = (a4 x.1 ++ a4 x.2.1 ++ a4 x.2.2.1 ++ a4 x.2.2.2.1) ++ [aLow8 (Int32.ofNat x.2.2.2.2.length >>> 8), aLow8 (Int32.ofNat x.2.2.2.2.length)] ++ x.2.2.2.2 := by
          unfold sEnc
          rfl
        have el16 : (a4 x.1 ++ a4 x.2.1 ++ a4 x.2.2.1 ++ a4 x.2.2.2.1).length = 16 := rfl
        have n5 := K_num13_18 (F := F) (pre := B ++ (a4 x.1 ++ a4 x.2.1 ++ a4 x.2.2.1 ++ a4 x.2.2.2.1)) (w := [aLow8 (Int32.ofNat x.2.2.2.2.length >>> 8), aLow8 (Int32.ofNat x.2.2.2.2.length)]) (post := x.2.2.2.2 ++ R) (x := Int32.ofNat (B.length + 16)) (y := 2) (by show 2 + 1 ≤ F; omega) (by rw [hE2, ex]; simp only [List.append_assoc]) s1 h20 s2 s3 (by rw [List.length_append, el16]) rfl rfl
        rw [aCat_2 (by omega)] at n5
        refine WP_eq n5 ?_
        rw [if_neg (fun u => by
          have u := c2_gt.mp u
          rw [show (101 : Int32) = Int32.ofNat 101 from rfl, Int32.lt_iff_toInt_lt, Int32.toInt_ofNat_of_lt (by omega), Int32.toInt_ofNat_of_lt (by omega)] at u
          omega), i_ad, if_pos ((i_lei (by omega) (by omega)).mpr (by omega))]
        obtain ⟨k, hk⟩ : ∃ k, F = k + 5 := ⟨F - 5, by omega⟩
        rw [i_50]
        have step0 : ∀ G, k_Machine_loadSessions_13_18_b81 F G F c2 s t = k_Machine_loadSessions_13_18_b81 F G (k + 5) c2 s t := fun G => by rw [← hk]
        rw [step0]
        -- the four numbers
        have e1 : E = (B ++ []) ++ a4 x.1 ++ (a4 x.2.1 ++ a4 x.2.2.1 ++ a4 x.2.2.2.1 ++ [aLow8 (Int32.ofNat x.2.2.2.2.length >>> 8), aLow8 (Int32.ofNat x.2.2.2.2.length)] ++ x.2.2.2.2 ++ R) := by
          rw [hE2, ex]
          simp only [List.append_assoc, List.nil_append]
        have e2 : E = (B ++ a4 x.1) ++ a4 x.2.1 ++ (a4 x.2.2.1 ++ a4 x.2.2.2.1 ++ [aLow8 (Int32.ofNat x.2.2.2.2.length >>> 8), aLow8 (Int32.ofNat x.2.2.2.2.length)] ++ x.2.2.2.2 ++ R) := by
          rw [hE2, ex]
          simp only [List.append_assoc]
        have e3 : E = (B ++ a4 x.1 ++ a4 x.2.1) ++ a4 x.2.2.1 ++ (a4 x.2.2.2.1 ++ [aLow8 (Int32.ofNat x.2.2.2.2.length >>> 8), aLow8 (Int32.ofNat x.2.2.2.2.length)] ++ x.2.2.2.2 ++ R) := by
          rw [hE2, ex]
          simp only [List.append_assoc]
        have e5 : E = (B ++ a4 x.1 ++ a4 x.2.1 ++ a4 x.2.2.1) ++ a4 x.2.2.2.1 ++ ([aLow8 (Int32.ofNat x.2.2.2.2.length >>> 8), aLow8 (Int32.ofNat x.2.2.2.2.length)] ++ x.2.2.2.2 ++ R) := by
          rw [hE2, ex]
          simp only [List.append_assoc]
        have nu : ∀ {c3 : CS} (m : Nat) (pre v post), m < 5 → PX 10 s [1, 2, 3] c c3 → E = pre ++ a4 v ++ post → pre.length = B.length + 4 * m → k_Machine_numberAt_13_18 F c3 t (Int32.ofNat B.length + 4 * Int32.ofNat m) 4 (Int32.ofNat E.length) = some v := fun {c3} m pre v post hm P3 hE3 hp => by
          obtain ⟨y1, y2, y3⟩ := srcP13_18 P3 hl hcap hsrc
          have := K_num13_18 (F := F) (pre := pre) (w := a4 v) (post := post) (x := Int32.ofNat B.length + 4 * Int32.ofNat m) (y := 4) (by rw [e4]; omega) hE3 y1 h20 y2 y3 (by rw [hp, show (4 : Int32) = Int32.ofNat 4 from rfl, i_mc, i_ad]) rfl rfl
          rw [aCat_4] at this
          exact this
        unfold k_Machine_loadSessions_13_18_b81
        dsimp only
        rw [if_neg (show ¬ xc2 .ge (0 : Int32) 4 = true by decide)]
        refine WP_eq (nu 0 _ x.1 _ (by omega) P e1 (by rw [List.length_append]; rfl)) ?_
        refine WP_eq (cwr_n (n := 5 * i + 0) (i_ad (s := 0)) (show 5 * i + 0 < 80 by omega) (by omega)) ?_
        have P1 := PX_t P (PX_I (f := 2) (j := 5 * i + 0) (x := x.1) (c := c2) (K := 10) (I := s) (fs := [1, 2, 3]) (by decide))
        rw [show (0 : Int32) + 1 = 1 by decide]
        unfold k_Machine_loadSessions_13_18_b81
        dsimp only
        rw [if_neg (show ¬ xc2 .ge (1 : Int32) 4 = true by decide)]
        refine WP_eq (nu 1 _ x.2.1 _ (by omega) P1 e2 (by rw [List.length_append]; rfl)) ?_
        refine WP_eq (cwr_n (n := 5 * i + 1) (i_ad (s := 1)) (show 5 * i + 1 < 80 by omega) (by omega)) ?_
        have P2 := PX_t P1 (PX_I (f := 2) (j := 5 * i + 1) (x := x.2.1) (c := csI c2 10 s 2 (5 * i + 0) x.1) (K := 10) (I := s) (fs := [1, 2, 3]) (by decide))
        rw [show (1 : Int32) + 1 = 2 by decide]
        unfold k_Machine_loadSessions_13_18_b81
        dsimp only
        rw [if_neg (show ¬ xc2 .ge (2 : Int32) 4 = true by decide)]
        refine WP_eq (nu 2 _ x.2.2.1 _ (by omega) P2 e3 (by rw [List.length_append, List.length_append]; rfl)) ?_
        refine WP_eq (cwr_n (n := 5 * i + 2) (i_ad (s := 2)) (show 5 * i + 2 < 80 by omega) (by omega)) ?_
        have P3 := PX_t P2 (PX_I (f := 2) (j := 5 * i + 2) (x := x.2.2.1) (c := csI (csI c2 10 s 2 (5 * i + 0) x.1) 10 s 2 (5 * i + 1) x.2.1) (K := 10) (I := s) (fs := [1, 2, 3]) (by decide))
        rw [show (2 : Int32) + 1 = 3 by decide]
        unfold k_Machine_loadSessions_13_18_b81
        dsimp only
        rw [if_neg (show ¬ xc2 .ge (3 : Int32) 4 = true by decide)]
        refine WP_eq (nu 3 _ x.2.2.2.1 _ (by omega) P3 e5 (by rw [List.length_append, List.length_append, List.length_append]; rfl)) ?_
        refine WP_eq (cwr_n (n := 5 * i + 3) (i_ad (s := 3)) (show 5 * i + 3 < 80 by omega) (by omega)) ?_
        have P4 := PX_t P3 (PX_I (f := 2) (j := 5 * i + 3) (x := x.2.2.2.1) (c := csI (csI (csI c2 10 s 2 (5 * i + 0) x.1) 10 s 2 (5 * i + 1) x.2.1) 10 s 2 (5 * i + 2) x.2.2.1) (K := 10) (I := s) (fs := [1, 2, 3]) (by decide))
        rw [show (3 : Int32) + 1 = 4 by decide]
        unfold k_Machine_loadSessions_13_18_b81
        dsimp only
        rw [if_pos (show xc2 .ge (4 : Int32) 4 = true by decide)]
        refine WP_eq (cwr_n (n := 5 * i + 4) (i_ad (s := 4)) (show 5 * i + 4 < 80 by omega) (by omega)) ?_
        have P5 := PX_t P4 (PX_I (f := 2) (j := 5 * i + 4) (x := Int32.ofNat x.2.2.2.2.length) (c := csI (csI (csI (csI c2 10 s 2 (5 * i + 0) x.1) 10 s 2 (5 * i + 1) x.2.1) 10 s 2 (5 * i + 2) x.2.2.1) 10 s 2 (5 * i + 3) x.2.2.2.1) (K := 10) (I := s) (fs := [1, 2, 3]) (by decide))
        have r2 : ∀ m, cI (csI (csI (csI (csI (csI c2 10 s 2 (5 * i + 0) x.1) 10 s 2 (5 * i + 1) x.2.1) 10 s 2 (5 * i + 2) x.2.2.1) 10 s 2 (5 * i + 3) x.2.2.2.1) 10 s 2 (5 * i + 4) (Int32.ofNat x.2.2.2.2.length)) 10 s 2 m = if m = 5 * i + 4 then Int32.ofNat x.2.2.2.2.length else if m = 5 * i + 3 then x.2.2.2.1 else if m = 5 * i + 2 then x.2.2.1 else if m = 5 * i + 1 then x.2.1 else if m = 5 * i + 0 then x.1 else cI c2 10 s 2 m := by
          intro m
          by_cases z4 : m = 5 * i + 4
          · rw [if_pos z4, z4, csI_e]
          · rw [if_neg z4, csI_j z4]
            by_cases z3 : m = 5 * i + 3
            · rw [if_pos z3, z3, csI_e]
            · rw [if_neg z3, csI_j z3]
              by_cases z2 : m = 5 * i + 2
              · rw [if_pos z2, z2, csI_e]
              · rw [if_neg z2, csI_j z2]
                by_cases z1 : m = 5 * i + 1
                · rw [if_pos z1, z1, csI_e]
                · rw [if_neg z1, csI_j z1]
                  by_cases z0 : m = 5 * i + 0
                  · rw [if_pos z0, z0, csI_e]
                  · rw [if_neg z0, csI_j z0]
        have ro : ∀ g m, g ≠ 2 → cI (csI (csI (csI (csI (csI c2 10 s 2 (5 * i + 0) x.1) 10 s 2 (5 * i + 1) x.2.1) 10 s 2 (5 * i + 2) x.2.2.1) 10 s 2 (5 * i + 3) x.2.2.2.1) 10 s 2 (5 * i + 4) (Int32.ofNat x.2.2.2.2.length)) 10 s g m = cI c2 10 s g m := fun g m hg => (csI_f hg).trans ((csI_f hg).trans ((csI_f hg).trans ((csI_f hg).trans (csI_f hg))))
        generalize csI (csI (csI (csI (csI c2 10 s 2 (5 * i + 0) x.1) 10 s 2 (5 * i + 1) x.2.1) 10 s 2 (5 * i + 2) x.2.2.1) 10 s 2 (5 * i + 3) x.2.2.2.1) 10 s 2 (5 * i + 4) (Int32.ofNat x.2.2.2.2.length) = c3 at P5 r2 ro
        obtain ⟨y1, y2, y3⟩ := srcP13_18 P5 hl hcap hsrc
        rw [show Int32.ofNat B.length + 18 = Int32.ofNat (B.length + 18) from i_ad (s := 18), i_101]
        refine WP_eq (ccpy_n (s := B.length + 18) (t := 101 * i) (n := x.2.2.2.2.length) rfl rfl rfl (by omega) (show 101 * i + x.2.2.2.2.length ≤ 1616 by omega) (by omega) (by omega)) (WP_b ?_)
        have P6 := PX_t P5 (PX_A (f := 3) (x := fun w => if 101 * i ≤ w ∧ w < 101 * i + x.2.2.2.2.length then cI c3 13 t 18 (B.length + 18 + (w - 101 * i)) else cI c3 10 s 3 w) (c := c3) (K := 10) (I := s) (fs := [1, 2, 3]) (by decide))
        have q3 : ∀ m, cI (csA c3 10 s 3 (fun w => if 101 * i ≤ w ∧ w < 101 * i + x.2.2.2.2.length then cI c3 13 t 18 (B.length + 18 + (w - 101 * i)) else cI c3 10 s 3 w)) 10 s 3 m = if 101 * i ≤ m ∧ m < 101 * i + x.2.2.2.2.length then cI c3 13 t 18 (B.length + 18 + (m - 101 * i)) else cI c3 10 s 3 m := fun m => cI_A
        have qo : ∀ g m, g ≠ 3 → cI (csA c3 10 s 3 (fun w => if 101 * i ≤ w ∧ w < 101 * i + x.2.2.2.2.length then cI c3 13 t 18 (B.length + 18 + (w - 101 * i)) else cI c3 10 s 3 w)) 10 s g m = cI c3 10 s g m := fun g m hg => cI_Ao hg
        generalize csA c3 10 s 3 (fun w => if 101 * i ≤ w ∧ w < 101 * i + x.2.2.2.2.length then cI c3 13 t 18 (B.length + 18 + (w - 101 * i)) else cI c3 10 s 3 w) = c4 at P6 q3 qo
        rw [qo 1 0 (by decide), ro 1 0 (by decide), g4, i_s]
        have en : Int32.ofNat B.length + ((18 : Int32) + Int32.ofNat x.2.2.2.2.length) = Int32.ofNat (4 + (z + (18 + x.2.2.2.2.length))) := by
          rw [show (18 : Int32) = Int32.ofNat 18 from rfl, i_ad, i_ad]
          congr 1
          omega
        rw [en]
        have hby : ∀ j, j < x.2.2.2.2.length → E.getD (B.length + 18 + j) 0 = x.2.2.2.2.getD j 0 := by
          intro j hj
          have e6 : E = (B ++ (a4 x.1 ++ a4 x.2.1 ++ a4 x.2.2.1 ++ a4 x.2.2.2.1 ++ [aLow8 (Int32.ofNat x.2.2.2.2.length >>> 8), aLow8 (Int32.ofNat x.2.2.2.2.length)])) ++ (x.2.2.2.2 ++ R) := by
            rw [hE2, ex]
            simp only [List.append_assoc]
          have l6 : (B ++ (a4 x.1 ++ a4 x.2.1 ++ a4 x.2.2.1 ++ a4 x.2.2.2.1 ++ [aLow8 (Int32.ofNat x.2.2.2.2.length >>> 8), aLow8 (Int32.ofNat x.2.2.2.2.length)])).length = B.length + 18 := by
            rw [List.length_append]
            rfl
          rw [e6, getD_ap, if_neg (by omega), l6, getD_ap, show B.length + 18 + j - (B.length + 18) = j by omega, if_pos hj]
        refine ih1 _ (by omega) (by omega) (PX_t P6 (PX_I (by decide))) csI_e (fun j hj => ?_)
        by_cases zj : j = i
        · rw [zj, eX]
          refine ⟨?_, ?_, ?_, ?_, ?_, fun m hm => ?_⟩
          · rw [csI_f (by decide), qo 2 _ (by decide), r2, if_neg (by omega), if_neg (by omega), if_neg (by omega), if_neg (by omega), if_pos (by omega)]
          · rw [csI_f (by decide), qo 2 _ (by decide), r2, if_neg (by omega), if_neg (by omega), if_neg (by omega), if_pos rfl]
          · rw [csI_f (by decide), qo 2 _ (by decide), r2, if_neg (by omega), if_neg (by omega), if_pos rfl]
          · rw [csI_f (by decide), qo 2 _ (by decide), r2, if_neg (by omega), if_pos rfl]
          · rw [csI_f (by decide), qo 2 _ (by decide), r2, if_pos rfl]
          · rw [csI_f (by decide), q3, if_pos (by omega), show 101 * i + m - 101 * i = m by omega, y3 _ (by omega)]
            exact hby m hm
        · refine KS1_o (g5 j (by omega)) (shN_get w (by omega)) (fun m hm => ?_) (fun m hm => ?_)
          · rw [csI_f (by decide), qo 2 _ (by decide), r2, if_neg (by omega), if_neg (by omega), if_neg (by omega), if_neg (by omega), if_neg (by omega)]
          · rw [csI_f (by decide), q3, if_neg (by omega), ro 3 _ (by decide)]
  have := key F 0 c (by omega) (Nat.zero_le _) PX_r (h1.trans rfl) (fun j hj => absurd hj (Nat.not_lt_zero _))
  rw [List.take_zero, List.flatMap_nil] at this
  exact this
/-- a machine is loaded -/
theorem K_load13_18 {F : Nat} {c : CS} {s t : Nat} {M M0 : AM} (hF : 200 ≤ F) (h0 : KM0 c s M0) (w : wfM M) (wS : shN M.1) (hl : (aEnc M).length ≤ cal c 13 t 18) (hcap : cal c 13 t 18 ≤ 30000) (hsrc : ∀ i, i < (aEnc M).length → cI c 13 t 18 i = (aEnc M).getD i 0) : WP (k_Machine_load_13_18 F c s t (Int32.ofNat (aEnc M).length)) (fun c' => PX 10 s [1, 2, 3, 4, 5, 7, 8, 9] c c' ∧ KM0 c' s M) := by
  have hle := aEnc_len w
  have h128 := w.2.1
  have hsh := shL_wf w
  have e4 : ∀ v : Int32, (a4 v).length = 4 := fun _ => rfl
  obtain ⟨_, _, _, _, f, ⟨f1, f2⟩, f3, _⟩ := KM0_f h0
  have hE : aEnc M = a4 (Int32.ofNat M.1.length) ++ M.1.flatMap sEnc ++ (a4 (Int32.ofNat M.2.length) ++ M.2.flatMap kEnc) := by
    rw [aEnc_e, List.append_assoc]
  have hlen : (aEnc M).length = 4 + (M.1.flatMap sEnc).length + 4 + (M.2.flatMap kEnc).length := by
    rw [aEnc_e, List.length_append, List.length_append, List.length_append, e4, e4]
  have hE2 : aEnc M = (a4 (Int32.ofNat M.1.length) ++ M.1.flatMap sEnc) ++ a4 (Int32.ofNat M.2.length) ++ M.2.flatMap kEnc := aEnc_e
  have hEk : ∀ i, i < M.2.length → aEnc M = (a4 (Int32.ofNat M.1.length) ++ M.1.flatMap sEnc ++ a4 (Int32.ofNat M.2.length) ++ (M.2.take i).flatMap kEnc) ++ kEnc (M.2.getD i ([], [])) ++ (M.2.drop (i + 1)).flatMap kEnc := by
    intro i hi
    rw [hE2, flat_split (f := kEnc) (d := ([], [])) hi]
    simp only [List.append_assoc]
  generalize aEnc M = E at hl hsrc hE hE2 hlen hEk hle
  unfold k_Machine_load_13_18 k_Machine_load_13_18_b0 k_Machine_clear k_Machine_clear_b0
  refine WP_b (WP_b (WP_b (WP_b ?_)))
  have P0 : PX 10 s [1, 2, 3, 4, 5, 7, 8, 9] c (csI (csI (csI c 10 s 1 0 0) 10 s 4 0 0) 10 s 5 0 0) := PX_t (PX_t (PX_I (by decide)) (PX_I (by decide))) (PX_I (by decide))
  have x1 : cI (csI (csI (csI c 10 s 1 0 0) 10 s 4 0 0) 10 s 5 0 0) 10 s 1 0 = 0 := (csI_f (by decide)).trans ((csI_f (by decide)).trans csI_e)
  have x4 : cI (csI (csI (csI c 10 s 1 0 0) 10 s 4 0 0) 10 s 5 0 0) 10 s 4 0 = 0 := (csI_f (by decide)).trans csI_e
  have x5 : cI (csI (csI (csI c 10 s 1 0 0) 10 s 4 0 0) 10 s 5 0 0) 10 s 5 0 = 0 := csI_e
  generalize csI (csI (csI c 10 s 1 0 0) 10 s 4 0 0) 10 s 5 0 0 = c0 at P0 x1 x4 x5
  obtain ⟨s1, s2, s3⟩ := srcP13_18 P0 hl hcap hsrc
  refine WP_call (K_ldSes13_18 hF hE s1 (by omega) s2 s3 wS x1) (fun p hp => ?_)
  obtain ⟨p1, P1, y1, yS⟩ := hp
  have PA : PX 10 s [1, 2, 3, 4, 5, 7, 8, 9] c p.2 := PX_t P0 (PX_w P1 (by decide))
  have y4 : cI p.2 10 s 4 0 = 0 := (PX_o P1 (by decide)).trans x4
  have y5 : cI p.2 10 s 5 0 = 0 := (PX_o P1 (by decide)).trans x5
  obtain ⟨t1, t2, t3⟩ := srcP13_18 PA hl hcap hsrc
  rw [p1]
  have lA : (a4 (Int32.ofNat M.1.length) ++ M.1.flatMap sEnc).length = 4 + (M.1.flatMap sEnc).length := by rw [List.length_append, e4]
  have nk := K_num13_18 (F := F) (pre := a4 (Int32.ofNat M.1.length) ++ M.1.flatMap sEnc) (w := a4 (Int32.ofNat M.2.length)) (post := M.2.flatMap kEnc) (x := Int32.ofNat (4 + (M.1.flatMap sEnc).length)) (y := 4) (by rw [e4]; omega) hE2 t1 (by omega) t2 t3 (by rw [lA]) rfl rfl
  rw [aCat_4] at nk
  refine WP_eq nk ?_
  have key : ∀ n i c2, M.2.length + 1 ≤ i + n → i ≤ M.2.length → PX 10 s [4, 5, 7, 8, 9] p.2 c2 → cI c2 10 s 4 0 = Int32.ofNat i → cI c2 10 s 5 0 = Int32.ofNat (aUnits (M.1, M.2.take i)) → KMs c2 s (M.2.take i) f → WP (k_Machine_load_13_18_b26 F n c2 s t (Int32.ofNat E.length) (Int32.ofNat (4 + (M.1.flatMap sEnc).length + 4 + ((M.2.take i).flatMap kEnc).length)) (Int32.ofNat M.2.length) (Int32.ofNat i)) (fun c' => PX 10 s [1, 2, 3, 4, 5, 7, 8, 9] c c' ∧ KM0 c' s M) := by
    intro n
    induction n with
    | zero => intro i c2 g1 g2; omega
    | succ n ih =>
      intro i c2 g1 g2 P g4 g5 g6
      unfold k_Machine_load_13_18_b26 k_Machine_load_13_18_b203 k_Machine_load_13_18_b96
      dsimp only
      by_cases q : i = M.2.length
      · rw [if_pos ((i_gei (by omega) (by omega)).mpr (by omega))]
        subst q
        rw [List.take_length] at g5 g6
        exact WP_some ⟨PX_t PA (PX_w P (by decide)), KM0_b h128 ((PX_o P (by decide)).trans y1) g4 g5 (KSs_o yS (fun j => PX_o P (by decide)) (fun j => PX_o P (by decide))) g6⟩
      · have hi : i < M.2.length := by omega
        have ft := flat_take (f := kEnc) (d := ([], [])) hi
        have fl : ((M.2.take (i + 1)).flatMap kEnc).length ≤ (M.2.flatMap kEnc).length := flat_le
        have ih1 := ih (i + 1)
        have eT : M.2.take (i + 1) = M.2.take i ++ [M.2.getD i ([], [])] := take_s hi
        rw [ft] at fl ih1
        rw [List.length_append, kEnc_l] at fl ih1
        obtain ⟨yl1, yl2⟩ := hsh.2 i hi
        have hEi := hEk i hi
        have hun : aUnits (M.1, M.2.take (i + 1)) = aUnits (M.1, M.2.take i) + aUnit (M.2.getD i ([], [])).1.length (M.2.getD i ([], [])).2.length := by
          unfold aUnits
          show ((M.2.take (i + 1)).map _).sum = ((M.2.take i).map _).sum + _
          rw [eT, un_app]
          rfl
        have hul : aUnits (M.1, M.2.take i) ≤ 9 * 128 := by
          have hwl : wfM (M.1, M.2.take i) := ⟨⟨w.1.1, by
            have : aUnits (M.1, M.2.take i) ≤ aUnits M := by
              unfold aUnits
              conv => rhs; rw [← List.take_append_drop i M.2]
              rw [un_app]
              exact Nat.le_add_right _ _
            exact Nat.le_trans this w.1.2⟩, by show (M.2.take i).length ≤ 128; rw [List.length_take]; omega, w.2.2.1, fun e he => w.2.2.2 e (List.mem_of_mem_take he)⟩
          have := hwl.1.2
          omega
        have hshT : shL (M.2.take (i + 1)) := by
          refine ⟨by rw [List.length_take]; omega, fun j hj => ?_⟩
          rw [List.length_take] at hj
          have e : (M.2.take (i + 1)).getD j ([], []) = M.2.getD j ([], []) := by
            rw [List.getD_eq_getElem?_getD, List.getD_eq_getElem?_getD, List.getElem?_take, if_pos (by omega)]
          rw [e]
          exact hsh.2 j (by omega)
        have hgT : ∀ j, j < i + 1 → (M.2.take (i + 1)).getD j ([], []) = M.2.getD j ([], []) := by
          intro j hj
          rw [List.getD_eq_getElem?_getD, List.getD_eq_getElem?_getD, List.getElem?_take, if_pos hj]
        have hgT0 : ∀ j, j < i → (M.2.take i).getD j ([], []) = M.2.getD j ([], []) := by
          intro j hj
          rw [List.getD_eq_getElem?_getD, List.getD_eq_getElem?_getD, List.getElem?_take, if_pos hj]
        have lenT : (M.2.take i).length = i := by
          rw [List.length_take]
          omega
        have lenT1 : (M.2.take (i + 1)).length = i + 1 := by
          rw [List.length_take]
          omega
        generalize eX : M.2.getD i ([], []) = x at fl ih1 yl1 yl2 hEi hun
        have lB : (a4 (Int32.ofNat M.1.length) ++ M.1.flatMap sEnc ++ a4 (Int32.ofNat M.2.length) ++ (M.2.take i).flatMap kEnc).length = 4 + (M.1.flatMap sEnc).length + 4 + ((M.2.take i).flatMap kEnc).length := by
          rw [List.length_append, List.length_append, List.length_append, e4, e4]
        rw [← lB]
        generalize (M.2.drop (i + 1)).flatMap kEnc = R at hEi
        generalize ((M.2.take i).flatMap kEnc).length = z at fl ih1 lB
        generalize a4 (Int32.ofNat M.1.length) ++ M.1.flatMap sEnc ++ a4 (Int32.ofNat M.2.length) ++ (M.2.take i).flatMap kEnc = B at hEi lB
        obtain ⟨u1, u2, u3⟩ := srcP13_18 (PX_t PA (PX_w P (gs := [1, 2, 3, 4, 5, 7, 8, 9]) (by decide))) hl hcap hsrc
        have ek : kEnc x = [aLow8 (Int32.ofNat x.1.length)] ++ [aLow8 (Int32.ofNat x.2.length >>> 8), aLow8 (Int32.ofNat x.2.length)] ++ x.1 ++ x.2 := rfl
        rw [if_neg (fun u => by have := (i_gei (by omega) (by omega)).mp u; omega), if_neg (fun u => by
          rw [show (128 : Int32) = Int32.ofNat 128 from rfl] at u
          have := (i_gei (by omega) (by omega)).mp u
          omega), show Int32.ofNat B.length + 3 = Int32.ofNat (B.length + 3) from i_ad (s := 3), if_neg (fun u => by
          have u := c2_gt.mp u
          rw [Int32.lt_iff_toInt_lt, Int32.toInt_ofNat_of_lt (by omega), Int32.toInt_ofNat_of_lt (by omega)] at u
          omega)]
        have n1 := K_num13_18 (F := F) (pre := B) (w := [aLow8 (Int32.ofNat x.1.length)]) (post := [aLow8 (Int32.ofNat x.2.length >>> 8), aLow8 (Int32.ofNat x.2.length)] ++ x.1 ++ x.2 ++ R) (x := Int32.ofNat B.length) (y := 1) (by show 1 + 1 ≤ F; omega) (by rw [hEi, ek]; simp only [List.append_assoc]) u1 (by omega) u2 u3 rfl rfl rfl
        rw [aCat_1 (by omega)] at n1
        have n2 := K_num13_18 (F := F) (pre := B ++ [aLow8 (Int32.ofNat x.1.length)]) (w := [aLow8 (Int32.ofNat x.2.length >>> 8), aLow8 (Int32.ofNat x.2.length)]) (post := x.1 ++ x.2 ++ R) (x := Int32.ofNat B.length + 1) (y := 2) (by show 2 + 1 ≤ F; omega) (by rw [hEi, ek]; simp only [List.append_assoc]) u1 (by omega) u2 u3 (by rw [List.length_append]; exact i_ad (s := 1)) rfl rfl
        rw [aCat_2 (by omega)] at n2
        refine WP_eq n1 (WP_eq n2 ?_)
        rw [if_neg (fun u => by
          have u := c2_gt.mp u
          rw [show (32 : Int32) = Int32.ofNat 32 from rfl, Int32.lt_iff_toInt_lt, Int32.toInt_ofNat_of_lt (by omega), Int32.toInt_ofNat_of_lt (by omega)] at u
          omega), if_neg (fun u => by
          have u := c2_gt.mp u
          rw [show (100 : Int32) = Int32.ofNat 100 from rfl, Int32.lt_iff_toInt_lt, Int32.toInt_ofNat_of_lt (by omega), Int32.toInt_ofNat_of_lt (by omega)] at u
          omega), i_ad, i_ad, i_ad, if_pos ((i_lei (by omega) (by omega)).mpr (by omega))]
        have hq := f1 i (by omega)
        refine WP_eq (crd_n rfl (show i < 128 by omega) (by omega)) ?_
        rw [g6.2.1 i (by omega)]
        refine WP_eq (cwr_n rfl (show f i < 128 from hq) (by omega)) (WP_eq (cwr_n rfl (show f i < 128 from hq) (by omega)) ?_)
        have Pa : PX 10 s [4, 5, 7, 8, 9] c2 (csI (csI c2 10 s 7 (f i) (Int32.ofNat x.1.length)) 10 s 8 (f i) (Int32.ofNat x.2.length)) := PX_t (PX_I (by decide)) (PX_I (by decide))
        have a7 : ∀ m, cI (csI (csI c2 10 s 7 (f i) (Int32.ofNat x.1.length)) 10 s 8 (f i) (Int32.ofNat x.2.length)) 10 s 7 m = if m = f i then Int32.ofNat x.1.length else cI c2 10 s 7 m := by
          intro m
          rw [csI_f (by decide)]
          by_cases y : m = f i
          · rw [if_pos y, y, csI_e]
          · rw [if_neg y, csI_j y]
        have a8 : ∀ m, cI (csI (csI c2 10 s 7 (f i) (Int32.ofNat x.1.length)) 10 s 8 (f i) (Int32.ofNat x.2.length)) 10 s 8 m = if m = f i then Int32.ofNat x.2.length else cI c2 10 s 8 m := by
          intro m
          by_cases y : m = f i
          · rw [if_pos y, y, csI_e]
          · rw [if_neg y, csI_j y, csI_f (by decide)]
        have ao : ∀ g m, g ≠ 7 → g ≠ 8 → cI (csI (csI c2 10 s 7 (f i) (Int32.ofNat x.1.length)) 10 s 8 (f i) (Int32.ofNat x.2.length)) 10 s g m = cI c2 10 s g m := fun g m h7 h8 => (csI_f h8).trans (csI_f h7)
        generalize csI (csI c2 10 s 7 (f i) (Int32.ofNat x.1.length)) 10 s 8 (f i) (Int32.ofNat x.2.length) = c3 at Pa a7 a8 ao
        obtain ⟨v1, v2, v3⟩ := srcP13_18 Pa u1 u2 u3
        rw [i_132, show Int32.ofNat (132 * f i) + 32 = Int32.ofNat (132 * f i + 32) from i_ad (s := 32)]
        refine WP_eq (ccpy_n (s := B.length + 3) (t := 132 * f i) (n := x.1.length) rfl rfl rfl (by omega) (show 132 * f i + x.1.length ≤ 16896 by omega) (by omega) (by omega)) ?_
        have Pb := PX_t Pa (PX_A (f := 9) (x := fun w => if 132 * f i ≤ w ∧ w < 132 * f i + x.1.length then cI c3 13 t 18 (B.length + 3 + (w - 132 * f i)) else cI c3 10 s 9 w) (c := c3) (K := 10) (I := s) (fs := [4, 5, 7, 8, 9]) (by decide))
        have b9 : ∀ m, cI (csA c3 10 s 9 (fun w => if 132 * f i ≤ w ∧ w < 132 * f i + x.1.length then cI c3 13 t 18 (B.length + 3 + (w - 132 * f i)) else cI c3 10 s 9 w)) 10 s 9 m = if 132 * f i ≤ m ∧ m < 132 * f i + x.1.length then cI c3 13 t 18 (B.length + 3 + (m - 132 * f i)) else cI c2 10 s 9 m := fun m => by
          rw [cI_A, ao 9 _ (by decide) (by decide)]
        have bo : ∀ g m, g ≠ 9 → cI (csA c3 10 s 9 (fun w => if 132 * f i ≤ w ∧ w < 132 * f i + x.1.length then cI c3 13 t 18 (B.length + 3 + (w - 132 * f i)) else cI c3 10 s 9 w)) 10 s g m = cI c3 10 s g m := fun g m hg => cI_Ao hg
        generalize csA c3 10 s 9 (fun w => if 132 * f i ≤ w ∧ w < 132 * f i + x.1.length then cI c3 13 t 18 (B.length + 3 + (w - 132 * f i)) else cI c3 10 s 9 w) = c4 at Pb b9 bo
        obtain ⟨o1, o2, o3⟩ := srcP13_18 Pb u1 u2 u3
        refine WP_eq (ccpy_n (s := B.length + 3 + x.1.length) (t := 132 * f i + 32) (n := x.2.length) rfl rfl rfl (by omega) (show 132 * f i + 32 + x.2.length ≤ 16896 by omega) (by omega) (by omega)) (WP_b ?_)
        have Pc := PX_t Pb (PX_A (f := 9) (x := fun w => if 132 * f i + 32 ≤ w ∧ w < 132 * f i + 32 + x.2.length then cI c4 13 t 18 (B.length + 3 + x.1.length + (w - (132 * f i + 32))) else cI c4 10 s 9 w) (c := c4) (K := 10) (I := s) (fs := [4, 5, 7, 8, 9]) (by decide))
        have d9 : ∀ m, cI (csA c4 10 s 9 (fun w => if 132 * f i + 32 ≤ w ∧ w < 132 * f i + 32 + x.2.length then cI c4 13 t 18 (B.length + 3 + x.1.length + (w - (132 * f i + 32))) else cI c4 10 s 9 w)) 10 s 9 m = if 132 * f i + 32 ≤ m ∧ m < 132 * f i + 32 + x.2.length then cI c4 13 t 18 (B.length + 3 + x.1.length + (m - (132 * f i + 32))) else cI c4 10 s 9 m := fun m => cI_A
        have do9 : ∀ g m, g ≠ 9 → cI (csA c4 10 s 9 (fun w => if 132 * f i + 32 ≤ w ∧ w < 132 * f i + 32 + x.2.length then cI c4 13 t 18 (B.length + 3 + x.1.length + (w - (132 * f i + 32))) else cI c4 10 s 9 w)) 10 s g m = cI c4 10 s g m := fun g m hg => cI_Ao hg
        generalize csA c4 10 s 9 (fun w => if 132 * f i + 32 ≤ w ∧ w < 132 * f i + 32 + x.2.length then cI c4 13 t 18 (B.length + 3 + x.1.length + (w - (132 * f i + 32))) else cI c4 10 s 9 w) = c5 at Pc d9 do9
        rw [do9 4 0 (by decide), bo 4 0 (by decide), ao 4 0 (by decide) (by decide), g4, i_s]
        have Pd : PX 10 s [4, 5, 7, 8, 9] c2 (csI c5 10 s 4 0 (Int32.ofNat (i + 1))) := PX_t Pc (PX_I (by decide))
        have hb1 : ∀ j, j < x.1.length → E.getD (B.length + 3 + j) 0 = x.1.getD j 0 := by
          intro j hj
          have e6 : E = (B ++ ([aLow8 (Int32.ofNat x.1.length)] ++ [aLow8 (Int32.ofNat x.2.length >>> 8), aLow8 (Int32.ofNat x.2.length)])) ++ (x.1 ++ (x.2 ++ R)) := by
            rw [hEi, ek]
            simp only [List.append_assoc]
          have l6 : (B ++ ([aLow8 (Int32.ofNat x.1.length)] ++ [aLow8 (Int32.ofNat x.2.length >>> 8), aLow8 (Int32.ofNat x.2.length)])).length = B.length + 3 := by
            rw [List.length_append]
            rfl
          rw [e6, getD_ap, if_neg (by omega), l6, getD_ap, show B.length + 3 + j - (B.length + 3) = j by omega, if_pos hj]
        have hb2 : ∀ j, j < x.2.length → E.getD (B.length + 3 + x.1.length + j) 0 = x.2.getD j 0 := by
          intro j hj
          have e6 : E = (B ++ ([aLow8 (Int32.ofNat x.1.length)] ++ [aLow8 (Int32.ofNat x.2.length >>> 8), aLow8 (Int32.ofNat x.2.length)]) ++ x.1) ++ (x.2 ++ R) := by
            rw [hEi, ek]
            simp only [List.append_assoc]
          have l6 : (B ++ ([aLow8 (Int32.ofNat x.1.length)] ++ [aLow8 (Int32.ofNat x.2.length >>> 8), aLow8 (Int32.ofNat x.2.length)]) ++ x.1).length = B.length + 3 + x.1.length := by
            rw [List.length_append, List.length_append]
            rfl
          rw [e6, getD_ap, if_neg (by omega), l6, getD_ap, show B.length + 3 + x.1.length + j - (B.length + 3 + x.1.length) = j by omega, if_pos hj]
        have hK : KMs (csI c5 10 s 4 0 (Int32.ofNat (i + 1))) s (M.2.take (i + 1)) f := by
          refine ⟨⟨f1, f2⟩, fun m hm => (PX_o Pd (by decide)).trans (g6.2.1 m hm), fun j hj => ?_⟩
          rw [lenT1] at hj
          rw [hgT j hj]
          by_cases zj : j = i
          · rw [zj, eX]
            refine ⟨?_, ?_, fun m hm => ?_, fun m hm => ?_⟩
            · rw [csI_f (by decide), do9 7 _ (by decide), bo 7 _ (by decide), a7, if_pos rfl]
            · rw [csI_f (by decide), do9 8 _ (by decide), bo 8 _ (by decide), a8, if_pos rfl]
            · rw [csI_f (by decide), d9, if_neg (by omega), b9, if_pos (by omega), show 132 * f i + m - 132 * f i = m by omega, v3 _ (by omega)]
              exact hb1 m hm
            · rw [csI_f (by decide), d9, if_pos (by omega), show 132 * f i + 32 + m - (132 * f i + 32) = m by omega, o3 _ (by omega)]
              exact hb2 m hm
          · obtain ⟨k7, k8, k9, k10⟩ := g6.2.2 j (by rw [lenT]; omega)
            rw [hgT0 j (by omega)] at k7 k8 k9 k10
            obtain ⟨l1, l2⟩ := hsh.2 j (by omega)
            have hne : f j ≠ f i := fun y => zj (f2 j i (by omega) (by omega) y)
            refine ⟨?_, ?_, fun m hm => ?_, fun m hm => ?_⟩
            · rw [csI_f (by decide), do9 7 _ (by decide), bo 7 _ (by decide), a7, if_neg hne]
              exact k7
            · rw [csI_f (by decide), do9 8 _ (by decide), bo 8 _ (by decide), a8, if_neg hne]
              exact k8
            · rw [csI_f (by decide), d9, if_neg (by omega), b9, if_neg (by omega)]
              exact k9 m hm
            · rw [csI_f (by decide), d9, if_neg (by omega), b9, if_neg (by omega)]
              exact k10 m hm
        have hu := K_units hK hshT (i := i) (by omega)
        rw [hgT i (by omega), eX] at hu
        refine WP_eq hu (WP_b ?_)
        have u5 : cI (csI c5 10 s 4 0 (Int32.ofNat (i + 1))) 10 s 5 0 = Int32.ofNat (aUnits (M.1, M.2.take i)) := by
          rw [csI_f (by decide), do9 5 0 (by decide), bo 5 0 (by decide), ao 5 0 (by decide) (by decide), g5]
        rw [u5, i_ad, ← hun, i_ad]
        have en : B.length + 3 + (x.1.length + x.2.length) = 4 + (M.1.flatMap sEnc).length + 4 + (z + (3 + x.1.length + x.2.length)) := by omega
        rw [en]
        exact ih1 _ (by omega) (by omega) (PX_t P (PX_t Pd (PX_I (by decide)))) ((csI_f (by decide)).trans csI_e) csI_e (KMs_o hK (fun g hg m => csI_f (by omega)))
  have l8 : Int32.ofNat (4 + (M.1.flatMap sEnc).length) + 4 = Int32.ofNat (4 + (M.1.flatMap sEnc).length + 4) := i_ad (s := 4)
  rw [l8]
  have := key F 0 p.2 (by omega) (Nat.zero_le _) PX_r (y4.trans rfl) (y5.trans rfl) ⟨⟨f1, f2⟩, fun m hm => (PX_o PA (by decide)).trans (f3 m hm), fun j hj => absurd hj (by rw [List.take_zero]; exact Nat.not_lt_zero _)⟩
  rw [List.take_zero, List.flatMap_nil] at this
  exact this
