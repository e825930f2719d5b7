/-! an event happens: a bell rings, a letter comes -/
abbrev EE : Type := Int32 × Option Nat
def hpQ (a : AA) (till : Int32) (v : CV) (e : EE) (p : Int32 × CS) : Prop := if e.1 ≤ till then p.1 = (A_happen a e).2 ∧ RC p.2 (A_happen a e).1 v else p.1 = -1 ∧ RC p.2 a v
/-- what the handlers of bells are to do -/
def okB (F : Nat) (a : AA) (v : CV) (b : Nat) : Prop := (aBt a b).toInt < 1073741824 ∧ b ≠ 7 ∧
  (16 ≤ b → ∀ c, RC c (aI (hp1 a (aBt a b)) 31 (b - 16) (-1)) v → WP ((k_Server_sync F c (b - 16)).bind fun p => k_Server_settle F p (b - 16) none) (fun c' => RC c' (A_sync (aI (hp1 a (aBt a b)) 31 (b - 16) (-1)) (b - 16)) v)) ∧
  (b < 7 → ∀ c, RC c (aI (hp1 a (aBt a b)) 29 b (-1)) v → WP ((k_Server_wake F c b).bind fun p => k_Server_settle F p b none) (fun c' => RC c' (A_ring (aI (hp1 a (aBt a b)) 29 b (-1)) b) v)) ∧
  (8 ≤ b → b < 16 → ∀ c, RC c (aI (hp1 a (aBt a b)) 29 b (-1)) v → WP (k_Client_wake F c (b - 8)) (fun c' => RC c' (A_ringClient (aI (hp1 a (aBt a b)) 29 b (-1)) (b - 8)) v))
theorem hap_b {a : AA} {t : Int32} {b : Nat} : A_happen a (t, some b) = if 16 ≤ b then (A_sync (aI (hp1 a t) 31 (b - 16) (-1)) (b - 16), Int32.ofNat b) else if b < 8 then (A_ring (aI (hp1 a t) 29 b (-1)) b, Int32.ofNat b) else (A_ringClient (aI (hp1 a t) 29 b (-1)) (b - 8), Int32.ofNat b) := rfl
theorem K_hapB {F : Nat} {c : CS} {a : AA} {v : CV} {b : Nat} {till : Int32} (h : RC c a v) (hb : b < 23) (hn : 0 ≤ aBn a b) (ok : okB F a v b) : WP (k_Face_happen_b173 F c 0 till (Int32.ofNat b)) (hpQ a till v (aBt a b, some b)) := by
  obtain ⟨ht, h7, hY, hR, hC⟩ := ok
  have e10 : cI c 14 0 10 b = aBt a b := ((h.2.2.2.2.2.1 b hb).1 hn).2.1
  unfold k_Face_happen_b173 k_Face_happen_b191 k_Face_happen_b275
  refine WP_if c2_eq (fun z => ?_) (fun _ => ?_)
  · have z2 := congrArg Int32.toInt z
    rw [Int32.toInt_ofNat_of_lt (by omega), show (-1 : Int32).toInt = -1 by decide] at z2
    omega
  · refine WP_eq (crd_n rfl (show b < 23 from hb) (by omega)) ?_
    rw [e10]
    refine WP_if c2_le (fun q => ?_) (fun q => ?_)
    · have q : aBt a b ≤ till := q
      refine WP_call (K_takeBell h hb hn ht) (fun c1 h1 => ?_)
      have h1 : RC c1 (aHush (hp1 a (aBt a b)) b) v := h1
      by_cases q16 : 16 ≤ b
      · have eh : aHush (hp1 a (aBt a b)) b = aI (hp1 a (aBt a b)) 31 (b - 16) (-1) := if_neg (by omega)
        rw [eh] at h1
        have eA : A_happen a (aBt a b, some b) = (A_sync (aI (hp1 a (aBt a b)) 31 (b - 16) (-1)) (b - 16), Int32.ofNat b) := by
          rw [hap_b, if_pos q16]
        have hq : ∀ c2, RC c2 (A_sync (aI (hp1 a (aBt a b)) 31 (b - 16) (-1)) (b - 16)) v → hpQ a till v (aBt a b, some b) (Int32.ofNat b, c2) := by
          intro c2 h2
          unfold hpQ
          rw [if_pos q, eA]
          exact ⟨rfl, h2⟩
        rw [if_neg (fun z => by
          have z := c2_lt.mp z
          rw [Int32.lt_iff_toInt_lt, Int32.toInt_ofNat_of_lt (by omega), show (16 : Int32).toInt = 16 by decide] at z
          omega)]
        have ei : cix 15 2 (Int32.ofNat b - 16) = some (b - 16) := cix_n (by rw [show (16 : Int32) = Int32.ofNat 16 from rfl, i_subn q16]) (show b - 16 < 7 by omega) (by omega)
        refine WP_eq ei ?_
        obtain ⟨c2, k2, h2⟩ := hY q16 c1 h1
        cases k1 : k_Server_sync F c1 (b - 16) with
        | none =>
          rw [k1] at k2
          exact absurd k2 (by simp)
        | some c3 =>
          rw [k1] at k2
          refine WP_b (WP_eq ei (WP_eq k2 (WP_some (hq c2 h2))))
      · rw [if_pos (c2_lt.mpr (by
          rw [Int32.lt_iff_toInt_lt, Int32.toInt_ofNat_of_lt (by omega), show (16 : Int32).toInt = 16 by decide]
          omega))]
        have eh : aHush (hp1 a (aBt a b)) b = aI (hp1 a (aBt a b)) 29 b (-1) := if_pos (by omega)
        rw [eh] at h1
        by_cases q8 : b < 8
        · have eA : A_happen a (aBt a b, some b) = (A_ring (aI (hp1 a (aBt a b)) 29 b (-1)) b, Int32.ofNat b) := by
            rw [hap_b, if_neg q16, if_pos q8]
          have hq : ∀ c2, RC c2 (A_ring (aI (hp1 a (aBt a b)) 29 b (-1)) b) v → hpQ a till v (aBt a b, some b) (Int32.ofNat b, c2) := by
            intro c2 h2
            unfold hpQ
            rw [if_pos q, eA]
            exact ⟨rfl, h2⟩
          rw [if_neg (fun z => by
            have z := c2_ge.mp z
            rw [Int32.le_iff_toInt_le, Int32.toInt_ofNat_of_lt (by omega), show (7 : Int32).toInt = 7 by decide] at z
            omega)]
          have ei : cix 15 2 (Int32.ofNat b) = some b := cix_n rfl (show b < 7 by omega) (by omega)
          refine WP_eq ei ?_
          obtain ⟨c2, k2, h2⟩ := hR (by omega) c1 h1
          cases k1 : k_Server_wake F c1 b with
          | none =>
            rw [k1] at k2
            exact absurd k2 (by simp)
          | some c3 =>
            rw [k1] at k2
            refine WP_b (WP_eq ei (WP_eq k2 (WP_some (hq c2 h2))))
        · have eA : A_happen a (aBt a b, some b) = (A_ringClient (aI (hp1 a (aBt a b)) 29 b (-1)) (b - 8), Int32.ofNat b) := by
            rw [hap_b, if_neg q16, if_neg q8]
          have hq : ∀ c2, RC c2 (A_ringClient (aI (hp1 a (aBt a b)) 29 b (-1)) (b - 8)) v → hpQ a till v (aBt a b, some b) (Int32.ofNat b, c2) := by
            intro c2 h2
            unfold hpQ
            rw [if_pos q, eA]
            exact ⟨rfl, h2⟩
          rw [if_pos (c2_ge.mpr (by
            rw [Int32.le_iff_toInt_le, Int32.toInt_ofNat_of_lt (by omega), show (7 : Int32).toInt = 7 by decide]
            omega))]
          have ei : cix 15 3 (Int32.ofNat b - 8) = some (b - 8) := cix_n (by rw [show (8 : Int32) = Int32.ofNat 8 from rfl, i_subn (by omega)]) (show b - 8 < 8 by omega) (by omega)
          refine WP_eq ei (WP_call (hC (by omega) (by omega) c1 h1) (fun c2 h2 => WP_some (hq c2 h2)))
    · refine WP_some ?_
      unfold hpQ
      rw [if_neg q]
      exact ⟨rfl, h⟩
/-- what the handlers of a letter are to do -/
def okL (F : Nat) (a2 : AA) (U : Nat → Int32) (N : Nat × Nat) (l : AL) : Prop := (aInR (l.1 3) 0 6 = true ∨ aInR (l.1 3) 8 15 = true) ∧
  (∀ s, s < 7 → l.1 3 = Int32.ofNat s → ¬ aS a2 52 s = 0 → ∀ c ad, RC c a2 (((ad, some l) :: [], U), N) → WP ((k_Server_receive F c s ad).bind fun p => k_Server_settle F p s (some ad)) (fun c' => ∃ l', RC c' (if l.1 4 = 10 then A_asked a2 s l else A_came a2 s l) (((ad, some l') :: [], U), N))) ∧
  (∀ k, k < 8 → l.1 3 = Int32.ofNat (8 + k) → ∀ c ad, RC c a2 (((ad, some l) :: [], U), N) → WP (k_Client_hear F c k ad) (fun c' => RC c' (A_hear a2 k l) (((ad, some l) :: [], U), N)))
theorem inR_s {x : Int32} (h : aInR x 0 6 = true) : ∃ s, s < 7 ∧ x = Int32.ofNat s := by
  unfold aInR at h
  rw [Bool.and_eq_true_iff, decide_eq_true_eq, decide_eq_true_eq, Int32.le_iff_toInt_le, Int32.le_iff_toInt_le, i_0, show (6 : Int32).toInt = 6 by decide] at h
  refine ⟨x.toInt.toNat, by omega, ?_⟩
  apply Int32.toInt_inj.mp
  rw [Int32.toInt_ofNat_of_lt (by omega)]
  omega
theorem inR_c {x : Int32} (h : aInR x 8 15 = true) : ∃ k, k < 8 ∧ x = Int32.ofNat (8 + k) := by
  unfold aInR at h
  rw [Bool.and_eq_true_iff, decide_eq_true_eq, decide_eq_true_eq, Int32.le_iff_toInt_le, Int32.le_iff_toInt_le, show (8 : Int32).toInt = 8 by decide, show (15 : Int32).toInt = 15 by decide] at h
  refine ⟨x.toInt.toNat - 8, by omega, ?_⟩
  apply Int32.toInt_inj.mp
  rw [Int32.toInt_ofNat_of_lt (by omega)]
  omega
theorem hap_l {a : AA} {x : AP} {r : List AP} (hw : aWay a = x :: r) : A_happen a (x.1, none) = (if A_parted (aWayS (hp1 a x.1) r) (x.2.2.1 2) (x.2.2.1 3) ∨ (x.2.2.1 3 < 7 ∧ aS (aWayS (hp1 a x.1) r) 52 (x.2.2.1 3).toNatClampNeg = 0) then (aAdd (aWayS (hp1 a x.1) r) 22 0 1, x.2.2.1 3) else if x.2.2.1 3 < 7 then (if x.2.2.1 4 = 10 then A_asked (aWayS (hp1 a x.1) r) (x.2.2.1 3).toNatClampNeg x.2.2 else A_came (aWayS (hp1 a x.1) r) (x.2.2.1 3).toNatClampNeg x.2.2, x.2.2.1 3) else (A_hear (aWayS (hp1 a x.1) r) ((x.2.2.1 3).toNatClampNeg - 8) x.2.2, x.2.2.1 3)) := by
  unfold A_happen
  dsimp only
  rw [hw]
  rfl
theorem K_hapL {F : Nat} {c : CS} {a : AA} {x : AP} {r : List AP} {ad : Nat} {till : Int32} {U : Nat → Int32} {N : Nat × Nat} (h : RC c a (([], U), N)) (hw : aWay a = x :: r) (hg : (cS c 14 0 15)[0]? = some ad) (hl : LRp c ad x) (h0 : 0 ≤ x.1.toInt) (h1 : x.1.toInt < 1073741824) (ok : okL F (aWayS (hp1 a x.1) r) U N x.2.2) : WP (k_Face_happen_b37 F c 0 till (some ad)) (hpQ a till (([], U), N) (x.1, none)) := by
  obtain ⟨hend, hS, hC⟩ := ok
  unfold k_Face_happen_b37
  refine WP_b ?_
  have e0 : cI c 8 ad 0 0 = x.1 := hl.1
  have e3 : cI c 8 ad 3 0 = x.2.2.1 3 := hl.2.2.1 3 (by decide)
  rw [e0]
  refine WP_if c2_le (fun q => ?_) (fun q => ?_)
  · have q : x.1 ≤ till := q
    refine WP_b ?_
    rw [e3]
    refine WP_call (K_takeFirst h hw hg h0 h1) (fun c1 g1 => ?_)
    have g1 : RC c1 (aWayS (hp1 a x.1) r) (((ad, some x.2.2) :: [], U), N) := g1
    have eh := hap_l hw
    refine WP_b ?_
    have e2 : cI c1 8 ad 2 0 = x.2.2.1 2 := (RC_hand g1 List.mem_cons_self).1 2 (by decide)
    rw [e2]
    refine WP_eq (K_parted g1) ?_
    generalize aWayS (hp1 a x.1) r = b at g1 eh hS hC
    have hq : ∀ c2 X, A_happen a (x.1, none) = (X, x.2.2.1 3) → RC c2 X (([], U), N) → hpQ a till (([], U), N) (x.1, none) (x.2.2.1 3, c2) := by
      intro c2 X e h2
      unfold hpQ
      rw [if_pos q, e]
      exact ⟨rfl, h2⟩
    have lost : A_happen a (x.1, none) = (aAdd b 22 0 1, x.2.2.1 3) → WP (k_Face_happen_b96 F c1 0 (some ad) (x.2.2.1 3)) (hpQ a till (([], U), N) (x.1, none)) := by
      intro e
      unfold k_Face_happen_b96 k_Face_happen_b158
      rw [K_r g1 (F := 22) (cl := 14) (f := 4) (by decide) (by decide)]
      have g2 := RC_I (x := aS b 22 0 + 1) g1 (F := 22) (cl := 14) (f := 4) (i := 0) (by decide) (by decide)
      refine WP_b (WP_b (WP_call (K_spare g2) (fun c2 h2 => WP_some (hq c2 _ e h2))))
    by_cases qp : A_parted b (x.2.2.1 2) (x.2.2.1 3) = true
    · rw [if_pos (Or.inl qp)] at eh
      rw [qp]
      exact WP_if c0_ne (fun _ => lost eh) (fun z => absurd (show ¬ aB true = 0 by decide) z)
    · rw [show A_parted b (x.2.2.1 2) (x.2.2.1 3) = false by simpa using qp]
      refine WP_if c0_ne (fun z => absurd rfl z) (fun _ => ?_)
      rcases hend with z | z
      · obtain ⟨s, hs, e⟩ := inR_s z
        have lt7 : x.2.2.1 3 < 7 := by
          rw [e, Int32.lt_iff_toInt_lt, Int32.toInt_ofNat_of_lt (by omega), show (7 : Int32).toInt = 7 by decide]
          omega
        have ge7 : ¬ xc2 .ge (x.2.2.1 3) 7 = true := fun y => absurd lt7 (Int32.not_lt.mpr (c2_ge.mp y))
        rw [if_neg ge7]
        have ei : cix 15 2 (x.2.2.1 3) = some s := cix_n e (show s < 7 from hs) (by omega)
        refine WP_eq ei ?_
        have es : (x.2.2.1 3).toNatClampNeg = s := by rw [e, i_cl (by omega)]
        rw [K_r g1 (F := 52) (cl := 13) (f := 8) (by decide) hs]
        rw [es] at eh
        refine WP_if c0_ne (fun y => ?_) (fun y => ?_)
        · have y : ¬ aS b 52 s = 0 := y
          rw [if_neg (fun k => k.elim qp (fun k => y k.2)), if_pos lt7] at eh
          unfold k_Face_happen_b112 k_Face_happen_b158
          rw [if_neg ge7]
          refine WP_eq ei (WP_b ?_)
          obtain ⟨c2, k2, l', h2⟩ := hS s hs e y c1 ad g1
          cases k1 : k_Server_receive F c1 s ad with
          | none =>
            rw [k1] at k2
            exact absurd k2 (by simp)
          | some c3 =>
            rw [k1] at k2
            refine WP_b (WP_eq ei (WP_eq k2 (WP_b (WP_call (K_spare h2) (fun c4 h4 => WP_some (hq c4 _ eh h4))))))
        · have y : aS b 52 s = 0 := Classical.not_not.mp y
          rw [if_pos (Or.inr ⟨lt7, y⟩)] at eh
          exact lost eh
      · obtain ⟨k, hk, e⟩ := inR_c z
        have ge : ¬ x.2.2.1 3 < 7 := by
          rw [e, Int32.lt_iff_toInt_lt, Int32.toInt_ofNat_of_lt (by omega), show (7 : Int32).toInt = 7 by decide]
          omega
        have ge7 : xc2 .ge (x.2.2.1 3) 7 = true := c2_ge.mpr (Int32.not_lt.mp ge)
        have es : (x.2.2.1 3).toNatClampNeg - 8 = k := by
          rw [e, i_cl (by omega)]
          omega
        rw [es, if_neg (fun w => w.elim qp (fun w => ge w.1)), if_neg ge] at eh
        rw [if_pos ge7]
        unfold k_Face_happen_b112 k_Face_happen_b158
        rw [if_pos ge7]
        have ei : cix 15 3 (x.2.2.1 3 - 8) = some k := cix_n (by rw [e, show (8 : Int32) = Int32.ofNat 8 from rfl, i_subn (by omega), show 8 + k - 8 = k by omega]) (show k < 8 from hk) (by omega)
        exact WP_eq ei (WP_b (WP_call (hC k hk e c1 ad g1) (fun c2 h2 => WP_b (WP_call (K_spare h2) (fun c4 h4 => WP_some (hq c4 _ eh h4))))))
  · refine WP_some ?_
    unfold hpQ
    rw [if_neg q]
    exact ⟨rfl, h⟩
/-- what is to hold that an event can happen -/
def okE (F : Nat) (a : AA) (U : Nat → Int32) (N : Nat × Nat) : Prop := (∀ b, aBell a 23 = some b → okB F a (([], U), N) b) ∧ ∀ x r, aWay a = x :: r → 0 ≤ x.1.toInt ∧ x.1.toInt < 1073741824 ∧ okL F (aWayS (hp1 a x.1) r) U N x.2.2
theorem K_happen {F : Nat} {c : CS} {a : AA} {till : Int32} {U : Nat → Int32} {N : Nat × Nat} (hF : 400 ≤ F) (h : RC c a (([], U), N)) (ok : okE F a U N) : WP (k_Face_happen F c 0 till) (fun p => match aNext a with
    | none => p.1 = -1 ∧ RC p.2 a (([], U), N)
    | some e => hpQ a till (([], U), N) e p) := by
  obtain ⟨okb, okl⟩ := ok
  unfold k_Face_happen k_Face_happen_b0
  have hB : WP (k_World_firstBell F c 0) (fun r => r = eB (aBell a 23)) := K_firstBell (by omega) h
  rcases K_first h with ⟨hw, e1⟩ | ⟨x, r, ad, hw, hg, hl, e1⟩
  · refine WP_eq e1 (WP_call hB (fun q hq => ?_))
    subst hq
    rw [if_pos rfl]
    unfold aNext
    rw [hw]
    cases hb : aBell a 23 with
    | none =>
      unfold k_Face_happen_b173 k_Face_happen_b191
      refine WP_if c2_eq (fun _ => WP_some ⟨rfl, h⟩) (fun z => absurd rfl z)
    | some b =>
      obtain ⟨b1, b2⟩ := aBell_lt hb
      exact K_hapB h b1 b2 (okb b hb)
  · obtain ⟨l1, l2, l3⟩ := okl x r hw
    refine WP_eq e1 (WP_call hB (fun q hq => ?_))
    subst hq
    rw [if_neg (by simp)]
    unfold aNext
    rw [hw]
    cases hb : aBell a 23 with
    | none =>
      exact WP_if c2_eq (fun _ => K_hapL h hw hg hl l1 l2 l3) (fun z => absurd rfl z)
    | some b =>
      obtain ⟨b1, b2⟩ := aBell_lt hb
      refine WP_if c2_eq (fun z => ?_) (fun _ => WP_b ?_)
      · have z2 := congrArg Int32.toInt (show Int32.ofNat b = -1 from z)
        rw [Int32.toInt_ofNat_of_lt (by omega), show (-1 : Int32).toInt = -1 by decide] at z2
        omega
      · refine WP_eq (K_before h hl b1 b2) ?_
        dsimp only
        by_cases w : x.1 < aBt a b ∨ (x.1 = aBt a b ∧ x.2.1 < aBn a b)
        · rw [decide_eq_true w, if_pos w]
          exact WP_if c0_eq (fun z => absurd z (by decide)) (fun _ => K_hapL h hw hg hl l1 l2 l3)
        · rw [decide_eq_false w, if_neg w]
          exact WP_if c0_eq (fun _ => K_hapB h b1 b2 (okb b hb)) (fun z => absurd rfl z)
