/-! the beginning: the reference's memory -/
def isA (f : Nat) : Bool := [31, 45, 47, 52, 54, 58, 65, 69, 72, 74, 78, 80].contains f
def g1 (k f i : Nat) : Int32 := if f = 23 then (if i < k then 3 else 0) else 0
def g2 (k f i : Nat) : Int32 := if f = 29 then (if i < k then -1 else 0) else g1 256 f i
def g3 (m : Int32) (k f i : Nat) : Int32 := if f = 145 then (if i = 0 ∧ 0 < k then m else 0) else if isA f = true then (if i < k then nB m f i else 0) else g2 16 f i
def g4 (m : Int32) (k f i : Nat) : Int32 := if f = 126 then (if i < k then -1 else 0) else g3 m 7 f i
def h3 (J : Int64) (k f i : Nat) : Int64 := if f = 84 ∧ i < k then J + (Int32.ofNat i).toInt64 else 0
def iV (g : Nat → Nat → Int32) (h : Nat → Nat → Int64) (σ : RS) : Prop := (∀ f i, σ.1 f i = g f i) ∧ ∀ f i, σ.2 f i = h f i
theorem g1_s {k : Nat} {h : Nat → Nat → Int64} {σ : RS} (q : iV (g1 k) h σ) : iV (g1 (k + 1)) h (setI σ 23 k 3) := by
  refine ⟨fun f i => ?_, fun f i => q.2 f i⟩
  show (if f = 23 ∧ i = k then (3 : Int32) else σ.1 f i) = (if f = 23 then (if i < k + 1 then 3 else 0) else 0)
  rw [q.1 f i]
  unfold g1
  by_cases w : f = 23
  · rw [if_pos w, if_pos w]
    by_cases z : i = k
    · rw [if_pos ⟨w, z⟩, if_pos (by omega)]
    · rw [if_neg (fun y => z y.2)]
      by_cases x : i < k
      · rw [if_pos x, if_pos (by omega)]
      · rw [if_neg x, if_neg (by omega)]
  · rw [if_neg (fun y => w y.1), if_neg w, if_neg w]
theorem g2_s {k : Nat} {h : Nat → Nat → Int64} {σ : RS} (q : iV (g2 k) h σ) : iV (g2 (k + 1)) h (setI σ 29 k (-1)) := by
  refine ⟨fun f i => ?_, fun f i => q.2 f i⟩
  show (if f = 29 ∧ i = k then (-1 : Int32) else σ.1 f i) = (if f = 29 then (if i < k + 1 then -1 else 0) else g1 256 f i)
  rw [q.1 f i]
  unfold g2
  by_cases w : f = 29
  · rw [if_pos w, if_pos w]
    by_cases z : i = k
    · rw [if_pos ⟨w, z⟩, if_pos (by omega)]
    · rw [if_neg (fun y => z y.2)]
      by_cases x : i < k
      · rw [if_pos x, if_pos (by omega)]
      · rw [if_neg x, if_neg (by omega)]
  · rw [if_neg (fun y => w y.1), if_neg w, if_neg w]
theorem g4_s {m : Int32} {k : Nat} {h : Nat → Nat → Int64} {σ : RS} (q : iV (g4 m k) h σ) : iV (g4 m (k + 1)) h (setI σ 126 k (-1)) := by
  refine ⟨fun f i => ?_, fun f i => q.2 f i⟩
  show (if f = 126 ∧ i = k then (-1 : Int32) else σ.1 f i) = (if f = 126 then (if i < k + 1 then -1 else 0) else g3 m 7 f i)
  rw [q.1 f i]
  unfold g4
  by_cases w : f = 126
  · rw [if_pos w, if_pos w]
    by_cases z : i = k
    · rw [if_pos ⟨w, z⟩, if_pos (by omega)]
    · rw [if_neg (fun y => z y.2)]
      by_cases x : i < k
      · rw [if_pos x, if_pos (by omega)]
      · rw [if_neg x, if_neg (by omega)]
  · rw [if_neg (fun y => w y.1), if_neg w, if_neg w]
theorem g3_s {m : Int32} {J : Int64} {k : Nat} {σ : RS} (q : iV (g3 m k) (h3 J k) σ) : iV (g3 m (k + 1)) (h3 J (k + 1)) (setL (setI (setI (setI (setI (setI (setI (setI (setI (setI (setI (setI (setI (setI σ 31 k (-1)) 45 k (-1)) 47 k (-1)) 52 k 1) 54 k (-1)) 58 k m) 65 k m) 145 0 m) 69 k (-1)) 72 k 2) 74 k (-1)) 78 k (-2000000000)) 80 k (-1)) 84 k (J + (Int32.ofNat k).toInt64)) := by
  refine ⟨fun f i => ?_, fun f i => ?_⟩
  · show (if f = 80 ∧ i = k then -1 else if f = 78 ∧ i = k then -2000000000 else if f = 74 ∧ i = k then -1 else if f = 72 ∧ i = k then 2 else if f = 69 ∧ i = k then -1 else if f = 145 ∧ i = 0 then m else if f = 65 ∧ i = k then m else if f = 58 ∧ i = k then m else if f = 54 ∧ i = k then -1 else if f = 52 ∧ i = k then 1 else if f = 47 ∧ i = k then -1 else if f = 45 ∧ i = k then -1 else if f = 31 ∧ i = k then -1 else σ.1 f i) = g3 m (k + 1) f i
    by_cases q80 : f = 80
    · subst q80
      show (if 80 = 80 ∧ i = k then -1 else σ.1 80 i) = (if i < k + 1 then -1 else 0)
      by_cases z : i = k
      · rw [if_pos ⟨rfl, z⟩, if_pos (by omega)]
      · rw [if_neg (fun y => z y.2), q.1 80 i]
        show (if i < k then -1 else 0) = _
        by_cases x : i < k
        · rw [if_pos x, if_pos (by omega)]
        · rw [if_neg x, if_neg (by omega)]
    by_cases q78 : f = 78
    · subst q78
      show (if 78 = 78 ∧ i = k then -2000000000 else σ.1 78 i) = (if i < k + 1 then -2000000000 else 0)
      by_cases z : i = k
      · rw [if_pos ⟨rfl, z⟩, if_pos (by omega)]
      · rw [if_neg (fun y => z y.2), q.1 78 i]
        show (if i < k then -2000000000 else 0) = _
        by_cases x : i < k
        · rw [if_pos x, if_pos (by omega)]
        · rw [if_neg x, if_neg (by omega)]
    by_cases q74 : f = 74
    · subst q74
      show (if 74 = 74 ∧ i = k then -1 else σ.1 74 i) = (if i < k + 1 then -1 else 0)
      by_cases z : i = k
      · rw [if_pos ⟨rfl, z⟩, if_pos (by omega)]
      · rw [if_neg (fun y => z y.2), q.1 74 i]
        show (if i < k then -1 else 0) = _
        by_cases x : i < k
        · rw [if_pos x, if_pos (by omega)]
        · rw [if_neg x, if_neg (by omega)]
    by_cases q72 : f = 72
    · subst q72
      show (if 72 = 72 ∧ i = k then 2 else σ.1 72 i) = (if i < k + 1 then 2 else 0)
      by_cases z : i = k
      · rw [if_pos ⟨rfl, z⟩, if_pos (by omega)]
      · rw [if_neg (fun y => z y.2), q.1 72 i]
        show (if i < k then 2 else 0) = _
        by_cases x : i < k
        · rw [if_pos x, if_pos (by omega)]
        · rw [if_neg x, if_neg (by omega)]
    by_cases q69 : f = 69
    · subst q69
      show (if 69 = 69 ∧ i = k then -1 else σ.1 69 i) = (if i < k + 1 then -1 else 0)
      by_cases z : i = k
      · rw [if_pos ⟨rfl, z⟩, if_pos (by omega)]
      · rw [if_neg (fun y => z y.2), q.1 69 i]
        show (if i < k then -1 else 0) = _
        by_cases x : i < k
        · rw [if_pos x, if_pos (by omega)]
        · rw [if_neg x, if_neg (by omega)]
    by_cases q145 : f = 145
    · subst q145
      show (if 145 = 145 ∧ i = 0 then m else σ.1 145 i) = (if i = 0 ∧ 0 < k + 1 then m else 0)
      by_cases z : i = 0
      · rw [if_pos ⟨rfl, z⟩, if_pos ⟨z, by omega⟩]
      · rw [if_neg (fun y => z y.2), if_neg (fun y => z y.1), q.1 145 i]
        show (if i = 0 ∧ 0 < k then m else 0) = 0
        rw [if_neg (fun y => z y.1)]
    by_cases q65 : f = 65
    · subst q65
      show (if 65 = 65 ∧ i = k then m else σ.1 65 i) = (if i < k + 1 then m else 0)
      by_cases z : i = k
      · rw [if_pos ⟨rfl, z⟩, if_pos (by omega)]
      · rw [if_neg (fun y => z y.2), q.1 65 i]
        show (if i < k then m else 0) = _
        by_cases x : i < k
        · rw [if_pos x, if_pos (by omega)]
        · rw [if_neg x, if_neg (by omega)]
    by_cases q58 : f = 58
    · subst q58
      show (if 58 = 58 ∧ i = k then m else σ.1 58 i) = (if i < k + 1 then m else 0)
      by_cases z : i = k
      · rw [if_pos ⟨rfl, z⟩, if_pos (by omega)]
      · rw [if_neg (fun y => z y.2), q.1 58 i]
        show (if i < k then m else 0) = _
        by_cases x : i < k
        · rw [if_pos x, if_pos (by omega)]
        · rw [if_neg x, if_neg (by omega)]
    by_cases q54 : f = 54
    · subst q54
      show (if 54 = 54 ∧ i = k then -1 else σ.1 54 i) = (if i < k + 1 then -1 else 0)
      by_cases z : i = k
      · rw [if_pos ⟨rfl, z⟩, if_pos (by omega)]
      · rw [if_neg (fun y => z y.2), q.1 54 i]
        show (if i < k then -1 else 0) = _
        by_cases x : i < k
        · rw [if_pos x, if_pos (by omega)]
        · rw [if_neg x, if_neg (by omega)]
    by_cases q52 : f = 52
    · subst q52
      show (if 52 = 52 ∧ i = k then 1 else σ.1 52 i) = (if i < k + 1 then 1 else 0)
      by_cases z : i = k
      · rw [if_pos ⟨rfl, z⟩, if_pos (by omega)]
      · rw [if_neg (fun y => z y.2), q.1 52 i]
        show (if i < k then 1 else 0) = _
        by_cases x : i < k
        · rw [if_pos x, if_pos (by omega)]
        · rw [if_neg x, if_neg (by omega)]
    by_cases q47 : f = 47
    · subst q47
      show (if 47 = 47 ∧ i = k then -1 else σ.1 47 i) = (if i < k + 1 then -1 else 0)
      by_cases z : i = k
      · rw [if_pos ⟨rfl, z⟩, if_pos (by omega)]
      · rw [if_neg (fun y => z y.2), q.1 47 i]
        show (if i < k then -1 else 0) = _
        by_cases x : i < k
        · rw [if_pos x, if_pos (by omega)]
        · rw [if_neg x, if_neg (by omega)]
    by_cases q45 : f = 45
    · subst q45
      show (if 45 = 45 ∧ i = k then -1 else σ.1 45 i) = (if i < k + 1 then -1 else 0)
      by_cases z : i = k
      · rw [if_pos ⟨rfl, z⟩, if_pos (by omega)]
      · rw [if_neg (fun y => z y.2), q.1 45 i]
        show (if i < k then -1 else 0) = _
        by_cases x : i < k
        · rw [if_pos x, if_pos (by omega)]
        · rw [if_neg x, if_neg (by omega)]
    by_cases q31 : f = 31
    · subst q31
      show (if 31 = 31 ∧ i = k then -1 else σ.1 31 i) = (if i < k + 1 then -1 else 0)
      by_cases z : i = k
      · rw [if_pos ⟨rfl, z⟩, if_pos (by omega)]
      · rw [if_neg (fun y => z y.2), q.1 31 i]
        show (if i < k then -1 else 0) = _
        by_cases x : i < k
        · rw [if_pos x, if_pos (by omega)]
        · rw [if_neg x, if_neg (by omega)]
    rw [if_neg (fun y => q80 y.1), if_neg (fun y => q78 y.1), if_neg (fun y => q74 y.1), if_neg (fun y => q72 y.1), if_neg (fun y => q69 y.1), if_neg (fun y => q145 y.1), if_neg (fun y => q65 y.1), if_neg (fun y => q58 y.1), if_neg (fun y => q54 y.1), if_neg (fun y => q52 y.1), if_neg (fun y => q47 y.1), if_neg (fun y => q45 y.1), if_neg (fun y => q31 y.1), q.1 f i]
    have qA : ¬ isA f = true := fun z => by
      simp [isA] at z
      omega
    unfold g3
    rw [if_neg q145, if_neg q145, if_neg qA, if_neg qA]
  · show (if f = 84 ∧ i = k then J + (Int32.ofNat k).toInt64 else σ.2 f i) = (if f = 84 ∧ i < k + 1 then J + (Int32.ofNat i).toInt64 else 0)
    rw [q.2 f i]
    unfold h3
    by_cases w : f = 84
    · by_cases z : i = k
      · rw [if_pos ⟨w, z⟩, if_pos ⟨w, by omega⟩, z]
      · rw [if_neg (fun y => z y.2)]
        by_cases x : i < k
        · rw [if_pos ⟨w, x⟩, if_pos ⟨w, by omega⟩]
        · rw [if_neg (fun y => x y.2), if_neg (fun y => by omega)]
    · rw [if_neg (fun y => w y.1), if_neg (fun y => w y.1), if_neg (fun y => w y.1)]
/-! the loops -/
theorem W_1275 {F : Nat} {b : AA} {u : AU} : ∀ (n k : Nat) (σ : RS), k ≤ 7 → 7 - k < n → RM σ (aDraws b k) u → WP (m_init_b1275 F n σ (Int32.ofNat k)) (fun σ' => RM σ' (aDraws b 7) u) := by
  intro n
  induction n with
  | zero => intro k σ h1 h2; omega
  | succ n ih =>
    intro k σ h1 h2 hR
    unfold m_init_b1275
    dsimp only
    have e := i_ge (p := k) (q := 7) (by omega) (by omega)
    by_cases q : k = 7
    · subst q
      rw [if_pos (by decide : xc2 .ge (Int32.ofNat 7) (7 : Int32) = true)]
      exact WP_some hR
    · rw [if_neg (fun z => by
        have := of_decide_eq_true (e.symm.trans z)
        omega)]
      refine WP_call (M_drawAlarm hR (by omega)) (fun σ' h' => ?_)
      rw [i_s]
      exact ih (k + 1) σ' (by omega) (by omega) h'
theorem W_1251 {F : Nat} {m : Int32} {J : Int64} {Q : RS → Prop} (hQ : ∀ σ, iV (g4 m 8) (h3 J 7) σ → WP (m_init_b1275 F F σ (Int32.ofNat 0)) Q) : ∀ (n k : Nat) (σ : RS), k ≤ 8 → 8 - k < n → iV (g4 m k) (h3 J 7) σ → WP (m_init_b1251 F n σ (Int32.ofNat k)) Q := by
  intro n
  induction n with
  | zero => intro k σ h1 h2; omega
  | succ n ih =>
    intro k σ h1 h2 hR
    unfold m_init_b1251
    dsimp only
    have e := i_ge (p := k) (q := 8) (by omega) (by omega)
    by_cases q : k = 8
    · subst q
      rw [if_pos (by decide : xc2 .ge (Int32.ofNat 8) (8 : Int32) = true)]
      exact hQ σ hR
    · rw [if_neg (fun z => by
        have := of_decide_eq_true (e.symm.trans z)
        omega)]
      refine WP_st rfl 8 rfl (by omega) ?_
      rw [i_s]
      exact ih (k + 1) _ (by omega) (by omega) (g4_s hR)
theorem W_1103 {F : Nat} {m l4 : Int32} {J : Int64} {Q : RS → Prop} (hc : ((1 : Int32) <<< (l4 &&& 31)) - 1 = m) (hQ : ∀ σ, iV (g4 m 0) (h3 J 7) σ → WP (m_init_b1251 F F σ (Int32.ofNat 0)) Q) : ∀ (n k : Nat) (σ : RS), k ≤ 7 → 7 - k < n → iV (g3 m k) (h3 J k) σ → WP (m_init_b1103 F n σ J l4 (Int32.ofNat k)) Q := by
  intro n
  induction n with
  | zero => intro k σ h1 h2; omega
  | succ n ih =>
    intro k σ h1 h2 hR
    unfold m_init_b1103
    dsimp only
    have e := i_ge (p := k) (q := 7) (by omega) (by omega)
    by_cases q : k = 7
    · subst q
      rw [if_pos (by decide : xc2 .ge (Int32.ofNat 7) (7 : Int32) = true)]
      refine hQ σ ⟨fun f i => ?_, hR.2⟩
      rw [hR.1 f i]
      unfold g4
      by_cases w : f = 126
      · rw [if_pos w, if_neg (Nat.not_lt_zero _), w]
        rfl
      · rw [if_neg w]
    · have hk : k < 7 := by omega
      rw [if_neg (fun z => by
        have := of_decide_eq_true (e.symm.trans z)
        omega), hc, show ((1 : Int32) &&& 1) = 1 by decide]
      refine WP_st rfl 7 rfl hk ?_
      refine WP_st rfl 7 rfl hk ?_
      refine WP_st rfl 7 rfl hk ?_
      refine WP_st rfl 7 rfl hk ?_
      refine WP_st rfl 7 rfl hk ?_
      refine WP_st rfl 7 rfl hk ?_
      refine WP_ld rfl 7 rfl hk ?_
      rw [setI_e]
      refine WP_st rfl 7 rfl hk ?_
      refine WP_ld rfl 7 rfl hk ?_
      rw [setI_f (by decide), setI_e]
      refine WP_eq rfl ?_
      refine WP_st rfl 7 rfl hk ?_
      refine WP_st rfl 7 rfl hk ?_
      refine WP_st rfl 7 rfl hk ?_
      refine WP_st rfl 7 rfl hk ?_
      refine WP_st rfl 7 rfl hk ?_
      refine WP_stL rfl 7 rfl hk ?_
      rw [i_s]
      exact ih (k + 1) _ (by omega) (by omega) (g3_s hR)
theorem W_1079 {F : Nat} {m l4 : Int32} {J : Int64} {Q : RS → Prop} (hQ : ∀ σ, iV (g3 m 0) (h3 J 0) σ → WP (m_init_b1103 F F σ J l4 (Int32.ofNat 0)) Q) : ∀ (n k : Nat) (σ : RS), k ≤ 16 → 16 - k < n → iV (g2 k) (fun _ _ => 0) σ → WP (m_init_b1079 F n σ J l4 (Int32.ofNat k)) Q := by
  intro n
  induction n with
  | zero => intro k σ h1 h2; omega
  | succ n ih =>
    intro k σ h1 h2 hR
    unfold m_init_b1079
    dsimp only
    have e := i_ge (p := k) (q := 16) (by omega) (by omega)
    by_cases q : k = 16
    · subst q
      rw [if_pos (by decide : xc2 .ge (Int32.ofNat 16) (16 : Int32) = true)]
      refine hQ σ ⟨fun f i => ?_, fun f i => ?_⟩
      · rw [hR.1 f i]
        unfold g3
        by_cases w : f = 145
        · rw [if_pos w, if_neg (fun y => Nat.lt_irrefl _ y.2), w]
          rfl
        · rw [if_neg w]
          by_cases x : isA f = true
          · rw [if_pos x, if_neg (Nat.not_lt_zero _)]
            have w2 : ¬ f = 29 := fun z => by
              rw [z] at x
              exact absurd x (by decide)
            have w3 : ¬ f = 23 := fun z => by
              rw [z] at x
              exact absurd x (by decide)
            unfold g2 g1
            rw [if_neg w2, if_neg w3]
          · rw [if_neg x]
      · rw [hR.2 f i]
        unfold h3
        rw [if_neg (fun y => Nat.not_lt_zero _ y.2)]
    · rw [if_neg (fun z => by
        have := of_decide_eq_true (e.symm.trans z)
        omega)]
      refine WP_st rfl 16 rfl (by omega) ?_
      rw [i_s]
      exact ih (k + 1) _ (by omega) (by omega) (g2_s hR)
theorem W_1054 {F : Nat} {l4 : Int32} {J : Int64} {Q : RS → Prop} (hQ : ∀ σ, iV (g2 0) (fun _ _ => 0) σ → WP (m_init_b1079 F F σ J l4 (Int32.ofNat 0)) Q) : ∀ (n k : Nat) (σ : RS), k ≤ 256 → 256 - k < n → iV (g1 k) (fun _ _ => 0) σ → WP (m_init_b1054 F n σ J l4 (Int32.ofNat k)) Q := by
  intro n
  induction n with
  | zero => intro k σ h1 h2; omega
  | succ n ih =>
    intro k σ h1 h2 hR
    unfold m_init_b1054
    dsimp only
    have e := i_ge (p := k) (q := 256) (by omega) (by omega)
    by_cases q : k = 256
    · subst q
      rw [if_pos (by decide : xc2 .ge (Int32.ofNat 256) (256 : Int32) = true)]
      refine hQ σ ⟨fun f i => ?_, hR.2⟩
      rw [hR.1 f i]
      unfold g2
      by_cases w : f = 29
      · rw [if_pos w, if_neg (Nat.not_lt_zero _), w]
        rfl
      · rw [if_neg w]
    · rw [if_neg (fun z => by
        have := of_decide_eq_true (e.symm.trans z)
        omega)]
      refine WP_st rfl 256 rfl (by omega) ?_
      rw [i_s]
      exact ih (k + 1) _ (by omega) (by omega) (g1_s hR)
/-! what it holds is the agreed store's -/
def u0 : AU := ((none, fun _ => 0), fun _ => True)
def nF : AF := (fun _ => 0, [], ([], []))
theorem b_sc {m : Int32} {J : Int64} {σ : RS} (q : iV (g4 m 8) (h3 J 7) σ) : ∀ f ∈ scF, ∀ i, i < max 1 (rlen f) → σ.1 f i = nB m f i := by
  intro f hf i hi
  rw [q.1 f i]
  simp only [scF, List.mem_cons, List.not_mem_nil, or_false] at hf
  rcases hf with rfl | rfl | rfl | rfl | rfl | rfl | rfl | rfl | rfl | rfl | rfl | rfl | rfl | rfl | rfl | rfl | rfl | rfl | rfl | rfl | rfl | rfl | rfl | rfl | rfl | rfl | rfl | rfl | rfl | rfl | rfl | rfl | rfl | rfl | rfl | rfl | rfl | rfl | rfl | rfl | rfl | rfl | rfl | rfl | rfl | rfl | rfl | rfl | rfl | rfl | rfl | rfl | rfl | rfl | rfl | rfl | rfl | rfl | rfl | rfl | rfl | rfl | rfl
  · exact (show g4 m 8 0 i = 0 from rfl).trans (show nB m 0 i = 0 from rfl).symm
  · exact (show g4 m 8 1 i = 0 from rfl).trans (show nB m 1 i = 0 from rfl).symm
  · exact (show g4 m 8 2 i = 0 from rfl).trans (show nB m 2 i = 0 from rfl).symm
  · exact (show g4 m 8 3 i = 0 from rfl).trans (show nB m 3 i = 0 from rfl).symm
  · exact (show g4 m 8 21 i = 0 from rfl).trans (show nB m 21 i = 0 from rfl).symm
  · exact (show g4 m 8 22 i = 0 from rfl).trans (show nB m 22 i = 0 from rfl).symm
  · have hi2 : i < 256 := hi
    show (if i < 256 then 3 else 0) = _
    rw [if_pos hi2]
    rfl
  · exact (show g4 m 8 24 i = 0 from rfl).trans (show nB m 24 i = 0 from rfl).symm
  · exact (show g4 m 8 25 i = 0 from rfl).trans (show nB m 25 i = 0 from rfl).symm
  · exact (show g4 m 8 26 i = 0 from rfl).trans (show nB m 26 i = 0 from rfl).symm
  · exact (show g4 m 8 27 i = 0 from rfl).trans (show nB m 27 i = 0 from rfl).symm
  · have hi2 : i < 16 := hi
    show (if i < 16 then -1 else 0) = _
    rw [if_pos hi2]
    rfl
  · exact (show g4 m 8 30 i = 0 from rfl).trans (show nB m 30 i = 0 from rfl).symm
  · have hi2 : i < 7 := hi
    show (if i < 7 then -1 else 0) = _
    rw [if_pos hi2]
    rfl
  · exact (show g4 m 8 32 i = 0 from rfl).trans (show nB m 32 i = 0 from rfl).symm
  · exact (show g4 m 8 43 i = 0 from rfl).trans (show nB m 43 i = 0 from rfl).symm
  · have hi2 : i < 7 := hi
    show (if i < 7 then -1 else 0) = _
    rw [if_pos hi2]
    rfl
  · exact (show g4 m 8 46 i = 0 from rfl).trans (show nB m 46 i = 0 from rfl).symm
  · have hi2 : i < 7 := hi
    show (if i < 7 then -1 else 0) = _
    rw [if_pos hi2]
    rfl
  · have hi2 : i < 7 := hi
    show (if i < 7 then 1 else 0) = _
    rw [if_pos hi2]
    rfl
  · exact (show g4 m 8 53 i = 0 from rfl).trans (show nB m 53 i = 0 from rfl).symm
  · have hi2 : i < 7 := hi
    show (if i < 7 then -1 else 0) = _
    rw [if_pos hi2]
    rfl
  · exact (show g4 m 8 55 i = 0 from rfl).trans (show nB m 55 i = 0 from rfl).symm
  · exact (show g4 m 8 56 i = 0 from rfl).trans (show nB m 56 i = 0 from rfl).symm
  · exact (show g4 m 8 57 i = 0 from rfl).trans (show nB m 57 i = 0 from rfl).symm
  · have hi2 : i < 7 := hi
    show (if i < 7 then m else 0) = _
    rw [if_pos hi2]
    rfl
  · exact (show g4 m 8 64 i = 0 from rfl).trans (show nB m 64 i = 0 from rfl).symm
  · have hi2 : i < 7 := hi
    show (if i < 7 then m else 0) = _
    rw [if_pos hi2]
    rfl
  · exact (show g4 m 8 67 i = 0 from rfl).trans (show nB m 67 i = 0 from rfl).symm
  · have hi2 : i < 7 := hi
    show (if i < 7 then -1 else 0) = _
    rw [if_pos hi2]
    rfl
  · exact (show g4 m 8 70 i = 0 from rfl).trans (show nB m 70 i = 0 from rfl).symm
  · exact (show g4 m 8 71 i = 0 from rfl).trans (show nB m 71 i = 0 from rfl).symm
  · have hi2 : i < 7 := hi
    show (if i < 7 then 2 else 0) = _
    rw [if_pos hi2]
    rfl
  · exact (show g4 m 8 73 i = 0 from rfl).trans (show nB m 73 i = 0 from rfl).symm
  · have hi2 : i < 7 := hi
    show (if i < 7 then -1 else 0) = _
    rw [if_pos hi2]
    rfl
  · exact (show g4 m 8 75 i = 0 from rfl).trans (show nB m 75 i = 0 from rfl).symm
  · exact (show g4 m 8 76 i = 0 from rfl).trans (show nB m 76 i = 0 from rfl).symm
  · exact (show g4 m 8 77 i = 0 from rfl).trans (show nB m 77 i = 0 from rfl).symm
  · have hi2 : i < 7 := hi
    show (if i < 7 then -2000000000 else 0) = _
    rw [if_pos hi2]
    rfl
  · exact (show g4 m 8 79 i = 0 from rfl).trans (show nB m 79 i = 0 from rfl).symm
  · have hi2 : i < 7 := hi
    show (if i < 7 then -1 else 0) = _
    rw [if_pos hi2]
    rfl
  · exact (show g4 m 8 81 i = 0 from rfl).trans (show nB m 81 i = 0 from rfl).symm
  · exact (show g4 m 8 82 i = 0 from rfl).trans (show nB m 82 i = 0 from rfl).symm
  · exact (show g4 m 8 83 i = 0 from rfl).trans (show nB m 83 i = 0 from rfl).symm
  · exact (show g4 m 8 86 i = 0 from rfl).trans (show nB m 86 i = 0 from rfl).symm
  · exact (show g4 m 8 87 i = 0 from rfl).trans (show nB m 87 i = 0 from rfl).symm
  · exact (show g4 m 8 88 i = 0 from rfl).trans (show nB m 88 i = 0 from rfl).symm
  · exact (show g4 m 8 89 i = 0 from rfl).trans (show nB m 89 i = 0 from rfl).symm
  · exact (show g4 m 8 90 i = 0 from rfl).trans (show nB m 90 i = 0 from rfl).symm
  · exact (show g4 m 8 91 i = 0 from rfl).trans (show nB m 91 i = 0 from rfl).symm
  · exact (show g4 m 8 92 i = 0 from rfl).trans (show nB m 92 i = 0 from rfl).symm
  · exact (show g4 m 8 93 i = 0 from rfl).trans (show nB m 93 i = 0 from rfl).symm
  · exact (show g4 m 8 124 i = 0 from rfl).trans (show nB m 124 i = 0 from rfl).symm
  · exact (show g4 m 8 125 i = 0 from rfl).trans (show nB m 125 i = 0 from rfl).symm
  · have hi2 : i < 8 := hi
    show (if i < 8 then -1 else 0) = _
    rw [if_pos hi2]
    rfl
  · exact (show g4 m 8 127 i = 0 from rfl).trans (show nB m 127 i = 0 from rfl).symm
  · exact (show g4 m 8 128 i = 0 from rfl).trans (show nB m 128 i = 0 from rfl).symm
  · exact (show g4 m 8 129 i = 0 from rfl).trans (show nB m 129 i = 0 from rfl).symm
  · exact (show g4 m 8 130 i = 0 from rfl).trans (show nB m 130 i = 0 from rfl).symm
  · exact (show g4 m 8 131 i = 0 from rfl).trans (show nB m 131 i = 0 from rfl).symm
  · exact (show g4 m 8 137 i = 0 from rfl).trans (show nB m 137 i = 0 from rfl).symm
  · exact (show g4 m 8 141 i = 0 from rfl).trans (show nB m 141 i = 0 from rfl).symm
  · have hi2 : i < 1 := hi
    obtain rfl : i = 0 := by omega
    show (if 0 = 0 ∧ 0 < 7 then m else 0) = _
    rw [if_pos ⟨rfl, by decide⟩]
    unfold nB
    rw [if_neg (by decide), if_neg (by decide), if_neg (by decide), if_pos (by decide)]
theorem b_z {m : Int32} {J : Int64} {σ : RS} {f i : Nat} (q : iV (g4 m 8) (h3 J 7) σ) (h : g4 m 8 f i = 0) : σ.1 f i = 0 := (q.1 f i).trans h
theorem b_fl {m : Int32} {J : Int64} {σ : RS} {k f : Nat} (q : iV (g4 m 8) (h3 J 7) σ) : RFl [] σ k f nF := by
  refine ⟨b_z q rfl, Or.inl rfl, b_z q rfl, ⟨0, by decide, rfl, fun _ => rfl, fun _ => Nat.zero_le _, fun i v h => absurd h (Nat.not_lt_zero _)⟩, fun e h => absurd h (List.not_mem_nil), fun _ h => absurd (show (0 : Int32) = 1 from h) (by decide), fun _ _ h => absurd (show (0 : Int32) = 1 from h) (by decide)⟩
theorem b_dk {m : Int32} {J : Int64} {σ : RS} {s : Nat} (q : iV (g4 m 8) (h3 J 7) σ) : RDk [] σ s (fun _ => nF) (fun _ => nF) := by
  intro f _
  refine ⟨b_fl q, b_fl q, Or.inl (b_z q rfl), fun _ => ⟨fun g hg => ?_, fun i hi => ?_⟩⟩
  · simp only [List.mem_cons, List.not_mem_nil, or_false] at hg
    rcases hg with rfl | rfl | rfl | rfl | rfl | rfl
    · exact (b_z q rfl).trans (b_z q rfl).symm
    · exact (b_z q rfl).trans (b_z q rfl).symm
    · exact (b_z q rfl).trans (b_z q rfl).symm
    · exact (b_z q rfl).trans (b_z q rfl).symm
    · exact (b_z q rfl).trans (b_z q rfl).symm
    · exact (b_z q rfl).trans (b_z q rfl).symm
  · have e : σ.1 37 (2 * rFx s f) = 0 := b_z q rfl
    rw [e] at hi
    exact absurd hi (Nat.not_lt_zero _)
theorem b_sl {σ : RS} {s : Nat} {w : Int32} : RSl σ s w (fun _ => nF) (fun _ => nF) := by
  intro x y _ _ Fx Fy kx ky h
  have e : Fx = nF := by
    show (if x.2 = true then nF else nF) = nF
    by_cases z : x.2 = true
    · rw [if_pos z]
    · rw [if_neg z]
  rw [e] at h
  exact absurd (show (0 : Int32) = 1 from h) (by decide)
theorem b_mc {m : Int32} {J : Int64} {σ : RS} {s : Nat} (q : iV (g4 m 8) (h3 J 7) σ) : RMc σ s ([], []) := by
  refine ⟨wf_0.1, b_z q rfl, b_z q rfl, fun i h => absurd h (Nat.not_lt_zero _), [], rfl, List.nodup_nil, fun k h => absurd h (List.not_mem_nil), fun k _ => ?_, fun i h => absurd h (Nat.not_lt_zero _)⟩
  rw [if_neg (List.not_mem_nil)]
  exact b_z q rfl
theorem b_rq {m : Int32} {J : Int64} {σ : RS} {s : Nat} (q : iV (g4 m 8) (h3 J 7) σ) : RRq [] σ s 0 0 [] := by
  refine ⟨0, rfl, by decide, b_z q rfl, List.Pairwise.nil, fun q h => absurd h (List.not_mem_nil), fun w _ => ?_⟩
  exact (b_z q rfl).trans (if_neg (fun h => absurd h (List.not_mem_nil))).symm
theorem b_way {m : Int32} {J : Int64} {σ : RS} (q : iV (g4 m 8) (h3 J 7) σ) : RWay [] σ [] := by
  refine ⟨b_z q rfl, by decide, [], rfl, List.nodup_nil, fun p h => absurd h (List.not_mem_nil), fun k _ => ?_⟩
  exact (b_z q rfl).trans (if_neg (fun h => absurd h (List.not_mem_nil))).symm
theorem b_lc {m : Int32} {J : Int64} : aLoc ((nB m, nL0 J), nX) := by
  have e1 : aS ((nB m, nL0 J), nX) 27 0 = 0 := rfl
  have e2 : ∀ i, aS ((nB m, nL0 J), nX) 43 i = 0 := fun i => rfl
  have e3 : ∀ i, aS ((nB m, nL0 J), nX) 150 i = 0 := fun i => rfl
  have e4 : ∀ i, aS ((nB m, nL0 J), nX) 45 i = -1 := fun i => rfl
  have e5 : ∀ i, aS ((nB m, nL0 J), nX) 46 i = 0 := fun i => rfl
  refine ⟨by rw [e1]; decide, by rw [e1]; decide, fun s _ f _ => ?_, fun s _ => by rw [e3]; decide, fun s _ => ⟨Or.inl (e4 s), Or.inl (e5 s)⟩⟩
  rw [e2]
  exact ⟨by decide, show (0 : Int32) ≤ 0 by decide⟩
theorem b_wl {m : Int32} {J : Int64} {s : Nat} : WLg ((nB m, nL0 J), nX) s := by
  have e1 : aBase ((nB m, nL0 J), nX) s = 0 := rfl
  have e2 : aLast ((nB m, nL0 J), nX) s = 0 := rfl
  have e3 : (aLg ((nB m, nL0 J), nX) s).length = 0 := rfl
  unfold WLg
  rw [e1, e2, e3]
  decide
theorem b_wm {m : Int32} {J : Int64} {s : Nat} : WMk ((nB m, nL0 J), nX) s := by
  have e1 : aBase ((nB m, nL0 J), nX) s = 0 := rfl
  have e2 : aLast ((nB m, nL0 J), nX) s = 0 := rfl
  have e3 : aS ((nB m, nL0 J), nX) 75 s = 0 := rfl
  have e4 : aS ((nB m, nL0 J), nX) 76 s = 0 := rfl
  have e5 : aS ((nB m, nL0 J), nX) 77 s = 0 := rfl
  unfold WMk
  rw [e1, e2, e3, e4, e5]
  decide
theorem b_sum {m : Int32} {J : Int64} : aSum ((nB m, nL0 J), nX) = 0 := by
  have e : ∀ i, aS ((nB m, nL0 J), nX) 150 i = 0 := fun i => rfl
  unfold aSum
  rw [e, e, e, e, e, e, e]
  decide
theorem b_73 {m : Int32} {J : Int64} {s : Nat} : aS ((nB m, nL0 J), nX) 73 s = 0 := rfl
theorem b_69 {m : Int32} {J : Int64} {s : Nat} : aS ((nB m, nL0 J), nX) 69 s = -1 := rfl
theorem b_67 {m : Int32} {J : Int64} {s : Nat} : aS ((nB m, nL0 J), nX) 67 s = 0 := rfl
theorem b_124 {m : Int32} {J : Int64} {s : Nat} : aS ((nB m, nL0 J), nX) 124 s = 0 := rfl
theorem b_151 {m : Int32} {J : Int64} {s : Nat} : aS ((nB m, nL0 J), nX) 151 s = 0 := rfl
theorem b_RM {m : Int32} {J : Int64} {σ : RS} (q : iV (g4 m 8) (h3 J 7) σ) : RM σ ((nB m, nL0 J), nX) u0 := by
  refine ⟨⟨b_sc q, q.2 28 0, fun s hs => ?_⟩, b_way q, fun s _ => ⟨b_z q rfl, Nat.zero_le _, fun i h => absurd h (Nat.not_lt_zero _)⟩, fun l h => ?_, fun s _ i h => absurd h (Nat.not_lt_zero _), fun s _ => b_dk q, fun s _ => b_sl, fun s _ _ => ⟨b_z q rfl, Nat.zero_le _, fun i h => absurd h (Nat.not_lt_zero _)⟩, fun s _ _ f h => absurd h (List.not_mem_nil), fun s _ => b_mc q, fun s _ => ⟨wf_0.1, Or.inl ⟨b_67, rfl⟩⟩, fun s _ => Or.inl b_69, fun s _ => ?_, ⟨b_z q rfl, Nat.zero_le _, fun k h => absurd h (List.not_mem_nil), fun j h => absurd h (Nat.not_lt_zero _)⟩, fun c _ => Or.inl b_124, ⟨b_z q rfl, Nat.zero_le _, fun k h => absurd h (List.not_mem_nil), fun j h => absurd h (Nat.not_lt_zero _)⟩, ⟨b_z q rfl, Nat.zero_le _, fun j h => absurd h (Nat.not_lt_zero _)⟩, fun c _ => ⟨b_z q rfl, Nat.zero_le _, fun j h => absurd h (Nat.not_lt_zero _), fun k h => absurd h (List.not_mem_nil)⟩, ?_, b_lc, fun s _ => b_wl, fun s _ _ _ => ⟨List.nodup_nil, fun f _ _ h => absurd (show (0 : Int32) = 1 from h) (by decide), Or.inl ⟨rfl, rfl⟩⟩, fun s _ _ => b_wm, fun s _ _ h => ?_⟩
  · rw [q.2 84 s]
    exact (if_pos ⟨rfl, hs⟩).trans (nL_e (J := J) (k := s)).symm
  · cases h
  · rw [b_151]
    exact b_rq q
  · rw [b_sum]
    exact b_z q rfl
  · rw [b_73] at h
    exact absurd h (by decide)
theorem S2 {n : Int32} {J : Int64} : ∃ σ0, m_init 300 n J = some σ0 ∧ RM σ0 (A_new n J) u0 := by
  have key : ∀ l4, aMany7 n = l4 → WP (m_init_b1049 300 rZ l4 J) (fun σ' => RM σ' (A_new n J) u0) := by
    intro l4 e
    have hc : ((1 : Int32) <<< (l4 &&& 31)) - 1 = aCode0 n := by
      unfold aCode0
      obtain ⟨k, hk, e2⟩ := m7_c n
      rw [← e, e2]
      exact m7_s k hk
    refine W_1054 (fun σ h1 => ?_) 300 0 rZ (by omega) (by omega) ⟨fun f i => ?_, fun f i => rfl⟩
    · refine W_1079 (m := aCode0 n) (fun σ h2 => ?_) 300 0 σ (by omega) (by omega) h1
      refine W_1103 hc (fun σ h3 => ?_) 300 0 σ (by omega) (by omega) h2
      refine W_1251 (fun σ h4 => ?_) 300 0 σ (by omega) (by omega) h3
      exact W_1275 300 0 σ (by omega) (by omega) (b_RM h4)
    · unfold g1
      by_cases w : f = 23
      · rw [if_pos w, if_neg (Nat.not_lt_zero _)]
        rfl
      · rw [if_neg w]
        rfl
  show WP (m_init_b1028 300 rZ n J) _
  unfold m_init_b1028
  refine WP_if c2_ge (fun h1 => WP_if c2_le (fun h7 => ?_) (fun h7 => ?_)) (fun h1 => ?_)
  · refine key n ?_
    unfold aMany7
    rw [if_neg (fun z => by
      rw [Int32.le_iff_toInt_le] at h1
      rw [Int32.lt_iff_toInt_lt] at z
      omega), if_neg (fun z => by
      rw [Int32.le_iff_toInt_le] at h7
      rw [Int32.lt_iff_toInt_lt] at z
      omega)]
  · refine key 7 ?_
    unfold aMany7
    rw [if_neg (fun z => by
      rw [Int32.le_iff_toInt_le] at h1
      rw [Int32.lt_iff_toInt_lt] at z
      omega), if_pos (by
      rw [Int32.le_iff_toInt_le] at h7
      rw [Int32.lt_iff_toInt_lt]
      omega)]
  · refine key 1 ?_
    unfold aMany7
    rw [if_pos (by
      rw [Int32.le_iff_toInt_le] at h1
      rw [Int32.lt_iff_toInt_lt]
      omega)]
