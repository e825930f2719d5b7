/-! the entries of a segment are read into the log -/
def rPl (s m : Nat) : Nat := 512 * s + m % 512
theorem rPl_e {s m : Nat} (h : m < 2147483648) : rLp s (Int32.ofNat m) = rPl s m := by
  unfold rLp rPl
  rw [rMod_n (by rw [Int32.toInt_ofNat_of_lt h]; omega), Int32.toInt_ofNat_of_lt h]
  rfl
/-- an entry lies in the log -/
def LgE (K : List AK) (τ : RS) (s m : Nat) (e : AE) (o : Int32) : Prop := τ.1 59 (rPl s m) = e.1 ∧ τ.1 60 (rPl s m) = e.2.1 ∧ τ.1 61 (rPl s m) = e.2.2.1 ∧ wfE K e ∧ (eCon K e).length ≤ 256 ∧ bM (fun q => rB (τ.2 63) (256 * rPl s m + q)) (eCon K e) 256 ∧ τ.1 62 (rPl s m) = o
def Lgs (K : List AK) (τ : RS) (s b : Nat) (L : List (AE × Int32)) : Prop := ∀ j, j < L.length → LgE K τ s (b + 1 + j) (L.getD j (aE0, 0)).1 (L.getD j (aE0, 0)).2
/-- what reading changes -/
def SLe (s : Nat) (σ τ : RS) : Prop := (∀ f i, ¬ (59 ≤ f ∧ f ≤ 62 ∧ i / 512 = s) → τ.1 f i = σ.1 f i) ∧ ∀ f i, ¬ (f = 63 ∧ i / 16384 = s) → τ.2 f i = σ.2 f i
theorem SLe_r {s : Nat} {σ : RS} : SLe s σ σ := ⟨fun _ _ _ => rfl, fun _ _ _ => rfl⟩
theorem SLe_t {s : Nat} {σ τ τ' : RS} (h : SLe s σ τ) (h' : SLe s τ τ') : SLe s σ τ' := ⟨fun f i q => (h'.1 f i q).trans (h.1 f i q), fun f i q => (h'.2 f i q).trans (h.2 f i q)⟩
theorem SLe_g {s m : Nat} {σ τ : RS} (h : SLg (rPl s m) σ τ) : SLe s σ τ := by
  have := Nat.mod_lt m (show 0 < 512 by decide)
  exact ⟨fun f i q => h.1 f i (fun z => q ⟨z.1, z.2.1, by rw [z.2.2]; unfold rPl; omega⟩), fun f i q => h.2 f i (fun z => q ⟨z.1, by have := z.2; unfold rPl at this; omega⟩)⟩
theorem LgE_o {K : List AK} {σ τ : RS} {s m p : Nat} {e : AE} {o : Int32} (h : SLg p σ τ) (q : rPl s m ≠ p) (z : LgE K σ s m e o) : LgE K τ s m e o := by
  obtain ⟨z1, z2, z3, z4, z5, z6, z7⟩ := z
  refine ⟨(h.1 59 _ (by omega)).trans z1, (h.1 60 _ (by omega)).trans z2, (h.1 61 _ (by omega)).trans z3, z4, z5, fun y v hy hv => ?_, (h.1 62 _ (by omega)).trans z7⟩
  show rB (τ.2 63) _ = v
  rw [SLg_b h q hy]
  exact z6 y v hy hv
theorem Lgs_o {K : List AK} {σ τ : RS} {s b n : Nat} {L : List (AE × Int32)} (h : SLg (rPl s n) σ τ) (hn : b + 1 + L.length ≤ n) (hn2 : n < b + 1 + 512) (z : Lgs K σ s b L) : Lgs K τ s b L := by
  intro j hj
  refine LgE_o h ?_ (z j hj)
  unfold rPl
  omega
/-- a frame's content is copied -/
theorem rec_copy {F : Nat} {K196 : RS → Int32 → Int32 → Int32 → Int32 → Int32 → Int32 → Option RS} {K260 : RS → Int32 → Int32 → Int32 → Int32 → Int32 → Int32 → Int32 → Int32 → Option RS} {K : List AK} {σ τ0 : RS} {s k S i m : Nat} {G : AF} {l3 l4 l5 l6 l9 : Int32} {Q : RS → Prop} (hF : 300 ≤ F) (hs : s < 7) (hG : SegF K σ k G S) (hi : i < G.2.1.length) (hS : ofs K G.2.1 (i + 1) ≤ S) (e36 : τ0.2 36 = σ.2 36)
    (v59 : τ0.1 59 (rPl s m) = (G.2.1.getD i aE0).1) (v60 : τ0.1 60 (rPl s m) = (G.2.1.getD i aE0).2.1) (v61 : τ0.1 61 (rPl s m) = (G.2.1.getD i aE0).2.2.1) (v62 : τ0.1 62 (rPl s m) = Int32.ofNat (ofs K G.2.1 i))
    (fin : ∀ τ, SLg (rPl s m) τ0 τ → LgE K τ s m (G.2.1.getD i aE0) (Int32.ofNat (ofs K G.2.1 i)) → WP (m_recoverLog_b470 F K196 K260 τ (Int32.ofNat s) l3 l4 l5 l6 (Int32.ofNat k) (Int32.ofNat (ofs K G.2.1 i)) l9) Q) :
    WP (m_recoverLog_b420 F K196 K260 F τ0 (Int32.ofNat s) l3 l4 l5 l6 (Int32.ofNat k) (Int32.ofNat (ofs K G.2.1 i)) l9 (Int32.ofNat (rPl s m)) 0) Q := by
  obtain ⟨hk, h24, hS14, h4, h6, h7, h8⟩ := id hG
  have hm512 := Nat.mod_lt m (show 0 < 512 by decide)
  have hp : rPl s m < 3584 := by unfold rPl; omega
  have hmem : G.2.1.getD i aE0 ∈ G.2.1 := by
    rw [List.getD_eq_getElem?_getD, List.getElem?_eq_getElem hi]
    exact List.getElem_mem _
  obtain ⟨we, wl⟩ := h8 _ hmem
  have hos := ofs_s (K := K) hi
  have hat : ∀ q x, (eCon K (G.2.1.getD i aE0))[q]? = some (some x) → rB (σ.2 36) (14000 * k + (ofs K G.2.1 i + (25 + q))) = x := by
    intro q x hx
    have hq : q < (eCon K (G.2.1.getD i aE0)).length := by
      obtain ⟨h1, _⟩ := List.getElem?_eq_some_iff.mp hx
      exact h1
    exact seg_at hG hi (by omega) ((eFr_at (x := x)).2.2.2.2 _ hx)
  generalize hP : rPl s m = p at hp v59 v60 v61 v62 fin ⊢
  have loop : ∀ n j (τ : RS), (eCon K (G.2.1.getD i aE0)).length + 1 ≤ j + n → j ≤ (eCon K (G.2.1.getD i aE0)).length → SLg p τ0 τ → Fr [] [63] τ0 τ → (∀ y, y < j → gB τ p y = rB (σ.2 36) (14000 * k + (ofs K G.2.1 i + (25 + y)))) → WP (m_recoverLog_b420 F K196 K260 n τ (Int32.ofNat s) l3 l4 l5 l6 (Int32.ofNat k) (Int32.ofNat (ofs K G.2.1 i)) l9 (Int32.ofNat p) (Int32.ofNat j)) Q := by
    intro n
    induction n with
    | zero => intro j τ h1 h2; omega
    | succ n ih =>
      intro j τ h1 h2 hg hFr hy
      unfold m_recoverLog_b420
      refine WP_ld rfl 3584 (by decide +kernel) hp ?_
      rw [hFr.1 61 (by simp), v61, we.1]
      refine WP_if (i_gei (by omega) (by omega)) (fun q => ?_) (fun q => ?_)
      · have : j = (eCon K (G.2.1.getD i aE0)).length := by omega
        subst this
        refine fin τ hg ?_
        unfold LgE
        rw [hP]
        refine ⟨by rw [hFr.1 59 (by simp)]; exact v59, by rw [hFr.1 60 (by simp)]; exact v60, by rw [hFr.1 61 (by simp)]; exact v61, we, wl, fun y v _ hv => ?_, by rw [hFr.1 62 (by simp)]; exact v62⟩
        have hyl : y < (eCon K (G.2.1.getD i aE0)).length := by
          obtain ⟨g1, _⟩ := List.getElem?_eq_some_iff.mp hv
          exact g1
        have := hy y hyl
        unfold gB at this
        show rB (τ.2 63) (256 * p + y) = v
        rw [this]
        exact hat y v hv
      · rw [show (14000 : Int32) * Int32.ofNat k + Int32.ofNat (ofs K G.2.1 i) + 25 + Int32.ofNat j = Int32.ofNat (14000 * k + (ofs K G.2.1 i + (25 + j))) by
          rw [show (14000 : Int32) * Int32.ofNat k + Int32.ofNat (ofs K G.2.1 i) = Int32.ofNat (14000 * k + ofs K G.2.1 i) from i_ma (c := 14000), show (25 : Int32) = Int32.ofNat 25 from rfl, i_ad, i_ad]
          congr 1
          omega, show (256 : Int32) * Int32.ofNat p + Int32.ofNat j = Int32.ofNat (256 * p + j) from i_ma (c := 256)]
        refine WP_eq (m_onDisk_n (by omega)) ?_
        refine WP_eq (m_layLog_n (by omega)) ?_
        rw [i_s]
        refine ih (j + 1) _ (by omega) (by omega) (SLg_L hg (by omega)) (Fr_w (Fr_t hFr Fr_L) (by simp) (by simp)) (fun y hy2 => ?_)
        rw [gB_lay]
        by_cases z : y = j
        · rw [if_pos z, z, rB_8, hFr.2 36 (by decide), e36]
        · rw [if_neg z]
          exact hy y (by omega)
  exact loop F 0 τ0 (by omega) (Nat.zero_le _) SLg_refl ⟨fun _ _ => rfl, fun _ _ => rfl⟩ (fun y hy => absurd hy (Nat.not_lt_zero _))
/-- what reading a segment's first entries gives -/
def scL (K : List AK) (G : AF) (b n0 : Nat) (L0 : List (AE × Int32)) (i : Nat) : List (AE × Int32) := L0 ++ (((List.range i).map (fun j => (G.2.1.getD j aE0, Int32.ofNat (ofs K G.2.1 j)))).drop (b - n0))
def scT (G : AF) (t0 : Int32) (i : Nat) : Int32 := if i = 0 then t0 else (G.2.1.getD (i - 1) aE0).1
def scZ (b n0 : Nat) (z0 : Bool) (i : Nat) : Bool := z0 || decide (n0 < b ∧ b ≤ n0 + i)
def scM (G : AF) (T : Int32) (b n0 : Nat) (m0 : Bool) (i : Nat) : Bool := if n0 < b ∧ b ≤ n0 + i then decide ((G.2.1.getD (b - n0 - 1) aE0).1 = T) else m0
theorem scL_len {K : List AK} {G : AF} {b n0 i : Nat} {L0 : List (AE × Int32)} (h : L0.length = n0 - b) : (scL K G b n0 L0 i).length = n0 + i - b := by
  unfold scL
  rw [List.length_append, List.length_drop, List.length_map, List.length_range]
  omega
theorem scL_no {K : List AK} {G : AF} {b n0 i : Nat} {L0 : List (AE × Int32)} (h : L0.length = n0 - b) (hi : n0 + i + 1 ≤ b) : scL K G b n0 L0 (i + 1) = [] ∧ scL K G b n0 L0 i = [] := by
  have l1 := scL_len (K := K) (G := G) (i := i + 1) h
  have l2 := scL_len (K := K) (G := G) (i := i) h
  exact ⟨List.eq_nil_of_length_eq_zero (by omega), List.eq_nil_of_length_eq_zero (by omega)⟩
theorem scL_go {K : List AK} {G : AF} {b n0 i : Nat} {L0 : List (AE × Int32)} (hi : b ≤ n0 + i) : scL K G b n0 L0 (i + 1) = scL K G b n0 L0 i ++ [(G.2.1.getD i aE0, Int32.ofNat (ofs K G.2.1 i))] := by
  unfold scL
  rw [List.range_succ, List.map_append, List.drop_append_of_le_length (by rw [List.length_map, List.length_range]; omega), List.append_assoc]
  rfl
theorem Lgs_nil {K : List AK} {τ : RS} {s b : Nat} : Lgs K τ s b [] := fun j hj => absurd hj (Nat.not_lt_zero _)
theorem Lgs_app {K : List AK} {τ : RS} {s b : Nat} {L : List (AE × Int32)} {x : AE × Int32} (h : Lgs K τ s b L) (hx : LgE K τ s (b + 1 + L.length) x.1 x.2) : Lgs K τ s b (L ++ [x]) := by
  intro j hj
  rw [getD_app]
  by_cases q : j < L.length
  · rw [if_pos q]
    exact h j q
  · rw [List.length_append] at hj
    have e : j = L.length := by
      have : j < L.length + 1 := hj
      omega
    rw [if_neg q, if_pos e, e]
    exact hx
