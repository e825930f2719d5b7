/-! nothing goes away -/
abbrev xMono (h h' : xH) : Prop := h.2.1 ≤ h'.2.1 ∧ h.2.2 ≤ h'.2.2
theorem xMono.rfl' {h : xH} {G : Nat → xC} : xMono h (G, h.2) := ⟨Nat.le_refl _, Nat.le_refl _⟩
theorem xcall1_mono {cF : Nat → List Value → xH → Option (Option Value × xH)} (hcF : ∀ y as h r h', cF y as h = some (r, h') → xMono h h') {y pc pc' : Nat} {lv lv' : xL} {as rest st' : List Value} {h h' : xH} (he : xcall1 cF y pc lv as rest h = some (pc', lv', st', h')) : xMono h h' ∧ lv' = lv := by
  unfold xcall1 at he
  split at he
  · split at he
    next r h2 hcf => cases he; exact ⟨hcF _ _ _ _ _ hcf, rfl⟩
    next => cases he
  · cases he
theorem xast_inv {pc pc' : Nat} {lv lv' : xL} {h h' : xH} {v : Value} {i : Int32} {a tg : Nat} {r st' : List Value} (he : xast pc lv h v i a r tg = some (pc', lv', st', h')) : (h.1 a).1 = tg ∧ ¬ (i < 0 ∨ (h.1 a).2.1 ≤ i.toNatClampNeg) ∧ pc' = pc + 1 ∧ lv' = lv ∧ st' = r ∧ h' = (xset h.1 a ((h.1 a).1, (h.1 a).2.1, updV (h.1 a).2.2 i.toNatClampNeg v), h.2) := by
  unfold xast at he
  by_cases h1 : (h.1 a).1 = tg
  · rw [if_pos h1] at he
    by_cases h2 : i < 0 ∨ (h.1 a).2.1 ≤ i.toNatClampNeg
    · rw [if_pos h2] at he; cases he
    · rw [if_neg h2] at he; cases he; exact ⟨h1, h2, rfl, rfl, rfl, rfl⟩
  · rw [if_neg h1] at he; cases he
theorem xmem_mono {cF : Nat → List Value → xH → Option (Option Value × xH)} (hcF : ∀ y as h r h', cF y as h = some (r, h') → xMono h h') {o pc pc' : Nat} {ini : Bool} {i : Instr} {lv lv' : xL} {st st' : List Value} {h h' : xH} (he : xmem cF o ini i pc lv st h = some (pc', lv', st', h')) : xMono h h' ∧ lv' = lv := by
  cases i
  case putfield idx =>
    simp only [xmem] at he
    split at he
    · split at he
      · split at he
        · split at he
          · cases he; exact ⟨xMono.rfl', rfl⟩
          · cases he
        · cases he
      · cases he
    · split at he
      · cases he; exact ⟨xMono.rfl', rfl⟩
      · cases he
    · cases he
  case getfield idx =>
    simp only [xmem] at he
    split at he
    · split at he
      · cases he; exact ⟨⟨Nat.le_refl _, Nat.le_refl _⟩, rfl⟩
      · cases he
    · cases he
  case aastore =>
    simp only [xmem] at he
    split at he
    · split at he
      · obtain ⟨-, -, -, e1, -, e2⟩ := xast_inv he
        subst e1; subst e2; exact ⟨xMono.rfl', rfl⟩
      · split at he
        · obtain ⟨-, -, -, e1, -, e2⟩ := xast_inv he
          subst e1; subst e2; exact ⟨xMono.rfl', rfl⟩
        · split at he
          · obtain ⟨-, -, -, e1, -, e2⟩ := xast_inv he
            subst e1; subst e2; exact ⟨xMono.rfl', rfl⟩
          · split at he
            · obtain ⟨-, -, -, e1, -, e2⟩ := xast_inv he
              subst e1; subst e2; exact ⟨xMono.rfl', rfl⟩
            · cases he
    · obtain ⟨-, -, -, e1, -, e2⟩ := xast_inv he
      subst e1; subst e2; exact ⟨xMono.rfl', rfl⟩
    · cases he
  case anewarray idx =>
    simp only [xmem] at he
    split at he
    · split at he
      · cases he; exact ⟨⟨Nat.le_succ _, Nat.le_add_right _ _⟩, rfl⟩
      · cases he
    · cases he
  case iastore =>
    simp only [xmem, xast] at he
    split at he
    · split at he
      · split at he
        · cases he
        · cases he; exact ⟨xMono.rfl', rfl⟩
      · cases he
    · cases he
  case lastore =>
    simp only [xmem, xast] at he
    split at he
    · split at he
      · split at he
        · cases he
        · cases he; exact ⟨xMono.rfl', rfl⟩
      · cases he
    · cases he
  case bastore =>
    simp only [xmem] at he
    split at he
    · split at he
      · obtain ⟨-, -, -, e1, -, e2⟩ := xast_inv he
        subst e1; subst e2; exact ⟨xMono.rfl', rfl⟩
      · obtain ⟨-, -, -, e1, -, e2⟩ := xast_inv he
        subst e1; subst e2; exact ⟨xMono.rfl', rfl⟩
    · cases he
  case newarray t =>
    simp only [xmem] at he
    split at he
    · split at he
      · split at he
        · cases he; exact ⟨⟨Nat.le_succ _, Nat.le_add_right _ _⟩, rfl⟩
        · cases he
      · cases he
    · cases he
  case new idx =>
    simp only [xmem] at he
    split at he
    · split at he
      · cases he; exact ⟨⟨Nat.le_succ _, Nat.le_add_right _ _⟩, rfl⟩
      · cases he
    · cases he
  case invokevirtual idx =>
    simp only [xmem, xvirt] at he
    split at he
    · split at he
      · split at he
        · exact xcall1_mono hcF he
        · cases he
      · cases he
    · cases he
  case invokestatic idx =>
    simp only [xmem, xstat, xmath] at he
    split at he
    · split at he
      · split at he
        · split at he
          · cases he; exact ⟨⟨Nat.le_refl _, Nat.le_refl _⟩, rfl⟩
          · cases he
        · cases he
      · split at he
        · split at he
          · split at he
            · cases he; exact ⟨⟨Nat.le_refl _, Nat.le_refl _⟩, rfl⟩
            · cases he
          · cases he
        · split at he
          · exact xcall1_mono hcF he
          · cases he
    · split at he
      · split at he
        next f hcy =>
          cases he
          unfold xcopy at hcy
          split at hcy
          · split at hcy
            · cases hcy; exact ⟨xMono.rfl', rfl⟩
            · cases hcy
          · cases hcy
        next hcy =>
          unfold xcopyq at he
          split at he
          · split at he
            · cases he; exact ⟨xMono.rfl', rfl⟩
            · cases he
          · cases he
      · cases he
  case invokespecial idx =>
    simp only [xmem, xini] at he
    split at he
    · split at he
      · split at he
        · exact xcall1_mono hcF he
        · cases he
      · cases he
    · split at he
      · split at he
        · split at he
          · exact xcall1_mono hcF he
          · cases he
        · cases he
      · split at he
        · split at he
          · split at he
            · cases he; exact ⟨⟨Nat.le_refl _, Nat.le_refl _⟩, rfl⟩
            · cases he
          · cases he
        · cases he
  all_goals (simp only [xmem] at he; cases he)
section XS8
variable {p : Program} {l : Launch} {e : Env} {R : Room} {s : State} {m : MethodId} {args : Array Value} {below : List Frame} {meth : Method} {c : Code} {H : Heap} {locs : List Loc} {Q : State → Prop}
variable {cc : ByteArray} {pc nL : Nat} {ls : Array Slot} {G0 : Heap} {Y : State → Prop} {D : va_G} {dA : Nat → ClassId} {base d t0 u0 : Nat} {h h' : xH} {cF : Nat → List Value → xH → Option (Option Value × xH)}
set_option maxHeartbeats 2000000 in
theorem x_mem (hx : p.tables.exec = Jvm.exec) (hb : c.code = cc) (hml : c.maxLocals = nL) {o : Nat} (hown : s.vm.findClass (xOwn o) = some m.cls) (hts : ∀ w ∈ xALL, w.before args s = true) (hK : xKn Y D dA s) (hR : xRp G0 D dA base h H) (hbase : base ≤ h.2.1) {ini : Bool} (hini : ini = true → meth.name = "<init>")
    (hF1 : d + 1 ≤ R.frames) (hF2 : 60 * (d + 1) ≤ R.locals) (hcF : ∀ y as h r h', cF y as h = some (r, h') → xMet l G0 Y D dA base d y as h r h') (ht : t0 ≤ h.2.1) (hu : u0 ≤ h.2.2) (hL : ∀ q ∈ locs, base ≤ q.base)
    {i : Instr} {len : Nat} (hd : decode cc pc = .ok (i, len)) (hlen : xlen i = 0 ∨ xlen i = len) {lv lv' : xL} {st st' : List Value} {pc' : Nat} (hl : lv_has ls nL lv) (he : xmem cF o ini i pc lv st h = some (pc', lv', st', h')) (hc1 : h'.2.1 - t0 ≤ R.cells) (hc2 : h'.2.2 - u0 ≤ R.slots)
    (kk : ∀ (H' : Heap) (locs' : List Loc), xRp G0 D dA base h' H' → (∀ q ∈ locs', base ≤ q.base) → W p l e R s m args below meth c H' locs' (h'.2.1 - t0) (h'.2.2 - u0) Q (F0 m pc' ls st')) : W p l e R s m args below meth c H locs (h.2.1 - t0) (h.2.2 - u0) Q (F0 m pc ls st) := by
  have hra : ∀ (j : Nat) (ty : FieldType), (xtys dA)[j]? = some (dA j, ty) → (∀ C, ty ≠ .object C) → ∀ cA : ClassId, s.vm.findClass ("[" ++ ty.toString) = some cA → cA = dA j := by
    intro j ty hty hno cA hcA
    have h2 := (hK.1.2 j _ hty).2
    cases ty with
    | object C => exact absurd rfl (hno C)
    | _ => exact Option.some.inj (hcA.symm.trans h2)
  cases i
  case putfield idx =>
    obtain rfl : len = 3 := by simp only [xlen] at hlen; omega
    simp only [xmem] at he
    split at he
    next ci k v a r hf =>
      split at he
      next hcnd =>
        split at he
        next ty hty =>
          split at he
          next hv => cases he; exact x_putf hx hb hown hts hK hR hini hL hf hcnd.1 hcnd.2.2 hty hv hd kk
          next => cases he
        next => cases he
      next => cases he
    next x a r hf =>
      split at he
      next hq =>
        cases he
        exact x_modp hx hb hq.1 hown hts hK hR hL hq.2 hd kk
      next => cases he
    next => cases he
  case getfield idx =>
    obtain rfl : len = 3 := by simp only [xlen] at hlen; omega
    simp only [xmem] at he
    split at he
    next a r =>
      split at he
      next hq =>
        obtain ⟨rfl, rfl, ht4⟩ := hq
        cases he
        exact x_modg hx hb hown hts hK hR ht4 hd (kk H locs hR hL)
      next => cases he
    next => cases he
  case aastore =>
    obtain rfl : len = 1 := by simp only [xlen] at hlen; omega
    simp only [xmem] at he
    have hasg : ∀ (ci : Nat) (hci : ci < 17) (comp : ClassId), s.vm.findClass (xCl ci).1 = some comp → s.vm.assignable (D.1 ci) comp = true := by
      intro ci hci comp hcomp
      have hcls := (hK.1.1 ci _ (x_cl ci hci)).2
      have e1 : comp = D.1 ci := Option.some.inj (hcomp.symm.trans hcls.1)
      rw [e1]
      exact va_assign hcls
    split at he
    next v i a r =>
      split at he
      next hq =>
        obtain ⟨ht2, hi, e1, -, e2, e3⟩ := xast_inv he
        subst e1; subst e2; subst e3
        refine x_aastq (j := 4) (ci := 8) hx hb hK hR hL (by omega) rfl rfl (by omega) hq.2 hq.1 (fun comp hcomp => ?_) hi hd kk
        obtain ⟨c0, t1, f1, f2, f3⟩ := Cond.castable_spec (va_Nw.use (A := args) rfl hK.2.2.2.2.1)
        have hcls := (hK.1.1 8 _ (x_cl 8 (by omega))).2
        cases hcls.1.symm.trans f1
        cases hcomp.symm.trans f2
        exact f3
      next =>
        split at he
        next hq =>
          obtain ⟨ht2, hi, e1, -, e2, e3⟩ := xast_inv he
          subst e1; subst e2; subst e3
          exact x_aastq (j := 5) (ci := 13) hx hb hK hR hL (by omega) rfl rfl (by omega) hq.2 hq.1 (fun comp hcomp => hasg 13 (by omega) comp hcomp) hi hd kk
        next =>
          split at he
          next hq =>
            obtain ⟨ht2, hi, e1, -, e2, e3⟩ := xast_inv he
            subst e1; subst e2; subst e3
            exact x_aastq (j := 6) (ci := 5) hx hb hK hR hL (by omega) rfl rfl (by omega) hq.2 hq.1 (fun comp hcomp => hasg 5 (by omega) comp hcomp) hi hd kk
          next =>
            split at he
            next hq =>
              obtain ⟨ht2, hi, e1, -, e2, e3⟩ := xast_inv he
              subst e1; subst e2; subst e3
              exact x_aastq (j := 7) (ci := 11) hx hb hK hR hL (by omega) rfl rfl (by omega) hq.2 hq.1 (fun comp hcomp => hasg 11 (by omega) comp hcomp) hi hd kk
            next => cases he
    next i a r =>
      obtain ⟨ht2, hi, e1, -, e2, e3⟩ := xast_inv he
      subst e1; subst e2; subst e3
      exact x_aastN hx hb hK hR hL ht2 hi hd kk
    next => cases he
  case anewarray idx =>
    obtain rfl : len = 3 := by simp only [xlen] at hlen; omega
    simp only [xmem] at he
    split at he
    next j n r hj =>
      split at he
      next hq =>
        obtain ⟨h4, h7, hn, hn2⟩ := hq
        cases he
        have hw : xwA ((o, idx), j) ∈ xALL := xALL_g (xaT_in _ (List.mem_map.mpr ⟨_, x_look hj, rfl⟩)) rfl
        match j, h4, h7 with
        | 4, _, _ => exact x_anew (j := 4) hx hb hown hts hK hR hbase ht hu (by omega) rfl rfl hw hK.2.2.2.2.2.1 hn hn2 hd hc1 hc2 (fun H' hR' => kk H' locs hR' hL)
        | 5, _, _ => exact x_anew (j := 5) hx hb hown hts hK hR hbase ht hu (by omega) rfl rfl hw hK.2.2.2.2.2.2.1 hn hn2 hd hc1 hc2 (fun H' hR' => kk H' locs hR' hL)
        | 6, _, _ => exact x_anew (j := 6) hx hb hown hts hK hR hbase ht hu (by omega) rfl rfl hw hK.2.2.2.2.2.2.2.1 hn hn2 hd hc1 hc2 (fun H' hR' => kk H' locs hR' hL)
        | 7, _, _ => exact x_anew (j := 7) hx hb hown hts hK hR hbase ht hu (by omega) rfl rfl hw hK.2.2.2.2.2.2.2.2 hn hn2 hd hc1 hc2 (fun H' hR' => kk H' locs hR' hL)
        | 0, h, _ => exact absurd h (by omega)
        | 1, h, _ => exact absurd h (by omega)
        | 2, h, _ => exact absurd h (by omega)
        | 3, h, _ => exact absurd h (by omega)
        | n + 8, _, h => exact absurd h (by omega)
      next => cases he
    next => cases he
  case iastore =>
    obtain rfl : len = 1 := by simp only [xlen] at hlen; omega
    simp only [xmem] at he
    split at he
    next x i a r =>
      refine x_astk (j := 0) hR hL (by omega) rfl he (fun ty cell hc hce hk hi kq => ?_) (fun _ => kk)
      have e2 : h'.2 = h.2 := by
        unfold xast at he
        split at he
        · split at he
          · cases he
          · cases he; rfl
        · cases he
      rw [e2] at kq
      exact W.iast hx hb hc (by rw [hce]; exact x_arr hK rfl _ _) hk hi rfl rfl hd kq
    next => cases he
  case lastore =>
    obtain rfl : len = 1 := by simp only [xlen] at hlen; omega
    simp only [xmem] at he
    split at he
    next x i a r =>
      refine x_astk (j := 1) hR hL (by omega) rfl he (fun ty cell hc hce hk hi kq => ?_) (fun _ => kk)
      have e2 : h'.2 = h.2 := by
        unfold xast at he
        split at he
        · split at he
          · cases he
          · cases he; rfl
        · cases he
      rw [e2] at kq
      exact W.last hx hb hc (by rw [hce]; exact x_arr hK rfl _ _) hk hi rfl rfl hd kq
    next => cases he
  case bastore =>
    obtain rfl : len = 1 := by simp only [xlen] at hlen; omega
    simp only [xmem] at he
    split at he
    next x i a r =>
      split at he
      next htag =>
        obtain ⟨ht2, hi, e1, -, e2, e3⟩ := xast_inv he
        subst e1; subst e2; subst e3
        obtain ⟨ba, hc, hf⟩ := x_arrj (j := 2) hR ht2 (by omega) (Or.inr (by omega))
        refine W.bast hx hb hc (x_arr hK rfl _ _) (fun q => by cases q) (by rw [arrV_size]; exact hi) rfl rfl hd (fun H1 e1 z1 o1 => ?_)
        exact kk H1 _ (x_setA (j := 2) hR ht2 (by omega) (by omega) (x_fbyte x) e1 z1 o1) (x_locs hL (ba (Or.inr (by omega))))
      next htag =>
        obtain ⟨ht2, hi, e1, -, e2, e3⟩ := xast_inv he
        subst e1; subst e2; subst e3
        obtain ⟨ba, hc, hf⟩ := x_arrj (j := 3) hR ht2 (by omega) (Or.inr (by omega))
        refine W.zast hx hb hc (x_arr hK rfl _ _) (fun q => by cases q) (by rw [arrV_size]; exact hi) rfl rfl hd (fun H1 e1 z1 o1 => ?_)
        exact kk H1 _ (x_setA (j := 3) hR ht2 (by omega) (by omega) (x_fbool x) e1 z1 o1) (x_locs hL (ba (Or.inr (by omega))))
    next => cases he
  case newarray t =>
    obtain rfl : len = 2 := by simp only [xlen] at hlen; omega
    simp only [xmem] at he
    split at he
    next n r =>
      split at he
      next j hj =>
        split at he
        next hn =>
          cases he
          cases t <;> simp only [xaty] at hj <;> cases hj
          · exact x_newa (j := 3) hx hb hts hK hR hbase ht hu (by omega) rfl rfl (x_words (by decide +kernel) rfl) (by decide) rfl (hra 3 _ rfl (fun _ q => by cases q)) hn.1 hn.2 hd hc1 hc2 (fun H' h2 => kk H' _ h2 hL)
          · exact x_newa (j := 2) hx hb hts hK hR hbase ht hu (by omega) rfl rfl (x_words (by decide +kernel) rfl) (by decide) rfl (hra 2 _ rfl (fun _ q => by cases q)) hn.1 hn.2 hd hc1 hc2 (fun H' h2 => kk H' _ h2 hL)
          · exact x_newa (j := 0) hx hb hts hK hR hbase ht hu (by omega) rfl rfl (x_words (by decide +kernel) rfl) (by decide) rfl (hra 0 _ rfl (fun _ q => by cases q)) hn.1 hn.2 hd hc1 hc2 (fun H' h2 => kk H' _ h2 hL)
          · exact x_newa (j := 1) hx hb hts hK hR hbase ht hu (by omega) rfl rfl (x_words (by decide +kernel) rfl) (by decide) rfl (hra 1 _ rfl (fun _ q => by cases q)) hn.1 hn.2 hd hc1 hc2 (fun H' h2 => kk H' _ h2 hL)
        next => cases he
      next => cases he
    next => cases he
  case new idx =>
    obtain rfl : len = 3 := by simp only [xlen] at hlen; omega
    simp only [xmem] at he
    split at he
    next ci hk =>
      split at he
      next hit => cases he; exact x_new hx hb hown hts hK hR hbase ht hu hk hit hd hc1 hc2 (fun H' h2 => kk H' _ h2 hL)
      next => cases he
    next => cases he
  case invokevirtual idx =>
    obtain rfl : len = 3 := by simp only [xlen] at hlen; omega
    simp only [xmem] at he
    split at he
    next y hy => exact x_virt hx hb hml hown hts hK hR hbase hF1 hF2 hcF ht hu hL hy hd hl he hc1 hc2 (fun _ => kk)
    next => cases he
  case invokestatic idx =>
    obtain rfl : len = 3 := by simp only [xlen] at hlen; omega
    simp only [xmem] at he
    split at he
    next y hy =>
      split at he
      next hmx =>
        subst hmx
        obtain ⟨k1, k2, k3⟩ := x_max_ok
        have hw := x_xM k2
        have hs := x_st k3
        have hm := x_mR hy
        rw [k1] at hw hs hm
        unfold xmath at he
        split at he
        next b a r =>
          split at he
          next hr =>
            cases he
            have hr' : (r.map fun v => v.category).sum ≤ 8 := hr
            exact va_mmax hx hb (hml.trans hl.1.symm) hown (hts _ hm) (hts _ hs) (hts _ (x_ini (by decide +kernel))) (hts _ hw) (by omega) (by omega) hc1 hc2 hd (kk H locs hR hL)
          next => cases he
        next => cases he
      next =>
        split at he
        next hmx =>
          subst hmx
          obtain ⟨k1, k2, k3⟩ := x_min_ok
          have hw := x_xM k2
          have hs := x_st k3
          have hm := x_mR hy
          rw [k1] at hw hs hm
          unfold xmath at he
          split at he
          next b a r =>
            split at he
            next hr =>
              cases he
              have hr' : (r.map fun v => v.category).sum ≤ 8 := hr
              exact va_mmin hx hb (hml.trans hl.1.symm) hown (hts _ hm) (hts _ hs) (hts _ (x_ini (by decide +kernel))) (hts _ hw) (by omega) (by omega) hc1 hc2 hd (kk H locs hR hL)
            next => cases he
          next => cases he
        next => exact x_stat hx hb hml hown hts hK hR hbase hF1 hF2 hcF ht hu hL hy hd hl he hc1 hc2 (fun _ => kk)
    next =>
      split at he
      next hcp =>
        split at he
        next f hcy =>
          cases he
          unfold xcopy at hcy
          split at hcy
          next n dp a sp b r =>
            split at hcy
            next hq =>
              cases hcy
              obtain ⟨g1, g2, g3, g4, g5, g6, g7, g8, g9⟩ := hq
              have hj : (h.1 a).1 = 20 ∨ (h.1 a).1 = 21 ∨ (h.1 a).1 = 22 ∨ (h.1 a).1 = 23 := by omega
              rcases hj with hj | hj | hj | hj
              · exact x_copy (j := 0) hx hb (hml.trans hl.1.symm) hown hts hK hR (by omega) (by omega) hL (x_cont hcp) hj (by omega) (by omega) (by omega) rfl rfl rfl g4 g5 g6 g7 g8 g9 hd kk
              · exact x_copy (j := 1) hx hb (hml.trans hl.1.symm) hown hts hK hR (by omega) (by omega) hL (x_cont hcp) hj (by omega) (by omega) (by omega) rfl rfl rfl g4 g5 g6 g7 g8 g9 hd kk
              · exact x_copy (j := 2) hx hb (hml.trans hl.1.symm) hown hts hK hR (by omega) (by omega) hL (x_cont hcp) hj (by omega) (by omega) (by omega) rfl rfl rfl g4 g5 g6 g7 g8 g9 hd kk
              · exact x_copy (j := 3) hx hb (hml.trans hl.1.symm) hown hts hK hR (by omega) (by omega) hL (x_cont hcp) hj (by omega) (by omega) (by omega) rfl rfl rfl g4 g5 g6 g7 g8 g9 hd kk
            next => cases hcy
          next => cases hcy
        next hcy =>
          unfold xcopyq at he
          split at he
          next n dp a sp b r =>
            split at he
            next hq =>
              cases he
              obtain ⟨g1, g0, g2, g00, g4, g5, g6, g7, g8, g9, g10⟩ := hq
              exact x_copyq hx hb (hml.trans hl.1.symm) hown hts hK hR (by omega) (by omega) hL (x_cont hcp) g1 g2 g0 g00 g10 g4 g5 g6 g7 g8 g9 hd kk
            next => cases he
          next => cases he
      next => cases he
  case invokespecial idx =>
    obtain rfl : len = 3 := by simp only [xlen] at hlen; omega
    simp only [xmem] at he
    split at he
    next y hy => exact x_inis hx hb hml hown hts hK hR hbase hF1 hF2 hcF ht hu hL (Or.inl hy) hd hl he hc1 hc2 (fun _ => kk)
    next =>
      split at he
      next y hy => exact x_inis hx hb hml hown hts hK hR hbase hF1 hF2 hcF ht hu hL (Or.inr hy) hd hl he hc1 hc2 (fun _ => kk)
      next =>
        split at he
        next hob =>
          split at he
          next a r =>
            split at he
            next hr =>
              have hr' : (r.map fun v => v.category).sum ≤ 8 := hr
              cases he
              exact W.objInit hx hb hown (hts _ (xALL_g (xOb_in _ (List.mem_map.mpr ⟨_, x_cont hob, rfl⟩)) rfl)) (hts _ (x_words (by decide +kernel) rfl)) (hts _ (x_words (by decide +kernel) rfl)) rfl (hl.1.trans hml.symm) rfl hd (by omega) (by show 2 * 0 + _ + 12 ≤ _; omega) (kk H locs hR hL)
            next => cases he
          next => cases he
        next => cases he
  all_goals (simp only [xmem] at he; cases he)
end XS8
