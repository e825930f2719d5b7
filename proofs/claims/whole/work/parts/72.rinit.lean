/-! the reference's constructor behind its arrays (printed by wip/whole/gen_rinit2.py) -/
theorem pf_145 : ((xCl 16).2.1 145).2.2.2 = false ∧ xfty 16 145 = some .int := by decide +kernel
def m_init_b1275 (F : Nat)  : Nat → RS → Int32 → Option (RS)
  | 0, _, _ => none
  | n + 1, σ, l5 =>
    let KK := m_init_b1275 F  n
    if xc2 .ge l5 ((7 : Int32)) = true then (
      some σ
    ) else (
      (m_drawAlarm σ l5).bind fun p2 =>
      KK p2 (l5 + (1 : Int32))
    )
set_option maxRecDepth 4000 in
theorem m_init_b1275_ok {pF : Nat → List Value → xH → Option (Option Value × xH)} {d : Nat} {aR : Nat} {G : Nat → xC} {T : Nat × Nat} {F : Nat} (hp0 : xNP pF)  : ∀ (n : Nat) (lv : xL) (σ : RS) (l5 : Int32), xg lv 0 = some (.ref aR) → xg lv 5 = some (.int l5) → ∀ res, m_init_b1275 F  n σ l5 = some res → xR pF (d + 2) kT297 16 6 true none none (layR aR res G, T) (1275, lv, [], (layR aR σ G, T)) := by
  intro n
  induction n with
  | zero => intro lv σ l5 g0 g5 res h; simp [m_init_b1275] at h
  | succ n hKK =>
    intro lv σ l5 g0 g5 res h
    unfold m_init_b1275 at h
    dsimp only at h
    refine eE_iload yl297_1275 g5 ?_
    refine eE_bipush (v := 7) yl297_1277 (by decide) ?_
    refine eE_icmp (t := 1294) yl297_1279 (by decide) (fun c1 => ?_) (fun c1 => ?_)
    · rw [if_pos c1] at h
      cases h
      exact eE_end yl297_1294 rfl rfl rfl
    · rw [if_neg c1] at h
      refine eE_aload_n yl297_1282 g0 ?_
      refine eE_iload yl297_1283 g5 ?_
      obtain ⟨p2, h3, h⟩ := Option.bind_eq_some_iff.mp h
      refine eR_call (as := [.int l5]) yl297_1285 mr_389 na_274 rfl rfl (Nat.le_of_ble_eq_true rfl) wv_274 wc_274 (m_drawAlarm_ok hp0 (d := d + 0) h3) ?_
      refine eE_inc (j := 5) (v := l5 + (1 : Int32)) yl297_1288 g5 rfl (by decide) (fun vq4 gq5 kq6 => ?_)
      have gq7 := kq6 0 _ (by decide) (fun _ => rfl) g0
      refine eE_goto (t := 1275) yl297_1291 (by decide) ?_
      exact hKK vq4 p2 (l5 + (1 : Int32)) gq7 gq5 _ h
def m_init_b1251 (F : Nat)  : Nat → RS → Int32 → Option (RS)
  | 0, _, _ => none
  | n + 1, σ, l5 =>
    let KK := m_init_b1251 F  n
    if xc2 .ge l5 ((8 : Int32)) = true then (
      m_init_b1275 F  F σ ((0 : Int32))
    ) else (
      (rst σ 126 l5 (((-1 : Int32)))).bind fun σ13 =>
      KK σ13 (l5 + (1 : Int32))
    )
set_option maxRecDepth 4000 in
theorem m_init_b1251_ok {pF : Nat → List Value → xH → Option (Option Value × xH)} {d : Nat} {aR : Nat} {G : Nat → xC} {T : Nat × Nat} {F : Nat} (hp0 : xNP pF)  : ∀ (n : Nat) (lv : xL) (σ : RS) (l5 : Int32), xg lv 0 = some (.ref aR) → xg lv 5 = some (.int l5) → ∀ res, m_init_b1251 F  n σ l5 = some res → xR pF (d + 2) kT297 16 6 true none none (layR aR res G, T) (1251, lv, [], (layR aR σ G, T)) := by
  intro n
  induction n with
  | zero => intro lv σ l5 g0 g5 res h; simp [m_init_b1251] at h
  | succ n hKK =>
    intro lv σ l5 g0 g5 res h
    unfold m_init_b1251 at h
    dsimp only at h
    refine eE_iload yl297_1251 g5 ?_
    refine eE_bipush (v := 8) yl297_1253 (by decide) ?_
    refine eE_icmp (t := 1272) yl297_1255 (by decide) (fun c8 => ?_) (fun c8 => ?_)
    · rw [if_pos c8] at h
      refine eE_iconst (v := 0) yl297_1272 (by decide) ?_
      refine eE_stI (j := 5) yl297_1273 (Or.inl rfl) (by decide) (fun vq9 gq10 kq11 => ?_)
      have gq12 := kq11 0 _ (by decide) (fun _ => rfl) g0
      exact m_init_b1275_ok hp0  F vq9 σ ((0 : Int32)) gq12 gq10 _ h
    · rw [if_neg c8] at h
      refine eE_aload_n yl297_1258 g0 ?_
      refine eR_getA yl297_1259 rf_336 rfl ?_
      refine eE_iload yl297_1262 g5 ?_
      refine eE_iconst (v := (-1)) yl297_1264 (by decide) ?_
      obtain ⟨σ13, h14, h⟩ := Option.bind_eq_some_iff.mp h
      refine eR_iast yl297_1265 rfl rfl h14 ?_
      refine eE_inc (j := 5) (v := l5 + (1 : Int32)) yl297_1266 g5 rfl (by decide) (fun vq15 gq16 kq17 => ?_)
      have gq18 := kq17 0 _ (by decide) (fun _ => rfl) g0
      refine eE_goto (t := 1251) yl297_1269 (by decide) ?_
      exact hKK vq15 σ13 (l5 + (1 : Int32)) gq18 gq16 _ h
def m_init_b1103 (F : Nat)  : Nat → RS → Int64 → Int32 → Int32 → Option (RS)
  | 0, _, _, _, _ => none
  | n + 1, σ, l2, l4, l5 =>
    let KK := m_init_b1103 F  n
    if xc2 .ge l5 ((7 : Int32)) = true then (
      m_init_b1251 F  F σ ((0 : Int32))
    ) else (
      (rst σ 31 l5 (((-1 : Int32)))).bind fun σ24 =>
      (rst σ24 45 l5 (((-1 : Int32)))).bind fun σ26 =>
      (rst σ26 47 l5 (((-1 : Int32)))).bind fun σ28 =>
      (rst σ28 52 l5 ((((1 : Int32)) &&& 1))).bind fun σ30 =>
      (rst σ30 54 l5 (((-1 : Int32)))).bind fun σ32 =>
      (rst σ32 58 l5 (((((1 : Int32)) <<< (l4 &&& 31)) - ((1 : Int32))))).bind fun σ34 =>
      (rld σ34 58 l5).bind fun x36 =>
      (rst σ34 65 l5 x36).bind fun σ38 =>
      (rld σ38 58 l5).bind fun x40 =>
      (some (setI σ38 145 0 x40)).bind fun σ42 =>
      (rst σ42 69 l5 (((-1 : Int32)))).bind fun σ44 =>
      (rst σ44 72 l5 (((2 : Int32)))).bind fun σ46 =>
      (rst σ46 74 l5 (((-1 : Int32)))).bind fun σ48 =>
      (rst σ48 78 l5 (((-2000000000 : Int32)))).bind fun σ50 =>
      (rst σ50 80 l5 (((-1 : Int32)))).bind fun σ52 =>
      (rstL σ52 84 l5 ((l2 + (l5.toInt64)))).bind fun σ54 =>
      KK σ54 l2 l4 (l5 + (1 : Int32))
    )
set_option maxRecDepth 4000 in
theorem m_init_b1103_ok {pF : Nat → List Value → xH → Option (Option Value × xH)} {d : Nat} {aR : Nat} {G : Nat → xC} {T : Nat × Nat} {F : Nat} (hp0 : xNP pF)  : ∀ (n : Nat) (lv : xL) (σ : RS) (l2 : Int64) (l4 : Int32) (l5 : Int32), xg lv 0 = some (.ref aR) → xg lv 2 = some (.long l2) → xg lv 4 = some (.int l4) → xg lv 5 = some (.int l5) → ∀ res, m_init_b1103 F  n σ l2 l4 l5 = some res → xR pF (d + 2) kT297 16 6 true none none (layR aR res G, T) (1103, lv, [], (layR aR σ G, T)) := by
  intro n
  induction n with
  | zero => intro lv σ l2 l4 l5 g0 g2 g4 g5 res h; simp [m_init_b1103] at h
  | succ n hKK =>
    intro lv σ l2 l4 l5 g0 g2 g4 g5 res h
    unfold m_init_b1103 at h
    dsimp only at h
    refine eE_iload yl297_1103 g5 ?_
    refine eE_bipush (v := 7) yl297_1105 (by decide) ?_
    refine eE_icmp (t := 1248) yl297_1107 (by decide) (fun c19 => ?_) (fun c19 => ?_)
    · rw [if_pos c19] at h
      refine eE_iconst (v := 0) yl297_1248 (by decide) ?_
      refine eE_stI (j := 5) yl297_1249 (Or.inl rfl) (by decide) (fun vq20 gq21 kq22 => ?_)
      have gq23 := kq22 0 _ (by decide) (fun _ => rfl) g0
      exact m_init_b1251_ok hp0  F vq20 σ ((0 : Int32)) gq23 gq21 _ h
    · rw [if_neg c19] at h
      refine eE_aload_n yl297_1110 g0 ?_
      refine eR_getA yl297_1111 rf_68 rfl ?_
      refine eE_iload yl297_1114 g5 ?_
      refine eE_iconst (v := (-1)) yl297_1116 (by decide) ?_
      obtain ⟨σ24, h25, h⟩ := Option.bind_eq_some_iff.mp h
      refine eR_iast yl297_1117 rfl rfl h25 ?_
      refine eE_aload_n yl297_1118 g0 ?_
      refine eR_getA yl297_1119 rf_102 rfl ?_
      refine eE_iload yl297_1122 g5 ?_
      refine eE_iconst (v := (-1)) yl297_1124 (by decide) ?_
      obtain ⟨σ26, h27, h⟩ := Option.bind_eq_some_iff.mp h
      refine eR_iast yl297_1125 rfl rfl h27 ?_
      refine eE_aload_n yl297_1126 g0 ?_
      refine eR_getA yl297_1127 rf_108 rfl ?_
      refine eE_iload yl297_1130 g5 ?_
      refine eE_iconst (v := (-1)) yl297_1132 (by decide) ?_
      obtain ⟨σ28, h29, h⟩ := Option.bind_eq_some_iff.mp h
      refine eR_iast yl297_1133 rfl rfl h29 ?_
      refine eE_aload_n yl297_1134 g0 ?_
      refine eR_getA yl297_1135 rf_120 rfl ?_
      refine eE_iload yl297_1138 g5 ?_
      refine eE_iconst (v := 1) yl297_1140 (by decide) ?_
      obtain ⟨σ30, h31, h⟩ := Option.bind_eq_some_iff.mp h
      refine eR_zast yl297_1141 rfl rfl rfl h31 ?_
      refine eE_aload_n yl297_1142 g0 ?_
      refine eR_getA yl297_1143 rf_126 rfl ?_
      refine eE_iload yl297_1146 g5 ?_
      refine eE_iconst (v := (-1)) yl297_1148 (by decide) ?_
      obtain ⟨σ32, h33, h⟩ := Option.bind_eq_some_iff.mp h
      refine eR_iast yl297_1149 rfl rfl h33 ?_
      refine eE_aload_n yl297_1150 g0 ?_
      refine eR_getA yl297_1151 rf_138 rfl ?_
      refine eE_iload yl297_1154 g5 ?_
      refine eE_iconst (v := 1) yl297_1156 (by decide) ?_
      refine eE_iload yl297_1157 g4 ?_
      refine eE_ishl yl297_1159 ?_
      refine eE_iconst (v := 1) yl297_1160 (by decide) ?_
      refine eE_isub yl297_1161 ?_
      obtain ⟨σ34, h35, h⟩ := Option.bind_eq_some_iff.mp h
      refine eR_iast yl297_1162 rfl rfl h35 ?_
      refine eE_aload_n yl297_1163 g0 ?_
      refine eR_getA yl297_1164 rf_160 rfl ?_
      refine eE_iload yl297_1167 g5 ?_
      refine eE_aload_n yl297_1169 g0 ?_
      refine eR_getA yl297_1170 rf_138 rfl ?_
      refine eE_iload yl297_1173 g5 ?_
      obtain ⟨x36, h37, h⟩ := Option.bind_eq_some_iff.mp h
      refine eR_iald yl297_1175 rfl rfl h37 ?_
      obtain ⟨σ38, h39, h⟩ := Option.bind_eq_some_iff.mp h
      refine eR_iast yl297_1176 rfl rfl h39 ?_
      refine eE_aload_n yl297_1177 g0 ?_
      refine eE_aload_n yl297_1178 g0 ?_
      refine eR_getA yl297_1179 rf_138 rfl ?_
      refine eE_iload yl297_1182 g5 ?_
      obtain ⟨x40, h41, h⟩ := Option.bind_eq_some_iff.mp h
      refine eR_iald yl297_1184 rfl rfl h41 ?_
      obtain ⟨σ42, h43, h⟩ := Option.bind_eq_some_iff.mp h
      refine eR_putS yl297_1185 rf_384 rfl (by decide) pf_145.1 pf_145.2 h43 ?_
      refine eE_aload_n yl297_1188 g0 ?_
      refine eR_getA yl297_1189 rf_173 rfl ?_
      refine eE_iload yl297_1192 g5 ?_
      refine eE_iconst (v := (-1)) yl297_1194 (by decide) ?_
      obtain ⟨σ44, h45, h⟩ := Option.bind_eq_some_iff.mp h
      refine eR_iast yl297_1195 rfl rfl h45 ?_
      refine eE_aload_n yl297_1196 g0 ?_
      refine eR_getA yl297_1197 rf_182 rfl ?_
      refine eE_iload yl297_1200 g5 ?_
      refine eE_iconst (v := 2) yl297_1202 (by decide) ?_
      obtain ⟨σ46, h47, h⟩ := Option.bind_eq_some_iff.mp h
      refine eR_iast yl297_1203 rfl rfl h47 ?_
      refine eE_aload_n yl297_1204 g0 ?_
      refine eR_getA yl297_1205 rf_188 rfl ?_
      refine eE_iload yl297_1208 g5 ?_
      refine eE_iconst (v := (-1)) yl297_1210 (by decide) ?_
      obtain ⟨σ48, h49, h⟩ := Option.bind_eq_some_iff.mp h
      refine eR_iast yl297_1211 rfl rfl h49 ?_
      refine eE_aload_n yl297_1212 g0 ?_
      refine eR_getA yl297_1213 rf_200 rfl ?_
      refine eE_iload yl297_1216 g5 ?_
      refine eE_ldc_w (v := (-2000000000)) yl297_1218 xc_388 ?_
      obtain ⟨σ50, h51, h⟩ := Option.bind_eq_some_iff.mp h
      refine eR_iast yl297_1221 rfl rfl h51 ?_
      refine eE_aload_n yl297_1222 g0 ?_
      refine eR_getA yl297_1223 rf_206 rfl ?_
      refine eE_iload yl297_1226 g5 ?_
      refine eE_iconst (v := (-1)) yl297_1228 (by decide) ?_
      obtain ⟨σ52, h53, h⟩ := Option.bind_eq_some_iff.mp h
      refine eR_iast yl297_1229 rfl rfl h53 ?_
      refine eE_aload_n yl297_1230 g0 ?_
      refine eR_getA yl297_1231 rf_218 rfl ?_
      refine eE_iload yl297_1234 g5 ?_
      refine eE_lload_n yl297_1236 g2 ?_
      refine eE_iload yl297_1237 g5 ?_
      refine eE_i2l yl297_1239 ?_
      refine eE_ladd yl297_1240 ?_
      obtain ⟨σ54, h55, h⟩ := Option.bind_eq_some_iff.mp h
      refine eR_last yl297_1241 rfl rfl h55 ?_
      refine eE_inc (j := 5) (v := l5 + (1 : Int32)) yl297_1242 g5 rfl (by decide) (fun vq56 gq57 kq58 => ?_)
      have gq59 := kq58 2 _ (by decide) (fun e => absurd e (by decide)) g2
      have gq60 := kq58 4 _ (by decide) (fun _ => rfl) g4
      have gq61 := kq58 0 _ (by decide) (fun _ => rfl) g0
      refine eE_goto (t := 1103) yl297_1245 (by decide) ?_
      exact hKK vq56 σ54 l2 l4 (l5 + (1 : Int32)) gq61 gq59 gq60 gq57 _ h
def m_init_b1079 (F : Nat)  : Nat → RS → Int64 → Int32 → Int32 → Option (RS)
  | 0, _, _, _, _ => none
  | n + 1, σ, l2, l4, l5 =>
    let KK := m_init_b1079 F  n
    if xc2 .ge l5 ((16 : Int32)) = true then (
      m_init_b1103 F  F σ l2 l4 ((0 : Int32))
    ) else (
      (rst σ 29 l5 (((-1 : Int32)))).bind fun σ69 =>
      KK σ69 l2 l4 (l5 + (1 : Int32))
    )
set_option maxRecDepth 4000 in
theorem m_init_b1079_ok {pF : Nat → List Value → xH → Option (Option Value × xH)} {d : Nat} {aR : Nat} {G : Nat → xC} {T : Nat × Nat} {F : Nat} (hp0 : xNP pF)  : ∀ (n : Nat) (lv : xL) (σ : RS) (l2 : Int64) (l4 : Int32) (l5 : Int32), xg lv 0 = some (.ref aR) → xg lv 2 = some (.long l2) → xg lv 4 = some (.int l4) → xg lv 5 = some (.int l5) → ∀ res, m_init_b1079 F  n σ l2 l4 l5 = some res → xR pF (d + 2) kT297 16 6 true none none (layR aR res G, T) (1079, lv, [], (layR aR σ G, T)) := by
  intro n
  induction n with
  | zero => intro lv σ l2 l4 l5 g0 g2 g4 g5 res h; simp [m_init_b1079] at h
  | succ n hKK =>
    intro lv σ l2 l4 l5 g0 g2 g4 g5 res h
    unfold m_init_b1079 at h
    dsimp only at h
    refine eE_iload yl297_1079 g5 ?_
    refine eE_bipush (v := 16) yl297_1081 (by decide) ?_
    refine eE_icmp (t := 1100) yl297_1083 (by decide) (fun c62 => ?_) (fun c62 => ?_)
    · rw [if_pos c62] at h
      refine eE_iconst (v := 0) yl297_1100 (by decide) ?_
      refine eE_stI (j := 5) yl297_1101 (Or.inl rfl) (by decide) (fun vq63 gq64 kq65 => ?_)
      have gq66 := kq65 2 _ (by decide) (fun e => absurd e (by decide)) g2
      have gq67 := kq65 4 _ (by decide) (fun _ => rfl) g4
      have gq68 := kq65 0 _ (by decide) (fun _ => rfl) g0
      exact m_init_b1103_ok hp0  F vq63 σ l2 l4 ((0 : Int32)) gq68 gq66 gq67 gq64 _ h
    · rw [if_neg c62] at h
      refine eE_aload_n yl297_1086 g0 ?_
      refine eR_getA yl297_1087 rf_62 rfl ?_
      refine eE_iload yl297_1090 g5 ?_
      refine eE_iconst (v := (-1)) yl297_1092 (by decide) ?_
      obtain ⟨σ69, h70, h⟩ := Option.bind_eq_some_iff.mp h
      refine eR_iast yl297_1093 rfl rfl h70 ?_
      refine eE_inc (j := 5) (v := l5 + (1 : Int32)) yl297_1094 g5 rfl (by decide) (fun vq71 gq72 kq73 => ?_)
      have gq74 := kq73 2 _ (by decide) (fun e => absurd e (by decide)) g2
      have gq75 := kq73 4 _ (by decide) (fun _ => rfl) g4
      have gq76 := kq73 0 _ (by decide) (fun _ => rfl) g0
      refine eE_goto (t := 1079) yl297_1097 (by decide) ?_
      exact hKK vq71 σ69 l2 l4 (l5 + (1 : Int32)) gq76 gq74 gq75 gq72 _ h
def m_init_b1054 (F : Nat)  : Nat → RS → Int64 → Int32 → Int32 → Option (RS)
  | 0, _, _, _, _ => none
  | n + 1, σ, l2, l4, l5 =>
    let KK := m_init_b1054 F  n
    if xc2 .ge l5 ((256 : Int32)) = true then (
      m_init_b1079 F  F σ l2 l4 ((0 : Int32))
    ) else (
      (rst σ 23 l5 (((3 : Int32)))).bind fun σ84 =>
      KK σ84 l2 l4 (l5 + (1 : Int32))
    )
set_option maxRecDepth 4000 in
theorem m_init_b1054_ok {pF : Nat → List Value → xH → Option (Option Value × xH)} {d : Nat} {aR : Nat} {G : Nat → xC} {T : Nat × Nat} {F : Nat} (hp0 : xNP pF)  : ∀ (n : Nat) (lv : xL) (σ : RS) (l2 : Int64) (l4 : Int32) (l5 : Int32), xg lv 0 = some (.ref aR) → xg lv 2 = some (.long l2) → xg lv 4 = some (.int l4) → xg lv 5 = some (.int l5) → ∀ res, m_init_b1054 F  n σ l2 l4 l5 = some res → xR pF (d + 2) kT297 16 6 true none none (layR aR res G, T) (1054, lv, [], (layR aR σ G, T)) := by
  intro n
  induction n with
  | zero => intro lv σ l2 l4 l5 g0 g2 g4 g5 res h; simp [m_init_b1054] at h
  | succ n hKK =>
    intro lv σ l2 l4 l5 g0 g2 g4 g5 res h
    unfold m_init_b1054 at h
    dsimp only at h
    refine eE_iload yl297_1054 g5 ?_
    refine eE_sipush (v := 256) yl297_1056 (by decide) ?_
    refine eE_icmp (t := 1076) yl297_1059 (by decide) (fun c77 => ?_) (fun c77 => ?_)
    · rw [if_pos c77] at h
      refine eE_iconst (v := 0) yl297_1076 (by decide) ?_
      refine eE_stI (j := 5) yl297_1077 (Or.inl rfl) (by decide) (fun vq78 gq79 kq80 => ?_)
      have gq81 := kq80 2 _ (by decide) (fun e => absurd e (by decide)) g2
      have gq82 := kq80 4 _ (by decide) (fun _ => rfl) g4
      have gq83 := kq80 0 _ (by decide) (fun _ => rfl) g0
      exact m_init_b1079_ok hp0  F vq78 σ l2 l4 ((0 : Int32)) gq83 gq81 gq82 gq79 _ h
    · rw [if_neg c77] at h
      refine eE_aload_n yl297_1062 g0 ?_
      refine eR_getA yl297_1063 rf_59 rfl ?_
      refine eE_iload yl297_1066 g5 ?_
      refine eE_iconst (v := 3) yl297_1068 (by decide) ?_
      obtain ⟨σ84, h85, h⟩ := Option.bind_eq_some_iff.mp h
      refine eR_iast yl297_1069 rfl rfl h85 ?_
      refine eE_inc (j := 5) (v := l5 + (1 : Int32)) yl297_1070 g5 rfl (by decide) (fun vq86 gq87 kq88 => ?_)
      have gq89 := kq88 2 _ (by decide) (fun e => absurd e (by decide)) g2
      have gq90 := kq88 4 _ (by decide) (fun _ => rfl) g4
      have gq91 := kq88 0 _ (by decide) (fun _ => rfl) g0
      refine eE_goto (t := 1054) yl297_1073 (by decide) ?_
      exact hKK vq86 σ84 l2 l4 (l5 + (1 : Int32)) gq91 gq89 gq90 gq87 _ h
def m_init_b1049 (F : Nat)  (σ : RS) (s0 : Int32) (l2 : Int64) : Option (RS) :=
  m_init_b1054 F  F σ l2 s0 ((0 : Int32))
set_option maxRecDepth 4000 in
theorem m_init_b1049_ok {pF : Nat → List Value → xH → Option (Option Value × xH)} {d : Nat} {aR : Nat} {G : Nat → xC} {T : Nat × Nat} {F : Nat} (hp0 : xNP pF)  : ∀ (lv : xL) (σ : RS) (s0 : Int32) (l2 : Int64), xg lv 0 = some (.ref aR) → xg lv 2 = some (.long l2) → ∀ res, m_init_b1049 F  σ s0 l2 = some res → xR pF (d + 2) kT297 16 6 true none none (layR aR res G, T) (1049, lv, [.int s0], (layR aR σ G, T)) := by
  intro lv σ s0 l2 g0 g2 res h
  unfold m_init_b1049 at h
  refine eE_stI (j := 4) yl297_1049 (Or.inl rfl) (by decide) (fun vq92 gq93 kq94 => ?_)
  have gq95 := kq94 2 _ (by decide) (fun e => absurd e (by decide)) g2
  have gq96 := kq94 0 _ (by decide) (fun _ => rfl) g0
  refine eE_iconst (v := 0) yl297_1051 (by decide) ?_
  refine eE_stI (j := 5) yl297_1052 (Or.inl rfl) (by decide) (fun vq97 gq98 kq99 => ?_)
  have gq100 := kq99 2 _ (by decide) (fun e => absurd e (by decide)) gq95
  have gq101 := kq99 0 _ (by decide) (fun _ => rfl) gq96
  have gq102 := kq99 4 _ (by decide) (fun _ => rfl) gq93
  exact m_init_b1054_ok hp0  F vq97 σ l2 s0 ((0 : Int32)) gq101 gq100 gq102 gq98 _ h
def m_init_b1028 (F : Nat)  (σ : RS) (l1 : Int32) (l2 : Int64) : Option (RS) :=
  if xc2 .ge l1 ((1 : Int32)) = true then (
    if xc2 .le l1 ((7 : Int32)) = true then (
      m_init_b1049 F  σ l1 l2
    ) else (
      m_init_b1049 F  σ ((7 : Int32)) l2
    )
  ) else (
    m_init_b1049 F  σ ((1 : Int32)) l2
  )
set_option maxRecDepth 4000 in
theorem m_init_b1028_ok {pF : Nat → List Value → xH → Option (Option Value × xH)} {d : Nat} {aR : Nat} {G : Nat → xC} {T : Nat × Nat} {F : Nat} (hp0 : xNP pF)  : ∀ (lv : xL) (σ : RS) (l1 : Int32) (l2 : Int64), xg lv 0 = some (.ref aR) → xg lv 1 = some (.int l1) → xg lv 2 = some (.long l2) → ∀ res, m_init_b1028 F  σ l1 l2 = some res → xR pF (d + 2) kT297 16 6 true none none (layR aR res G, T) (1028, lv, [], (layR aR σ G, T)) := by
  intro lv σ l1 l2 g0 g1 g2 res h
  unfold m_init_b1028 at h
  refine eE_iload_n yl297_1028 g1 ?_
  refine eE_iconst (v := 1) yl297_1029 (by decide) ?_
  refine eE_icmp (t := 1037) yl297_1030 (by decide) (fun c103 => ?_) (fun c103 => ?_)
  · rw [if_pos c103] at h
    refine eE_iload_n yl297_1037 g1 ?_
    refine eE_bipush (v := 7) yl297_1038 (by decide) ?_
    refine eE_icmp (t := 1048) yl297_1040 (by decide) (fun c104 => ?_) (fun c104 => ?_)
    · rw [if_pos c104] at h
      refine eE_iload_n yl297_1048 g1 ?_
      exact m_init_b1049_ok hp0  lv σ l1 l2 g0 g2 _ h
    · rw [if_neg c104] at h
      refine eE_bipush (v := 7) yl297_1043 (by decide) ?_
      refine eE_goto (t := 1049) yl297_1045 (by decide) ?_
      exact m_init_b1049_ok hp0  lv σ ((7 : Int32)) l2 g0 g2 _ h
  · rw [if_neg c103] at h
    refine eE_iconst (v := 1) yl297_1033 (by decide) ?_
    refine eE_goto (t := 1049) yl297_1034 (by decide) ?_
    exact m_init_b1049_ok hp0  lv σ ((1 : Int32)) l2 g0 g2 _ h
