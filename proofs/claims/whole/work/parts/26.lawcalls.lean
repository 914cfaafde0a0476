/-! THE LAW: what holds at each call -/
abbrev gA (s : State) : Nat → Prop := fun q => s.heap.size ≤ q
def gLC (p : Program) (s : State) (m : MethodId) (c : Code) (b L : Nat) (xs : Nat → Int32) (G : va_G) (T : Nat → ClassId) (aK aV : Nat → Nat) : Prop :=
  p.tables.exec = Jvm.exec ∧ c.code = cL_law ∧ c.maxLocals = 7 ∧ s.vm.findClass RL = some m.cls ∧ (∀ w ∈ wsL_law, w.before #[Value.ref b] s = true) ∧ va_X b L xs s s.heap ∧ b < s.heap.size ∧ va_K G vwCl (gT T) s ∧ gE (gA s) s ∧ gW aK aV (gA s) s ∧ L ≤ 2048
def gLS (n : Nat) (G : va_G) (T : Nat → ClassId) (Ad : Nat → Nat) (AF : Nat → Nat → Nat) (s : State) (H : Heap) (locs : List Loc) : Prop :=
  ∃ (D mny : Nat → Int32) (N f g : Nat → Nat → Int32) (rk rf rg rh : Nat → Nat → Int32) (I1 : Nat → Int32) (F : Nat → Nat → Int32) (ho : Nat → Int64),
    REL n D mny N f g rk rf rg rh I1 F ∧ va_P G vwCl (wX T Ad AF ho D mny N f g rk rf rg rh ++ cM T (Ad 5) (AF 8) I1 F) H ∧ va_D (gA s) (wX T Ad AF ho D mny N f g rk rf rg rh ++ cM T (Ad 5) (AF 8) I1 F) ∧ va_S (gA s) s.heap H locs
theorem REL.up {n : Nat} {D mny : Nat → Int32} {N f g : Nat → Nat → Int32} {rk rf rg rh : Nat → Nat → Int32} {I1 : Nat → Int32} {F : Nat → Nat → Int32} (h : REL n D mny N f g rk rf rg rh I1 F) : REL (n + 1) D mny N f g rk rf rg rh I1 F := by
  obtain ⟨t, c, h1, h2, h3⟩ := h
  exact ⟨t, c, by omega, by omega, h3⟩
theorem ixP (x : Int32) (n : Nat) (h0 : 0 < n) (hn : n < 2 ^ 31) : ∃ i : Nat, i < n ∧ (okI x (nI n) = true → x = nI i ∧ i < n) := by
  by_cases h : okI x (nI n) = true
  · obtain ⟨h1, h2⟩ := okI_nat hn h
    exact ⟨x.toNatClampNeg, h2, fun _ => ⟨h1, h2⟩⟩
  · exact ⟨0, h0, fun z => absurd z h⟩
theorem ixO (x : Int32) : ∃ i : Nat, i < 6 ∧ (okI x 6 = true → x = nI i ∧ i < 6) := ixP x 6 (by omega) (by omega)
theorem ixN (x : Int32) : ∃ i : Nat, i < 16 ∧ (okI x 16 = true → x = nI i ∧ i < 16) := ixP x 16 (by omega) (by omega)
theorem ixR (x : Int32) : ∃ i : Nat, i < 3 ∧ (okI x 3 = true → x = nI i ∧ i < 3) := ixP x 3 (by omega) (by omega)
theorem lcmp0 {x y : Int64} (h : x = y) : lg_cmp x y = 0 := by
  subst h
  simp [lg_cmp, Int64.lt_irrefl]
theorem w3_ne : ∀ k : Nat, ¬ k = 0 → ¬ w3 k = 0
  | 0, h => absurd rfl h
  | 1, _ => by decide
  | 2, _ => by decide
  | _ + 3, _ => by show ¬ (3 : Int32) = 0; decide
theorem w13_ne : ∀ k : Nat, ¬ k = 0 → ¬ w13 k = 0
  | 0, h => absurd rfl h
  | 1, _ => by decide
  | _ + 2, _ => by show ¬ (2 : Int32) = 0; decide
theorem w1_ne : ∀ k : Nat, ¬ k = 0 → ¬ w1 k = 0
  | 0, h => absurd rfl h
  | _ + 1, _ => by show ¬ (1 : Int32) = 0; decide
theorem REL.name {n : Nat} {D mny : Nat → Int32} {N f g : Nat → Nat → Int32} {rk rf rg rh : Nat → Nat → Int32} {I1 : Nat → Int32} {F : Nat → Nat → Int32} (h : REL n D mny N f g rk rf rg rh I1 F) {j : Nat} (hj : j < 16) : ∃ c : Nat, RN c (N j) (f j) (g j) F j := by
  obtain ⟨t, c, -, -, -, -, -, -, -, -, h9, -⟩ := h
  exact ⟨c, h9 j hj⟩
section GSL
variable {p : Program} {l : Launch} {e : Env} {R : Room} {s : State} {m : MethodId} {args : Array Value} {below : List Frame} {meth : Method} {c : Code} {H : Heap} {locs : List Loc} {cells slots : Nat} {Q : State → Prop}
variable {cc : ByteArray} {pc : Nat} {ls : Array Slot} {rest : List Value} {A : Nat → Prop} {H0 : Heap}
theorem gsld (hexec : p.tables.exec = Jvm.exec) (hb : c.code = cc) {b L : Nat} {xs : Nat → Int32} (hX : va_X b L xs s H0) (hbl : b < H0.size) (hbA : ¬ A b) (hS : va_S A H0 H locs) {j : Nat} (hj : j < L) (hL : L < 2 ^ 31) {v : Int32} (hv : v = xs j) (hdg : decode cc pc = .ok (.iaload, 1))
    (kk : W p l e R s m args below meth c H locs cells slots Q (F0 m (pc + 1) ls (.int v :: rest))) : W p l e R s m args below meth c H locs cells slots Q (F0 m pc ls (.int (nI j) :: .ref b :: rest)) := by
  refine va_sld hexec hb hX hbl hbA hS (vp_in_nI hj hL) hdg ?_
  rw [nI_clamp (by omega), ← hv]; exact kk
end GSL
theorem wL_pass {T : Nat → ClassId} {Ad : Nat → Nat} {AF : Nat → Nat → Nat} {ho : Nat → Int64} {D mny : Nat → Int32} {N f g : Nat → Nat → Int32} {rk rf rg rh : Nat → Nat → Int32} {I1 : Nat → Int32} {F : Nat → Nat → Int32} :
    wX T Ad AF ho D mny N f g rk rf rg rh ++ cM T (Ad 5) (AF 8) I1 F = (([(Ad 0, .inl (T 4, 1, .inr (.inl ho)))] : va_W) ++ cA T (Ad 1) (Ad 2) (Ad 3) (Ad 4) D mny (AF 0) (AF 3) ++ cNs T (AF 0) (AF 1) (AF 2) N f g) ++ (cRs T (AF 3) (AF 4) (AF 5) (AF 6) (AF 7) rk rf rg rh ++ cM T (Ad 5) (AF 8) I1 F) := by
  rw [wX]
  simp only [List.append_assoc]
theorem REL.tk {n : Nat} {D mny : Nat → Int32} {N f g : Nat → Nat → Int32} {rk rf rg rh : Nat → Nat → Int32} {I1 : Nat → Int32} {F : Nat → Nat → Int32} (h : REL n D mny N f g rk rf rg rh I1 F) : D 3 = I1 0 ∧ D 4 = I1 1 := by
  obtain ⟨t, c, -, -, h3, h4, h5, -⟩ := h
  exact ⟨by rw [h3, h4], h5.symm⟩
section LAWOPS
variable {p : Program} {l : Launch} {e : Env} {s : State} {m : MethodId} {below : List Frame} {meth : Method} {c : Code} {b L : Nat} {xs : Nat → Int32} {G : va_G} {T : Nat → ClassId} {aK aV : Nat → Nat} {Ad : Nat → Nat} {AF : Nat → Nat → Nat} {H : Heap} {locs : List Loc} {ls : Array Slot} {cells slots n q : Nat} {Q : State → Prop}
set_option maxHeartbeats 8000000 in
set_option maxRecDepth 100000 in
theorem op_deposit (C : gLC p s m c b L xs G T aK aV) (hl0 : l.stackTraces = false) (hcl : cells + 5 ≤ 631168) (hsl : slots + 30 ≤ 7202601) (hn : n < 512) (hq : q + 4 ≤ L) (h : gLS n G T Ad AF s H locs) (hl : lv_has ls 7 [(0, .ref b), (1, .ref (Ad 1)), (2, .ref (Ad 5)), (3, .ref (Ad 0)), (4, .int (nI q))])
    (kk : ∀ (H : Heap) (locs : List Loc) (ls : Array Slot), gLS (n + 1) G T Ad AF s H locs → lv_has ls 7 [(0, .ref b), (1, .ref (Ad 1)), (2, .ref (Ad 5)), (3, .ref (Ad 0)), (4, .int (nI q))] → W p l e room_1 s m #[Value.ref b] below meth c H locs (cells + 5) (slots + 30) Q (F0 m 1261 ls [])) : W p l e room_1 s m #[Value.ref b] below meth c H locs cells slots Q (F0 m 128 ls []) := by
  obtain ⟨hx, hb, hml, hown, hts, hX, hbl, hK, hE, hWs, hL⟩ := id C
  have hA : ∀ q : Nat, s.heap.size ≤ q → gA s q := fun _ h => h
  have hbA : ¬ gA s b := Nat.not_le.mpr hbl
  obtain ⟨D, mny, N, f, g, rk, rf, rg, rh, I1, F, ho, hR, hP, hD, hS⟩ := h
  obtain ⟨p0, e0⟩ : ∃ y : Int32, y = xs (q + 1) := ⟨_, rfl⟩
  obtain ⟨p1, e1⟩ : ∃ y : Int32, y = xs (q + 2) := ⟨_, rfl⟩
  obtain ⟨i, hi6, hi⟩ := ixO p0
  refine lv_aload_n hx hb dL_law_128 rfl (lv_at hl 1 rfl) ?_
  refine lv_aload_n hx hb dL_law_129 rfl (lv_at hl 0 rfl) ?_
  refine lv_iload hx hb dL_law_130 (lv_at hl 4 rfl) ?_
  refine lv_iconst (v := 1) hx hb dL_law_132 (by decide) ?_
  refine lv_iadd hx hb dL_law_133 ?_
  refine gtop (y := nI (q + 1)) (nI_add q 1) ?_
  refine gsld hx hb hX hbl hbA hS (j := q + 1) (by omega) (by omega) e0 dL_law_134 ?_
  refine lv_aload_n hx hb dL_law_135 rfl (lv_at hl 0 rfl) ?_
  refine lv_iload hx hb dL_law_136 (lv_at hl 4 rfl) ?_
  refine lv_iconst (v := 2) hx hb dL_law_138 (by decide) ?_
  refine lv_iadd hx hb dL_law_139 ?_
  refine gtop (y := nI (q + 2)) (nI_add q 2) ?_
  refine gsld hx hb hX hbl hbA hS (j := q + 2) (by omega) (by omega) e1 dL_law_140 ?_
  refine lv_aload_n hx hb dL_law_141 rfl (lv_at hl 3 rfl) ?_
  by_cases hk : (kDep p0 p1) = 0
  · skip
    refine gci (vx_runSW (As := [.ref (Ad 1), .int p0, .int p1, .ref (Ad 0)]) (rest := []) ⟨hx, hb, hml, hown, hts⟩ (kL_deposit_ok l hl0 G T (Ad 1) (Ad 2) (Ad 3) (Ad 4) D mny (AF 0) (AF 3) p0 p1 i (Ad 0) ho _ hi hk) (vx_cwSW 4 hts gL_law_L_deposit rfl rfl rfl (by decide +kernel) ⟨Nat.le_of_ble_eq_true rfl, Nat.le_of_ble_eq_true rfl⟩) ⟨gblind, gpre hE hK hP hD hS hA [0, 1, 2, 3, 4] rfl (wL_cutA (ho1 := ho) (D1 := D) (m1 := mny))⟩ rfl rfl hl.1 rfl (lv_room (Nat.le_of_ble_eq_true rfl)) dL_law_142 ⟨Nat.le_trans (by omega) hcl, Nat.le_trans (by omega) hsl⟩) hP hD hS hA [0, 1, 2, 3, 4] (wL_cutA (ho1 := ho) (D1 := D) (m1 := mny)) rfl (fun r9 H locs hw hP hD hS => ?_)
    have hP := gfin hP wL_repA
    have hD := gfinD hD wL_repA
    try simp only [updA_self] at hP hD
    have hP : va_P G vwCl (wX T Ad AF (vp_updL ho 0 (((mny i + p1)).toInt64)) D (upd mny i (mny i + p1)) N f g rk rf rg rh ++ cM T (Ad 5) (AF 8) I1 F) H := hP
    have hD : va_D (gA s) (wX T Ad AF (vp_updL ho 0 (((mny i + p1)).toInt64)) D (upd mny i (mny i + p1)) N f g rk rf rg rh ++ cM T (Ad 5) (AF 8) I1 F) := hD
    subst hw
    have hsd := sim_deposit hR hi6 p1
    have hkc : kDep p0 p1 = kDep p0 p1 := rfl
    have hsim : kDep p0 p1 = 0 → (mny i + p1) = (F 2 i + p1) ∧ REL (n + 1) D (upd mny i (mny i + p1)) N f g rk rf rg rh (upd I1 17 0) (updA F 2 (upd (F 2) i (F 2 i + p1))) := fun _ => ⟨by rw [hsd.1], hsd.2⟩
    refine lv_istore (lv' := [(5, .int 0), (0, .ref b), (1, .ref (Ad 1)), (2, .ref (Ad 5)), (3, .ref (Ad 0)), (4, .int (nI q))]) hx hb dL_law_145 hl (by decide) rfl (fun ls hl => ?_)
    refine lv_aload_n hx hb dL_law_147 rfl (lv_at hl 3 rfl) ?_
    refine lv_aload_n hx hb dL_law_148 rfl (lv_at hl 1 rfl) ?_
    refine lv_iload hx hb dL_law_149 (lv_at hl 5 rfl) ?_
    refine lv_iconst (v := 1) hx hb dL_law_151 (by decide) ?_
    refine lv_iadd hx hb dL_law_152 ?_
    refine gtop (y := nI (q + 1)) (nI_add q 1) ?_
    refine gsld hx hb hX hbl hbA hS (j := q + 1) (by omega) (by omega) e0 dL_law_153 ?_
    refine lv_aload_n hx hb dL_law_154 rfl (lv_at hl 1 rfl) ?_
    refine lv_iload hx hb dL_law_155 (lv_at hl 5 rfl) ?_
    refine lv_iconst (v := 2) hx hb dL_law_157 (by decide) ?_
    refine lv_iadd hx hb dL_law_158 ?_
    refine gtop (y := nI (q + 2)) (nI_add q 2) ?_
    refine gsld hx hb hX hbl hbA hS (j := q + 2) (by omega) (by omega) e1 dL_law_159 ?_
    refine gciT (X := wX T Ad AF (vp_updL ho 0 (((mny i + p1)).toInt64)) D (upd mny i (mny i + p1)) N f g rk rf rg rh) (va_runV (As := [.int p0, .int p1]) (rest := []) ⟨hx, hb, hml, hown, hts⟩ (kX3_deposit l G T (Ad 5) (AF 8) I1 F i p0 p1 _ hi) (cwV 2 hts gL_law_X3_deposit rfl rfl rfl (by decide +kernel) ⟨Nat.le_of_ble_eq_true rfl, Nat.le_of_ble_eq_true rfl⟩) ⟨gblind, va_recv hK hP (ci := 3) (q0 := 68) rfl (wL_m (ho1 := ho) (D1 := D) (m1 := mny)), gpreT (X := wX T Ad AF (vp_updL ho 0 (((mny i + p1)).toInt64)) D (upd mny i (mny i + p1)) N f g rk rf rg rh) hE hK hP hD hS hA⟩ rfl rfl hl.1 rfl (lv_room (Nat.le_of_ble_eq_true rfl)) dL_law_160 ⟨Nat.le_trans (by omega) hcl, Nat.le_trans (by omega) hsl⟩) hP hD hS hA cM_fst (fun r9 H locs hw hP hD hS => ?_)
    have hc : (kDep p0 p1) = 0 := hkc.symm.trans hk
    rw [if_pos hc, if_pos hc] at hP hD
    rw [if_pos hc] at hw
    subst hw
    have hP : va_P G vwCl (wX T Ad AF (vp_updL ho 0 (((mny i + p1)).toInt64)) D (upd mny i (mny i + p1)) N f g rk rf rg rh ++ cM T (Ad 5) (AF 8) (upd I1 17 0) (updA F 2 (upd (F 2) i (F 2 i + p1)))) H := hP
    have hD : va_D (gA s) (wX T Ad AF (vp_updL ho 0 (((mny i + p1)).toInt64)) D (upd mny i (mny i + p1)) N f g rk rf rg rh ++ cM T (Ad 5) (AF 8) (upd I1 17 0) (updA F 2 (upd (F 2) i (F 2 i + p1)))) := hD
    refine lv_istore (lv' := [(6, .int ((F 2 i + p1))), (5, .int 0), (0, .ref b), (1, .ref (Ad 1)), (2, .ref (Ad 5)), (3, .ref (Ad 0)), (4, .int (nI q))]) hx hb dL_law_163 hl (by decide) rfl (fun ls hl => ?_)
    refine lv_aload_n hx hb dL_law_165 rfl (lv_at hl 4 rfl) ?_
    refine gciT (X := wX T Ad AF (vp_updL ho 0 (((mny i + p1)).toInt64)) D (upd mny i (mny i + p1)) N f g rk rf rg rh) (va_runV (As := []) (rest := []) ⟨hx, hb, hml, hown, hts⟩ (kX3_thrown l G T (Ad 5) (AF 8) (upd I1 17 0) (updA F 2 (upd (F 2) i (F 2 i + p1))) _) (cwV 0 hts gL_law_X3_thrown rfl rfl rfl (by decide +kernel) ⟨Nat.le_of_ble_eq_true rfl, Nat.le_of_ble_eq_true rfl⟩) ⟨gblind, va_recv hK hP (ci := 3) (q0 := 68) rfl (wL_m (ho1 := ho) (D1 := D) (m1 := mny)), gpreT (X := wX T Ad AF (vp_updL ho 0 (((mny i + p1)).toInt64)) D (upd mny i (mny i + p1)) N f g rk rf rg rh) hE hK hP hD hS hA⟩ rfl rfl hl.1 rfl (lv_room (Nat.le_of_ble_eq_true rfl)) dL_law_166 ⟨Nat.le_trans (by omega) hcl, Nat.le_trans (by omega) hsl⟩) hP hD hS hA cM_fst (fun r9 H locs hw hP hD hS => ?_)
    refine gtop (y := 0) hw ?_
    refine lv_iload hx hb dL_law_169 (lv_at hl 1 rfl) ?_
    refine lv_icmp_eq (tgt := 176) hx hb dL_law_171 (by decide) (fun _ => ?_) (fun c9 => absurd rfl c9)
    refine lv_iload hx hb dL_law_176 (lv_at hl 1 rfl) ?_
    refine lv_if_ne (tgt := 193) hx hb dL_law_178 (by decide) (fun c9 => absurd rfl c9) (fun _ => ?_)
    refine lv_aload_n hx hb dL_law_181 rfl (lv_at hl 5 rfl) ?_
    refine lv_iconst (v := 0) hx hb dL_law_182 (by decide) ?_
    refine glald (j := 0) hx hb hK hP 0 4 (wL_0 (ho1 := ho) (D1 := D) (m1 := mny)) rfl (show (0 : Int32) = nI 0 from rfl) (by omega) (by decide) dL_law_183 ?_
    obtain ⟨ea, hrel⟩ := hsim hk
    refine lv_iload hx hb dL_law_184 (lv_at hl 0 rfl) ?_
    refine lv_i2l (v := ((F 2 i + p1)).toInt64) hx hb dL_law_186 rfl ?_
    refine W.lcmp hx hb dL_law_187 ?_
    refine gtop (y := 0) (lcmp0 (show ((mny i + p1)).toInt64 = ((F 2 i + p1)).toInt64 from congrArg Int32.toInt64 ea)) ?_
    refine lv_if_eq (tgt := 193) hx hb dL_law_188 (by decide) (fun _ => ?_) (fun c9 => absurd rfl c9)
    refine lv_goto (tgt := 1261) hx hb dL_law_193 (by decide) ?_
    refine W.widen (k := cells + 5) (n := slots + 30) (by omega) (by omega) ?_
    exact kk _ _ _ ⟨_, _, _, _, _, _, _, _, _, _, _, _, hrel, hP, hD, hS⟩ (lv_sub hl [2, 3, 4, 5, 6] rfl)
  · skip
    refine gci (vx_runSW (As := [.ref (Ad 1), .int p0, .int p1, .ref (Ad 0)]) (rest := []) ⟨hx, hb, hml, hown, hts⟩ (kL_deposit_no l hl0 G T (Ad 1) (Ad 2) (Ad 3) (Ad 4) D mny (AF 0) (AF 3) p0 p1 i (Ad 0) ho _ hi hk) (vx_cwSW 4 hts gL_law_L_deposit rfl rfl rfl (by decide +kernel) ⟨Nat.le_of_ble_eq_true rfl, Nat.le_of_ble_eq_true rfl⟩) ⟨gblind, gpre hE hK hP hD hS hA [0, 1, 2, 3, 4] rfl (wL_cutA (ho1 := ho) (D1 := D) (m1 := mny))⟩ rfl rfl hl.1 rfl (lv_room (Nat.le_of_ble_eq_true rfl)) dL_law_142 ⟨Nat.le_trans (by omega) hcl, Nat.le_trans (by omega) hsl⟩) hP hD hS hA [0, 1, 2, 3, 4] (wL_cutA (ho1 := ho) (D1 := D) (m1 := mny)) rfl (fun r9 H locs hw hP hD hS => ?_)
    have hP := gfin hP wL_repA
    have hD := gfinD hD wL_repA
    try simp only [updA_self] at hP hD
    have hP : va_P G vwCl (wX T Ad AF ho D mny N f g rk rf rg rh ++ cM T (Ad 5) (AF 8) I1 F) H := hP
    have hD : va_D (gA s) (wX T Ad AF ho D mny N f g rk rf rg rh ++ cM T (Ad 5) (AF 8) I1 F) := hD
    subst hw
    have hsd := sim_deposit hR hi6 p1
    have hkc : kDep p0 p1 = kDep p0 p1 := rfl
    have hsim : kDep p0 p1 = 0 → (mny i + p1) = (F 2 i + p1) ∧ REL (n + 1) D (upd mny i (mny i + p1)) N f g rk rf rg rh (upd I1 17 0) (updA F 2 (upd (F 2) i (F 2 i + p1))) := fun _ => ⟨by rw [hsd.1], hsd.2⟩
    refine lv_istore (lv' := [(5, .int (w3 ((kDep p0 p1)))), (0, .ref b), (1, .ref (Ad 1)), (2, .ref (Ad 5)), (3, .ref (Ad 0)), (4, .int (nI q))]) hx hb dL_law_145 hl (by decide) rfl (fun ls hl => ?_)
    refine lv_aload_n hx hb dL_law_147 rfl (lv_at hl 3 rfl) ?_
    refine lv_aload_n hx hb dL_law_148 rfl (lv_at hl 1 rfl) ?_
    refine lv_iload hx hb dL_law_149 (lv_at hl 5 rfl) ?_
    refine lv_iconst (v := 1) hx hb dL_law_151 (by decide) ?_
    refine lv_iadd hx hb dL_law_152 ?_
    refine gtop (y := nI (q + 1)) (nI_add q 1) ?_
    refine gsld hx hb hX hbl hbA hS (j := q + 1) (by omega) (by omega) e0 dL_law_153 ?_
    refine lv_aload_n hx hb dL_law_154 rfl (lv_at hl 1 rfl) ?_
    refine lv_iload hx hb dL_law_155 (lv_at hl 5 rfl) ?_
    refine lv_iconst (v := 2) hx hb dL_law_157 (by decide) ?_
    refine lv_iadd hx hb dL_law_158 ?_
    refine gtop (y := nI (q + 2)) (nI_add q 2) ?_
    refine gsld hx hb hX hbl hbA hS (j := q + 2) (by omega) (by omega) e1 dL_law_159 ?_
    refine gciT (X := wX T Ad AF ho D mny N f g rk rf rg rh) (va_runV (As := [.int p0, .int p1]) (rest := []) ⟨hx, hb, hml, hown, hts⟩ (kX3_deposit l G T (Ad 5) (AF 8) I1 F i p0 p1 _ hi) (cwV 2 hts gL_law_X3_deposit rfl rfl rfl (by decide +kernel) ⟨Nat.le_of_ble_eq_true rfl, Nat.le_of_ble_eq_true rfl⟩) ⟨gblind, va_recv hK hP (ci := 3) (q0 := 68) rfl (wL_m (ho1 := ho) (D1 := D) (m1 := mny)), gpreT (X := wX T Ad AF ho D mny N f g rk rf rg rh) hE hK hP hD hS hA⟩ rfl rfl hl.1 rfl (lv_room (Nat.le_of_ble_eq_true rfl)) dL_law_160 ⟨Nat.le_trans (by omega) hcl, Nat.le_trans (by omega) hsl⟩) hP hD hS hA cM_fst (fun r9 H locs hw hP hD hS => ?_)
    have hc : ¬ (kDep p0 p1) = 0 := fun z => hk (hkc.trans z)
    rw [if_neg hc, if_neg hc] at hP hD
    rw [if_neg hc] at hw
    subst hw
    have hP : va_P G vwCl (wX T Ad AF ho D mny N f g rk rf rg rh ++ cM T (Ad 5) (AF 8) (upd I1 17 (w3 ((kDep p0 p1)))) F) H := hP
    have hD : va_D (gA s) (wX T Ad AF ho D mny N f g rk rf rg rh ++ cM T (Ad 5) (AF 8) (upd I1 17 (w3 ((kDep p0 p1)))) F) := hD
    refine lv_istore (lv' := [(6, .int (0)), (5, .int (w3 ((kDep p0 p1)))), (0, .ref b), (1, .ref (Ad 1)), (2, .ref (Ad 5)), (3, .ref (Ad 0)), (4, .int (nI q))]) hx hb dL_law_163 hl (by decide) rfl (fun ls hl => ?_)
    refine lv_aload_n hx hb dL_law_165 rfl (lv_at hl 4 rfl) ?_
    refine gciT (X := wX T Ad AF ho D mny N f g rk rf rg rh) (va_runV (As := []) (rest := []) ⟨hx, hb, hml, hown, hts⟩ (kX3_thrown l G T (Ad 5) (AF 8) (upd I1 17 (w3 ((kDep p0 p1)))) F _) (cwV 0 hts gL_law_X3_thrown rfl rfl rfl (by decide +kernel) ⟨Nat.le_of_ble_eq_true rfl, Nat.le_of_ble_eq_true rfl⟩) ⟨gblind, va_recv hK hP (ci := 3) (q0 := 68) rfl (wL_m (ho1 := ho) (D1 := D) (m1 := mny)), gpreT (X := wX T Ad AF ho D mny N f g rk rf rg rh) hE hK hP hD hS hA⟩ rfl rfl hl.1 rfl (lv_room (Nat.le_of_ble_eq_true rfl)) dL_law_166 ⟨Nat.le_trans (by omega) hcl, Nat.le_trans (by omega) hsl⟩) hP hD hS hA cM_fst (fun r9 H locs hw hP hD hS => ?_)
    refine gtop (y := w3 ((kDep p0 p1))) (hw.trans (show w3 ((kDep p0 p1)) = w3 ((kDep p0 p1)) by rw [hkc])) ?_
    refine lv_iload hx hb dL_law_169 (lv_at hl 1 rfl) ?_
    refine lv_icmp_eq (tgt := 176) hx hb dL_law_171 (by decide) (fun _ => ?_) (fun c9 => absurd rfl c9)
    refine lv_iload hx hb dL_law_176 (lv_at hl 1 rfl) ?_
    refine lv_if_ne (tgt := 193) hx hb dL_law_178 (by decide) (fun _ => ?_) (fun c9 => absurd c9 (w3_ne _ hk))
    refine lv_goto (tgt := 1261) hx hb dL_law_193 (by decide) ?_
    refine W.widen (k := cells + 5) (n := slots + 30) (by omega) (by omega) ?_
    exact kk _ _ _ ⟨_, _, _, _, _, _, _, _, _, _, _, _, hR.idle _, hP, hD, hS⟩ (lv_sub hl [2, 3, 4, 5, 6] rfl)
set_option maxHeartbeats 8000000 in
set_option maxRecDepth 100000 in
theorem op_today (C : gLC p s m c b L xs G T aK aV) (hl0 : l.stackTraces = false) (hcl : cells + 5 ≤ 631168) (hsl : slots + 30 ≤ 7202601) (hn : n < 512) (hq : q + 4 ≤ L) (h : gLS n G T Ad AF s H locs) (hl : lv_has ls 7 [(0, .ref b), (1, .ref (Ad 1)), (2, .ref (Ad 5)), (3, .ref (Ad 0)), (4, .int (nI q))])
    (kk : ∀ (H : Heap) (locs : List Loc) (ls : Array Slot), gLS (n + 1) G T Ad AF s H locs → lv_has ls 7 [(0, .ref b), (1, .ref (Ad 1)), (2, .ref (Ad 5)), (3, .ref (Ad 0)), (4, .int (nI q))] → W p l e room_1 s m #[Value.ref b] below meth c H locs (cells + 5) (slots + 30) Q (F0 m 1261 ls [])) : W p l e room_1 s m #[Value.ref b] below meth c H locs cells slots Q (F0 m 1036 ls []) := by
  obtain ⟨hx, hb, hml, hown, hts, hX, hbl, hK, hE, hWs, hL⟩ := id C
  have hA : ∀ q : Nat, s.heap.size ≤ q → gA s q := fun _ h => h
  have hbA : ¬ gA s b := Nat.not_le.mpr hbl
  obtain ⟨D, mny, N, f, g, rk, rf, rg, rh, I1, F, ho, hR, hP, hD, hS⟩ := h
  refine lv_aload_n hx hb dL_law_1036 rfl (lv_at hl 1 rfl) ?_
  refine gci (va_runV (As := []) (rest := []) ⟨hx, hb, hml, hown, hts⟩ (kX2_today l G T (Ad 1) (Ad 2) (Ad 3) (Ad 4) D mny (AF 0) (AF 3) _) (cwV 0 hts gL_law_X2_today rfl rfl rfl (by decide +kernel) ⟨Nat.le_of_ble_eq_true rfl, Nat.le_of_ble_eq_true rfl⟩) ⟨gblind, va_recv hK hP (ci := 2) (q0 := 1) rfl (wL_1 (ho1 := ho) (D1 := D) (m1 := mny)), gpre hE hK hP hD hS hA [1, 2, 3, 4] rfl (wL_cutC (ho1 := ho) (D1 := D) (m1 := mny))⟩ rfl rfl hl.1 rfl (lv_room (Nat.le_of_ble_eq_true rfl)) dL_law_1037 ⟨Nat.le_trans (by omega) hcl, Nat.le_trans (by omega) hsl⟩) hP hD hS hA [1, 2, 3, 4] (wL_cutC (ho1 := ho) (D1 := D) (m1 := mny)) rfl (fun r9 H locs hw hP hD hS => ?_)
  have hP := gfin hP (wL_repC (ho1 := ho) (D1 := D) (m1 := mny))
  have hD := gfinD hD (wL_repC (ho1 := ho) (D1 := D) (m1 := mny))
  subst hw
  refine lv_aload_n hx hb dL_law_1040 rfl (lv_at hl 2 rfl) ?_
  refine gciT (X := wX T Ad AF ho D mny N f g rk rf rg rh) (va_runV (As := []) (rest := [.int (D 3)]) ⟨hx, hb, hml, hown, hts⟩ (kX3_today l G T (Ad 5) (AF 8) I1 F _) (cwV 0 hts gL_law_X3_today rfl rfl rfl (by decide +kernel) ⟨Nat.le_of_ble_eq_true rfl, Nat.le_of_ble_eq_true rfl⟩) ⟨gblind, va_recv hK hP (ci := 3) (q0 := 68) rfl (wL_m (ho1 := ho) (D1 := D) (m1 := mny)), gpreT (X := wX T Ad AF ho D mny N f g rk rf rg rh) hE hK hP hD hS hA⟩ rfl rfl hl.1 rfl (lv_room (Nat.le_of_ble_eq_true rfl)) dL_law_1041 ⟨Nat.le_trans (by omega) hcl, Nat.le_trans (by omega) hsl⟩) hP hD hS hA cM_fst (fun r9 H locs hw hP hD hS => ?_)
  subst hw
  refine lv_icmp_eq (tgt := 1261) hx hb dL_law_1044 (by decide) (fun _ => ?_) (fun c9 => absurd (hR.tk.1) c9)
  refine W.widen (k := cells + 5) (n := slots + 30) (by omega) (by omega) ?_
  exact kk _ _ _ ⟨_, _, _, _, _, _, _, _, _, _, _, _, hR.idle 0, hP, hD, hS⟩ (lv_sub hl [0, 1, 2, 3, 4] rfl)
end LAWOPS
