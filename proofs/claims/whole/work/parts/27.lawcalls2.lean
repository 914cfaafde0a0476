section LAWOPS
variable {p : Program} {l : Launch} {e : Env} {s : State} {m : MethodId} {below : List Frame} {meth : Method} {c : Code} {b L : Nat} {xs : Nat → Int32} {G : va_G} {T : Nat → ClassId} {aK aV : Nat → Nat} {Ad : Nat → Nat} {AF : Nat → Nat → Nat} {H : Heap} {locs : List Loc} {ls : Array Slot} {cells slots n q : Nat} {Q : State → Prop}
set_option maxHeartbeats 8000000 in
set_option maxRecDepth 100000 in
theorem op_funds (C : gLC p s m c b L xs G T aK aV) (hl0 : l.stackTraces = false) (hcl : cells + 5 ≤ 631168) (hsl : slots + 30 ≤ 7202601) (hn : n < 512) (hq : q + 4 ≤ L) (h : gLS n G T Ad AF s H locs) (hl : lv_has ls 7 [(0, .ref b), (1, .ref (Ad 1)), (2, .ref (Ad 5)), (3, .ref (Ad 0)), (4, .int (nI q))])
    (kk : ∀ (H : Heap) (locs : List Loc) (ls : Array Slot), gLS (n + 1) G T Ad AF s H locs → lv_has ls 7 [(0, .ref b), (1, .ref (Ad 1)), (2, .ref (Ad 5)), (3, .ref (Ad 0)), (4, .int (nI q))] → W p l e room_1 s m #[Value.ref b] below meth c H locs (cells + 5) (slots + 30) Q (F0 m 1261 ls [])) : W p l e room_1 s m #[Value.ref b] below meth c H locs cells slots Q (F0 m 196 ls []) := by
  obtain ⟨hx, hb, hml, hown, hts, hX, hbl, hK, hE, hWs, hL⟩ := id C
  have hA : ∀ q : Nat, s.heap.size ≤ q → gA s q := fun _ h => h
  have hbA : ¬ gA s b := Nat.not_le.mpr hbl
  obtain ⟨D, mny, N, f, g, rk, rf, rg, rh, I1, F, ho, hR, hP, hD, hS⟩ := h
  obtain ⟨p0, e0⟩ : ∃ y : Int32, y = xs (q + 1) := ⟨_, rfl⟩
  obtain ⟨i, hi6, hi⟩ := ixO p0
  refine lv_aload_n hx hb dL_law_196 rfl (lv_at hl 1 rfl) ?_
  refine lv_aload_n hx hb dL_law_197 rfl (lv_at hl 0 rfl) ?_
  refine lv_iload hx hb dL_law_198 (lv_at hl 4 rfl) ?_
  refine lv_iconst (v := 1) hx hb dL_law_200 (by decide) ?_
  refine lv_iadd hx hb dL_law_201 ?_
  refine gtop (y := nI (q + 1)) (nI_add q 1) ?_
  refine gsld hx hb hX hbl hbA hS (j := q + 1) (by omega) (by omega) e0 dL_law_202 ?_
  refine lv_aload_n hx hb dL_law_203 rfl (lv_at hl 3 rfl) ?_
  by_cases hk : (kOwn p0) = 0
  · skip
    refine gci (vx_runSW (As := [.ref (Ad 1), .int p0, .ref (Ad 0)]) (rest := []) ⟨hx, hb, hml, hown, hts⟩ (kL_funds_ok l hl0 G T (Ad 1) (Ad 2) (Ad 3) (Ad 4) D mny (AF 0) (AF 3) p0 i (Ad 0) ho _ hi hk) (vx_cwSW 3 hts gL_law_L_funds rfl rfl rfl (by decide +kernel) ⟨Nat.le_of_ble_eq_true rfl, Nat.le_of_ble_eq_true rfl⟩) ⟨gblind, gpre hE hK hP hD hS hA [0, 1, 2, 3, 4] rfl (wL_cutA (ho1 := ho) (D1 := D) (m1 := mny))⟩ rfl rfl hl.1 rfl (lv_room (Nat.le_of_ble_eq_true rfl)) dL_law_204 ⟨Nat.le_trans (by omega) hcl, Nat.le_trans (by omega) hsl⟩) hP hD hS hA [0, 1, 2, 3, 4] (wL_cutA (ho1 := ho) (D1 := D) (m1 := mny)) rfl (fun r9 H locs hw hP hD hS => ?_)
    have hP := gfin hP wL_repA
    have hD := gfinD hD wL_repA
    try simp only [updA_self] at hP hD
    have hP : va_P G vwCl (wX T Ad AF (vp_updL ho 0 (((mny i)).toInt64)) D mny N f g rk rf rg rh ++ cM T (Ad 5) (AF 8) I1 F) H := hP
    have hD : va_D (gA s) (wX T Ad AF (vp_updL ho 0 (((mny i)).toInt64)) D mny N f g rk rf rg rh ++ cM T (Ad 5) (AF 8) I1 F) := hD
    subst hw
    have hkc : (kOwn p0) = (kOwn p0) := rfl
    have hsim : (kOwn p0) = 0 → (mny i) = (F 2 i) ∧ REL (n + 1) D mny N f g rk rf rg rh (upd I1 17 0) F := fun _ => ⟨(sim_deposit hR hi6 0).1.symm, hR.idle 0⟩
    refine lv_istore (lv' := [(5, .int 0), (0, .ref b), (1, .ref (Ad 1)), (2, .ref (Ad 5)), (3, .ref (Ad 0)), (4, .int (nI q))]) hx hb dL_law_207 hl (by decide) rfl (fun ls hl => ?_)
    refine lv_aload_n hx hb dL_law_209 rfl (lv_at hl 3 rfl) ?_
    refine lv_aload_n hx hb dL_law_210 rfl (lv_at hl 1 rfl) ?_
    refine lv_iload hx hb dL_law_211 (lv_at hl 5 rfl) ?_
    refine lv_iconst (v := 1) hx hb dL_law_213 (by decide) ?_
    refine lv_iadd hx hb dL_law_214 ?_
    refine gtop (y := nI (q + 1)) (nI_add q 1) ?_
    refine gsld hx hb hX hbl hbA hS (j := q + 1) (by omega) (by omega) e0 dL_law_215 ?_
    refine gciT (X := wX T Ad AF (vp_updL ho 0 (((mny i)).toInt64)) D mny N f g rk rf rg rh) (va_runV (As := [.int p0]) (rest := []) ⟨hx, hb, hml, hown, hts⟩ (kX3_funds l G T (Ad 5) (AF 8) I1 F i p0 _ hi) (cwV 1 hts gL_law_X3_funds rfl rfl rfl (by decide +kernel) ⟨Nat.le_of_ble_eq_true rfl, Nat.le_of_ble_eq_true rfl⟩) ⟨gblind, va_recv hK hP (ci := 3) (q0 := 68) rfl (wL_m (ho1 := ho) (D1 := D) (m1 := mny)), gpreT (X := wX T Ad AF (vp_updL ho 0 (((mny i)).toInt64)) D mny N f g rk rf rg rh) hE hK hP hD hS hA⟩ rfl rfl hl.1 rfl (lv_room (Nat.le_of_ble_eq_true rfl)) dL_law_216 ⟨Nat.le_trans (by omega) hcl, Nat.le_trans (by omega) hsl⟩) hP hD hS hA cM_fst (fun r9 H locs hw hP hD hS => ?_)
    have hc : (kOwn p0) = 0 := hkc.symm.trans hk
    rw [if_pos hc, if_pos hc] at hP hD
    rw [if_pos hc] at hw
    subst hw
    have hP : va_P G vwCl (wX T Ad AF (vp_updL ho 0 (((mny i)).toInt64)) D mny N f g rk rf rg rh ++ cM T (Ad 5) (AF 8) (upd I1 17 0) F) H := hP
    have hD : va_D (gA s) (wX T Ad AF (vp_updL ho 0 (((mny i)).toInt64)) D mny N f g rk rf rg rh ++ cM T (Ad 5) (AF 8) (upd I1 17 0) F) := hD
    refine lv_istore (lv' := [(6, .int ((F 2 i))), (5, .int 0), (0, .ref b), (1, .ref (Ad 1)), (2, .ref (Ad 5)), (3, .ref (Ad 0)), (4, .int (nI q))]) hx hb dL_law_219 hl (by decide) rfl (fun ls hl => ?_)
    refine lv_aload_n hx hb dL_law_221 rfl (lv_at hl 4 rfl) ?_
    refine gciT (X := wX T Ad AF (vp_updL ho 0 (((mny i)).toInt64)) D mny N f g rk rf rg rh) (va_runV (As := []) (rest := []) ⟨hx, hb, hml, hown, hts⟩ (kX3_thrown l G T (Ad 5) (AF 8) (upd I1 17 0) F _) (cwV 0 hts gL_law_X3_thrown rfl rfl rfl (by decide +kernel) ⟨Nat.le_of_ble_eq_true rfl, Nat.le_of_ble_eq_true rfl⟩) ⟨gblind, va_recv hK hP (ci := 3) (q0 := 68) rfl (wL_m (ho1 := ho) (D1 := D) (m1 := mny)), gpreT (X := wX T Ad AF (vp_updL ho 0 (((mny i)).toInt64)) D mny N f g rk rf rg rh) hE hK hP hD hS hA⟩ rfl rfl hl.1 rfl (lv_room (Nat.le_of_ble_eq_true rfl)) dL_law_222 ⟨Nat.le_trans (by omega) hcl, Nat.le_trans (by omega) hsl⟩) hP hD hS hA cM_fst (fun r9 H locs hw hP hD hS => ?_)
    refine gtop (y := 0) hw ?_
    refine lv_iload hx hb dL_law_225 (lv_at hl 1 rfl) ?_
    refine lv_icmp_eq (tgt := 232) hx hb dL_law_227 (by decide) (fun _ => ?_) (fun c9 => absurd rfl c9)
    refine lv_iload hx hb dL_law_232 (lv_at hl 1 rfl) ?_
    refine lv_if_ne (tgt := 249) hx hb dL_law_234 (by decide) (fun c9 => absurd rfl c9) (fun _ => ?_)
    refine lv_aload_n hx hb dL_law_237 rfl (lv_at hl 5 rfl) ?_
    refine lv_iconst (v := 0) hx hb dL_law_238 (by decide) ?_
    refine glald (j := 0) hx hb hK hP 0 4 (wL_0 (ho1 := ho) (D1 := D) (m1 := mny)) rfl (show (0 : Int32) = nI 0 from rfl) (by omega) (by decide) dL_law_239 ?_
    obtain ⟨ea, hrel⟩ := hsim hk
    refine lv_iload hx hb dL_law_240 (lv_at hl 0 rfl) ?_
    refine lv_i2l (v := ((F 2 i)).toInt64) hx hb dL_law_242 rfl ?_
    refine W.lcmp hx hb dL_law_243 ?_
    refine gtop (y := 0) (lcmp0 (show ((mny i)).toInt64 = ((F 2 i)).toInt64 from congrArg Int32.toInt64 ea)) ?_
    refine lv_if_eq (tgt := 249) hx hb dL_law_244 (by decide) (fun _ => ?_) (fun c9 => absurd rfl c9)
    refine lv_goto (tgt := 1261) hx hb dL_law_249 (by decide) ?_
    refine W.widen (k := cells + 5) (n := slots + 30) (by omega) (by omega) ?_
    exact kk _ _ _ ⟨_, _, _, _, _, _, _, _, _, _, _, _, hrel, hP, hD, hS⟩ (lv_sub hl [2, 3, 4, 5, 6] rfl)
  · skip
    refine gci (vx_runSW (As := [.ref (Ad 1), .int p0, .ref (Ad 0)]) (rest := []) ⟨hx, hb, hml, hown, hts⟩ (kL_funds_no l hl0 G T (Ad 1) (Ad 2) (Ad 3) (Ad 4) D mny (AF 0) (AF 3) p0 i (Ad 0) ho _ hi hk) (vx_cwSW 3 hts gL_law_L_funds rfl rfl rfl (by decide +kernel) ⟨Nat.le_of_ble_eq_true rfl, Nat.le_of_ble_eq_true rfl⟩) ⟨gblind, gpre hE hK hP hD hS hA [0, 1, 2, 3, 4] rfl (wL_cutA (ho1 := ho) (D1 := D) (m1 := mny))⟩ rfl rfl hl.1 rfl (lv_room (Nat.le_of_ble_eq_true rfl)) dL_law_204 ⟨Nat.le_trans (by omega) hcl, Nat.le_trans (by omega) hsl⟩) hP hD hS hA [0, 1, 2, 3, 4] (wL_cutA (ho1 := ho) (D1 := D) (m1 := mny)) rfl (fun r9 H locs hw hP hD hS => ?_)
    have hP := gfin hP wL_repA
    have hD := gfinD hD wL_repA
    try simp only [updA_self] at hP hD
    have hP : va_P G vwCl (wX T Ad AF ho D mny N f g rk rf rg rh ++ cM T (Ad 5) (AF 8) I1 F) H := hP
    have hD : va_D (gA s) (wX T Ad AF ho D mny N f g rk rf rg rh ++ cM T (Ad 5) (AF 8) I1 F) := hD
    subst hw
    have hkc : (kOwn p0) = (kOwn p0) := rfl
    have hsim : (kOwn p0) = 0 → (mny i) = (F 2 i) ∧ REL (n + 1) D mny N f g rk rf rg rh (upd I1 17 0) F := fun _ => ⟨(sim_deposit hR hi6 0).1.symm, hR.idle 0⟩
    refine lv_istore (lv' := [(5, .int (w3 ((kOwn p0)))), (0, .ref b), (1, .ref (Ad 1)), (2, .ref (Ad 5)), (3, .ref (Ad 0)), (4, .int (nI q))]) hx hb dL_law_207 hl (by decide) rfl (fun ls hl => ?_)
    refine lv_aload_n hx hb dL_law_209 rfl (lv_at hl 3 rfl) ?_
    refine lv_aload_n hx hb dL_law_210 rfl (lv_at hl 1 rfl) ?_
    refine lv_iload hx hb dL_law_211 (lv_at hl 5 rfl) ?_
    refine lv_iconst (v := 1) hx hb dL_law_213 (by decide) ?_
    refine lv_iadd hx hb dL_law_214 ?_
    refine gtop (y := nI (q + 1)) (nI_add q 1) ?_
    refine gsld hx hb hX hbl hbA hS (j := q + 1) (by omega) (by omega) e0 dL_law_215 ?_
    refine gciT (X := wX T Ad AF ho D mny N f g rk rf rg rh) (va_runV (As := [.int p0]) (rest := []) ⟨hx, hb, hml, hown, hts⟩ (kX3_funds l G T (Ad 5) (AF 8) I1 F i p0 _ hi) (cwV 1 hts gL_law_X3_funds rfl rfl rfl (by decide +kernel) ⟨Nat.le_of_ble_eq_true rfl, Nat.le_of_ble_eq_true rfl⟩) ⟨gblind, va_recv hK hP (ci := 3) (q0 := 68) rfl (wL_m (ho1 := ho) (D1 := D) (m1 := mny)), gpreT (X := wX T Ad AF ho D mny N f g rk rf rg rh) hE hK hP hD hS hA⟩ rfl rfl hl.1 rfl (lv_room (Nat.le_of_ble_eq_true rfl)) dL_law_216 ⟨Nat.le_trans (by omega) hcl, Nat.le_trans (by omega) hsl⟩) hP hD hS hA cM_fst (fun r9 H locs hw hP hD hS => ?_)
    have hc : ¬ (kOwn p0) = 0 := fun z => hk (hkc.trans z)
    rw [if_neg hc, if_neg hc] at hP hD
    rw [if_neg hc] at hw
    subst hw
    have hP : va_P G vwCl (wX T Ad AF ho D mny N f g rk rf rg rh ++ cM T (Ad 5) (AF 8) (upd I1 17 (w3 ((kOwn p0)))) F) H := hP
    have hD : va_D (gA s) (wX T Ad AF ho D mny N f g rk rf rg rh ++ cM T (Ad 5) (AF 8) (upd I1 17 (w3 ((kOwn p0)))) F) := hD
    refine lv_istore (lv' := [(6, .int (0)), (5, .int (w3 ((kOwn p0)))), (0, .ref b), (1, .ref (Ad 1)), (2, .ref (Ad 5)), (3, .ref (Ad 0)), (4, .int (nI q))]) hx hb dL_law_219 hl (by decide) rfl (fun ls hl => ?_)
    refine lv_aload_n hx hb dL_law_221 rfl (lv_at hl 4 rfl) ?_
    refine gciT (X := wX T Ad AF ho D mny N f g rk rf rg rh) (va_runV (As := []) (rest := []) ⟨hx, hb, hml, hown, hts⟩ (kX3_thrown l G T (Ad 5) (AF 8) (upd I1 17 (w3 ((kOwn p0)))) F _) (cwV 0 hts gL_law_X3_thrown rfl rfl rfl (by decide +kernel) ⟨Nat.le_of_ble_eq_true rfl, Nat.le_of_ble_eq_true rfl⟩) ⟨gblind, va_recv hK hP (ci := 3) (q0 := 68) rfl (wL_m (ho1 := ho) (D1 := D) (m1 := mny)), gpreT (X := wX T Ad AF ho D mny N f g rk rf rg rh) hE hK hP hD hS hA⟩ rfl rfl hl.1 rfl (lv_room (Nat.le_of_ble_eq_true rfl)) dL_law_222 ⟨Nat.le_trans (by omega) hcl, Nat.le_trans (by omega) hsl⟩) hP hD hS hA cM_fst (fun r9 H locs hw hP hD hS => ?_)
    refine gtop (y := w3 ((kOwn p0))) (hw.trans (show w3 ((kOwn p0)) = w3 ((kOwn p0)) by rw [hkc])) ?_
    refine lv_iload hx hb dL_law_225 (lv_at hl 1 rfl) ?_
    refine lv_icmp_eq (tgt := 232) hx hb dL_law_227 (by decide) (fun _ => ?_) (fun c9 => absurd rfl c9)
    refine lv_iload hx hb dL_law_232 (lv_at hl 1 rfl) ?_
    refine lv_if_ne (tgt := 249) hx hb dL_law_234 (by decide) (fun _ => ?_) (fun c9 => absurd c9 (w3_ne _ hk))
    refine lv_goto (tgt := 1261) hx hb dL_law_249 (by decide) ?_
    refine W.widen (k := cells + 5) (n := slots + 30) (by omega) (by omega) ?_
    exact kk _ _ _ ⟨_, _, _, _, _, _, _, _, _, _, _, _, hR.idle _, hP, hD, hS⟩ (lv_sub hl [2, 3, 4, 5, 6] rfl)
set_option maxHeartbeats 8000000 in
set_option maxRecDepth 100000 in
theorem op_bid (C : gLC p s m c b L xs G T aK aV) (hl0 : l.stackTraces = false) (hcl : cells + 5 ≤ 631168) (hsl : slots + 30 ≤ 7202601) (hn : n < 512) (hq : q + 4 ≤ L) (h : gLS n G T Ad AF s H locs) (hl : lv_has ls 7 [(0, .ref b), (1, .ref (Ad 1)), (2, .ref (Ad 5)), (3, .ref (Ad 0)), (4, .int (nI q))])
    (kk : ∀ (H : Heap) (locs : List Loc) (ls : Array Slot), gLS (n + 1) G T Ad AF s H locs → lv_has ls 7 [(0, .ref b), (1, .ref (Ad 1)), (2, .ref (Ad 5)), (3, .ref (Ad 0)), (4, .int (nI q))] → W p l e room_1 s m #[Value.ref b] below meth c H locs (cells + 5) (slots + 30) Q (F0 m 1261 ls [])) : W p l e room_1 s m #[Value.ref b] below meth c H locs cells slots Q (F0 m 252 ls []) := by
  obtain ⟨hx, hb, hml, hown, hts, hX, hbl, hK, hE, hWs, hL⟩ := id C
  have hA : ∀ q : Nat, s.heap.size ≤ q → gA s q := fun _ h => h
  have hbA : ¬ gA s b := Nat.not_le.mpr hbl
  obtain ⟨D, mny, N, f, g, rk, rf, rg, rh, I1, F, ho, hR, hP, hD, hS⟩ := h
  obtain ⟨p0, e0⟩ : ∃ y : Int32, y = xs (q + 1) := ⟨_, rfl⟩
  obtain ⟨p1, e1⟩ : ∃ y : Int32, y = xs (q + 2) := ⟨_, rfl⟩
  obtain ⟨p2, e2⟩ : ∃ y : Int32, y = xs (q + 3) := ⟨_, rfl⟩
  obtain ⟨i, hi6, hi⟩ := ixO p0
  obtain ⟨j, hj6, hj⟩ := ixN p1
  refine lv_aload_n hx hb dL_law_252 rfl (lv_at hl 1 rfl) ?_
  refine lv_aload_n hx hb dL_law_253 rfl (lv_at hl 0 rfl) ?_
  refine lv_iload hx hb dL_law_254 (lv_at hl 4 rfl) ?_
  refine lv_iconst (v := 1) hx hb dL_law_256 (by decide) ?_
  refine lv_iadd hx hb dL_law_257 ?_
  refine gtop (y := nI (q + 1)) (nI_add q 1) ?_
  refine gsld hx hb hX hbl hbA hS (j := q + 1) (by omega) (by omega) e0 dL_law_258 ?_
  refine lv_aload_n hx hb dL_law_259 rfl (lv_at hl 0 rfl) ?_
  refine lv_iload hx hb dL_law_260 (lv_at hl 4 rfl) ?_
  refine lv_iconst (v := 2) hx hb dL_law_262 (by decide) ?_
  refine lv_iadd hx hb dL_law_263 ?_
  refine gtop (y := nI (q + 2)) (nI_add q 2) ?_
  refine gsld hx hb hX hbl hbA hS (j := q + 2) (by omega) (by omega) e1 dL_law_264 ?_
  refine lv_aload_n hx hb dL_law_265 rfl (lv_at hl 0 rfl) ?_
  refine lv_iload hx hb dL_law_266 (lv_at hl 4 rfl) ?_
  refine lv_iconst (v := 3) hx hb dL_law_268 (by decide) ?_
  refine lv_iadd hx hb dL_law_269 ?_
  refine gtop (y := nI (q + 3)) (nI_add q 3) ?_
  refine gsld hx hb hX hbl hbA hS (j := q + 3) (by omega) (by omega) e2 dL_law_270 ?_
  refine lv_aload_n hx hb dL_law_271 rfl (lv_at hl 3 rfl) ?_
  by_cases hk : (kBid p0 p1 p2 (N j)) = 0
  · skip
    refine gci (vx_runSW (As := [.ref (Ad 1), .int p0, .int p1, .int p2, .ref (Ad 0)]) (rest := []) ⟨hx, hb, hml, hown, hts⟩ (kL_bid_ok l hl0 G T (Ad 1) (Ad 2) (Ad 3) (Ad 4) D mny (AF 0) (AF 3) j (AF 1 j) (AF 2 j) (N j) (f j) (g j) p0 p1 p2 i (Ad 0) ho _ hi hj hk) (vx_cwSW 5 hts gL_law_L_bid rfl rfl rfl (by decide +kernel) ⟨Nat.le_of_ble_eq_true rfl, Nat.le_of_ble_eq_true rfl⟩) ⟨gblind, gpre hE hK hP hD hS hA [0, 1, 2, 3, 4, 5 + 3 * j, 6 + 3 * j, 7 + 3 * j] (wL_ndN hj6) (wL_cutN (ho1 := ho) (D1 := D) (m1 := mny) hj6)⟩ rfl rfl hl.1 rfl (lv_room (Nat.le_of_ble_eq_true rfl)) dL_law_272 ⟨Nat.le_trans (by omega) hcl, Nat.le_trans (by omega) hsl⟩) hP hD hS hA [0, 1, 2, 3, 4, 5 + 3 * j, 6 + 3 * j, 7 + 3 * j] (wL_cutN (ho1 := ho) (D1 := D) (m1 := mny) hj6) rfl (fun r9 H locs hw hP hD hS => ?_)
    have hP := gfin hP (wL_repN hj6)
    have hD := gfinD hD (wL_repN hj6)
    try simp only [updA_self] at hP hD
    have hP : va_P G vwCl (wX T Ad AF (vp_updL ho 0 (((sBidN (N j) D 2)).toInt64)) (upd D 5 (D 5 + 1)) mny (updA N j (sBidN (N j) D)) (updA f j (upd (f j) i p2)) (updA g j (upd (g j) i (D 5 + 1))) rk rf rg rh ++ cM T (Ad 5) (AF 8) I1 F) H := hP
    have hD : va_D (gA s) (wX T Ad AF (vp_updL ho 0 (((sBidN (N j) D 2)).toInt64)) (upd D 5 (D 5 + 1)) mny (updA N j (sBidN (N j) D)) (updA f j (upd (f j) i p2)) (updA g j (upd (g j) i (D 5 + 1))) rk rf rg rh ++ cM T (Ad 5) (AF 8) I1 F) := hD
    subst hw
    obtain ⟨hkc, hsim⟩ := sim_bid hR (p0 := p0) (p1 := p1) (p2 := p2) hi hj6
    refine lv_istore (lv' := [(5, .int 0), (0, .ref b), (1, .ref (Ad 1)), (2, .ref (Ad 5)), (3, .ref (Ad 0)), (4, .int (nI q))]) hx hb dL_law_275 hl (by decide) rfl (fun ls hl => ?_)
    refine lv_aload_n hx hb dL_law_277 rfl (lv_at hl 3 rfl) ?_
    refine lv_aload_n hx hb dL_law_278 rfl (lv_at hl 1 rfl) ?_
    refine lv_iload hx hb dL_law_279 (lv_at hl 5 rfl) ?_
    refine lv_iconst (v := 1) hx hb dL_law_281 (by decide) ?_
    refine lv_iadd hx hb dL_law_282 ?_
    refine gtop (y := nI (q + 1)) (nI_add q 1) ?_
    refine gsld hx hb hX hbl hbA hS (j := q + 1) (by omega) (by omega) e0 dL_law_283 ?_
    refine lv_aload_n hx hb dL_law_284 rfl (lv_at hl 1 rfl) ?_
    refine lv_iload hx hb dL_law_285 (lv_at hl 5 rfl) ?_
    refine lv_iconst (v := 2) hx hb dL_law_287 (by decide) ?_
    refine lv_iadd hx hb dL_law_288 ?_
    refine gtop (y := nI (q + 2)) (nI_add q 2) ?_
    refine gsld hx hb hX hbl hbA hS (j := q + 2) (by omega) (by omega) e1 dL_law_289 ?_
    refine lv_aload_n hx hb dL_law_290 rfl (lv_at hl 1 rfl) ?_
    refine lv_iload hx hb dL_law_291 (lv_at hl 5 rfl) ?_
    refine lv_iconst (v := 3) hx hb dL_law_293 (by decide) ?_
    refine lv_iadd hx hb dL_law_294 ?_
    refine gtop (y := nI (q + 3)) (nI_add q 3) ?_
    refine gsld hx hb hX hbl hbA hS (j := q + 3) (by omega) (by omega) e2 dL_law_295 ?_
    refine gciT (X := wX T Ad AF (vp_updL ho 0 (((sBidN (N j) D 2)).toInt64)) (upd D 5 (D 5 + 1)) mny (updA N j (sBidN (N j) D)) (updA f j (upd (f j) i p2)) (updA g j (upd (g j) i (D 5 + 1))) rk rf rg rh) (va_runV (As := [.int p0, .int p1, .int p2]) (rest := []) ⟨hx, hb, hml, hown, hts⟩ (kX3_bid l G T (Ad 5) (AF 8) I1 F i j p0 p1 p2 _ hi hj) (cwV 3 hts gL_law_X3_bid rfl rfl rfl (by decide +kernel) ⟨Nat.le_of_ble_eq_true rfl, Nat.le_of_ble_eq_true rfl⟩) ⟨gblind, va_recv hK hP (ci := 3) (q0 := 68) rfl (wL_m (ho1 := ho) (D1 := D) (m1 := mny)), gpreT (X := wX T Ad AF (vp_updL ho 0 (((sBidN (N j) D 2)).toInt64)) (upd D 5 (D 5 + 1)) mny (updA N j (sBidN (N j) D)) (updA f j (upd (f j) i p2)) (updA g j (upd (g j) i (D 5 + 1))) rk rf rg rh) hE hK hP hD hS hA⟩ rfl rfl hl.1 rfl (lv_room (Nat.le_of_ble_eq_true rfl)) dL_law_296 ⟨Nat.le_trans (by omega) hcl, Nat.le_trans (by omega) hsl⟩) hP hD hS hA cM_fst (fun r9 H locs hw hP hD hS => ?_)
    have hc : (cBid F j p0 p1 p2) = 0 := hkc.symm.trans hk
    rw [if_pos hc, if_pos hc] at hP hD
    rw [if_pos hc] at hw
    subst hw
    have hP : va_P G vwCl (wX T Ad AF (vp_updL ho 0 (((sBidN (N j) D 2)).toInt64)) (upd D 5 (D 5 + 1)) mny (updA N j (sBidN (N j) D)) (updA f j (upd (f j) i p2)) (updA g j (upd (g j) i (D 5 + 1))) rk rf rg rh ++ cM T (Ad 5) (AF 8) (upd (upd I1 17 0) 13 (I1 13 + 1)) (mBidF I1 F j i p2)) H := hP
    have hD : va_D (gA s) (wX T Ad AF (vp_updL ho 0 (((sBidN (N j) D 2)).toInt64)) (upd D 5 (D 5 + 1)) mny (updA N j (sBidN (N j) D)) (updA f j (upd (f j) i p2)) (updA g j (upd (g j) i (D 5 + 1))) rk rf rg rh ++ cM T (Ad 5) (AF 8) (upd (upd I1 17 0) 13 (I1 13 + 1)) (mBidF I1 F j i p2)) := hD
    refine lv_istore (lv' := [(6, .int ((mBidR I1 F j))), (5, .int 0), (0, .ref b), (1, .ref (Ad 1)), (2, .ref (Ad 5)), (3, .ref (Ad 0)), (4, .int (nI q))]) hx hb dL_law_299 hl (by decide) rfl (fun ls hl => ?_)
    refine lv_aload_n hx hb dL_law_301 rfl (lv_at hl 4 rfl) ?_
    refine gciT (X := wX T Ad AF (vp_updL ho 0 (((sBidN (N j) D 2)).toInt64)) (upd D 5 (D 5 + 1)) mny (updA N j (sBidN (N j) D)) (updA f j (upd (f j) i p2)) (updA g j (upd (g j) i (D 5 + 1))) rk rf rg rh) (va_runV (As := []) (rest := []) ⟨hx, hb, hml, hown, hts⟩ (kX3_thrown l G T (Ad 5) (AF 8) (upd (upd I1 17 0) 13 (I1 13 + 1)) (mBidF I1 F j i p2) _) (cwV 0 hts gL_law_X3_thrown rfl rfl rfl (by decide +kernel) ⟨Nat.le_of_ble_eq_true rfl, Nat.le_of_ble_eq_true rfl⟩) ⟨gblind, va_recv hK hP (ci := 3) (q0 := 68) rfl (wL_m (ho1 := ho) (D1 := D) (m1 := mny)), gpreT (X := wX T Ad AF (vp_updL ho 0 (((sBidN (N j) D 2)).toInt64)) (upd D 5 (D 5 + 1)) mny (updA N j (sBidN (N j) D)) (updA f j (upd (f j) i p2)) (updA g j (upd (g j) i (D 5 + 1))) rk rf rg rh) hE hK hP hD hS hA⟩ rfl rfl hl.1 rfl (lv_room (Nat.le_of_ble_eq_true rfl)) dL_law_302 ⟨Nat.le_trans (by omega) hcl, Nat.le_trans (by omega) hsl⟩) hP hD hS hA cM_fst (fun r9 H locs hw hP hD hS => ?_)
    refine gtop (y := 0) hw ?_
    refine lv_iload hx hb dL_law_305 (lv_at hl 1 rfl) ?_
    refine lv_icmp_eq (tgt := 312) hx hb dL_law_307 (by decide) (fun _ => ?_) (fun c9 => absurd rfl c9)
    refine lv_iload hx hb dL_law_312 (lv_at hl 1 rfl) ?_
    refine lv_if_ne (tgt := 329) hx hb dL_law_314 (by decide) (fun c9 => absurd rfl c9) (fun _ => ?_)
    refine lv_aload_n hx hb dL_law_317 rfl (lv_at hl 5 rfl) ?_
    refine lv_iconst (v := 0) hx hb dL_law_318 (by decide) ?_
    refine glald (j := 0) hx hb hK hP 0 4 (wL_0 (ho1 := ho) (D1 := D) (m1 := mny)) rfl (show (0 : Int32) = nI 0 from rfl) (by omega) (by decide) dL_law_319 ?_
    obtain ⟨ea, hrel⟩ := hsim hk
    refine lv_iload hx hb dL_law_320 (lv_at hl 0 rfl) ?_
    refine lv_i2l (v := ((mBidR I1 F j)).toInt64) hx hb dL_law_322 rfl ?_
    refine W.lcmp hx hb dL_law_323 ?_
    refine gtop (y := 0) (lcmp0 (show ((sBidN (N j) D 2)).toInt64 = ((mBidR I1 F j)).toInt64 from congrArg Int32.toInt64 ea)) ?_
    refine lv_if_eq (tgt := 329) hx hb dL_law_324 (by decide) (fun _ => ?_) (fun c9 => absurd rfl c9)
    refine lv_goto (tgt := 1261) hx hb dL_law_329 (by decide) ?_
    refine W.widen (k := cells + 5) (n := slots + 30) (by omega) (by omega) ?_
    exact kk _ _ _ ⟨_, _, _, _, _, _, _, _, _, _, _, _, hrel, hP, hD, hS⟩ (lv_sub hl [2, 3, 4, 5, 6] rfl)
  · skip
    refine gci (vx_runSW (As := [.ref (Ad 1), .int p0, .int p1, .int p2, .ref (Ad 0)]) (rest := []) ⟨hx, hb, hml, hown, hts⟩ (kL_bid_no l hl0 G T (Ad 1) (Ad 2) (Ad 3) (Ad 4) D mny (AF 0) (AF 3) j (AF 1 j) (AF 2 j) (N j) (f j) (g j) p0 p1 p2 i (Ad 0) ho _ hi hj hk) (vx_cwSW 5 hts gL_law_L_bid rfl rfl rfl (by decide +kernel) ⟨Nat.le_of_ble_eq_true rfl, Nat.le_of_ble_eq_true rfl⟩) ⟨gblind, gpre hE hK hP hD hS hA [0, 1, 2, 3, 4, 5 + 3 * j, 6 + 3 * j, 7 + 3 * j] (wL_ndN hj6) (wL_cutN (ho1 := ho) (D1 := D) (m1 := mny) hj6)⟩ rfl rfl hl.1 rfl (lv_room (Nat.le_of_ble_eq_true rfl)) dL_law_272 ⟨Nat.le_trans (by omega) hcl, Nat.le_trans (by omega) hsl⟩) hP hD hS hA [0, 1, 2, 3, 4, 5 + 3 * j, 6 + 3 * j, 7 + 3 * j] (wL_cutN (ho1 := ho) (D1 := D) (m1 := mny) hj6) rfl (fun r9 H locs hw hP hD hS => ?_)
    have hP := gfin hP (wL_repN hj6)
    have hD := gfinD hD (wL_repN hj6)
    try simp only [updA_self] at hP hD
    have hP : va_P G vwCl (wX T Ad AF ho D mny N f g rk rf rg rh ++ cM T (Ad 5) (AF 8) I1 F) H := hP
    have hD : va_D (gA s) (wX T Ad AF ho D mny N f g rk rf rg rh ++ cM T (Ad 5) (AF 8) I1 F) := hD
    subst hw
    obtain ⟨hkc, hsim⟩ := sim_bid hR (p0 := p0) (p1 := p1) (p2 := p2) hi hj6
    refine lv_istore (lv' := [(5, .int (w3 ((kBid p0 p1 p2 (N j))))), (0, .ref b), (1, .ref (Ad 1)), (2, .ref (Ad 5)), (3, .ref (Ad 0)), (4, .int (nI q))]) hx hb dL_law_275 hl (by decide) rfl (fun ls hl => ?_)
    refine lv_aload_n hx hb dL_law_277 rfl (lv_at hl 3 rfl) ?_
    refine lv_aload_n hx hb dL_law_278 rfl (lv_at hl 1 rfl) ?_
    refine lv_iload hx hb dL_law_279 (lv_at hl 5 rfl) ?_
    refine lv_iconst (v := 1) hx hb dL_law_281 (by decide) ?_
    refine lv_iadd hx hb dL_law_282 ?_
    refine gtop (y := nI (q + 1)) (nI_add q 1) ?_
    refine gsld hx hb hX hbl hbA hS (j := q + 1) (by omega) (by omega) e0 dL_law_283 ?_
    refine lv_aload_n hx hb dL_law_284 rfl (lv_at hl 1 rfl) ?_
    refine lv_iload hx hb dL_law_285 (lv_at hl 5 rfl) ?_
    refine lv_iconst (v := 2) hx hb dL_law_287 (by decide) ?_
    refine lv_iadd hx hb dL_law_288 ?_
    refine gtop (y := nI (q + 2)) (nI_add q 2) ?_
    refine gsld hx hb hX hbl hbA hS (j := q + 2) (by omega) (by omega) e1 dL_law_289 ?_
    refine lv_aload_n hx hb dL_law_290 rfl (lv_at hl 1 rfl) ?_
    refine lv_iload hx hb dL_law_291 (lv_at hl 5 rfl) ?_
    refine lv_iconst (v := 3) hx hb dL_law_293 (by decide) ?_
    refine lv_iadd hx hb dL_law_294 ?_
    refine gtop (y := nI (q + 3)) (nI_add q 3) ?_
    refine gsld hx hb hX hbl hbA hS (j := q + 3) (by omega) (by omega) e2 dL_law_295 ?_
    refine gciT (X := wX T Ad AF ho D mny N f g rk rf rg rh) (va_runV (As := [.int p0, .int p1, .int p2]) (rest := []) ⟨hx, hb, hml, hown, hts⟩ (kX3_bid l G T (Ad 5) (AF 8) I1 F i j p0 p1 p2 _ hi hj) (cwV 3 hts gL_law_X3_bid rfl rfl rfl (by decide +kernel) ⟨Nat.le_of_ble_eq_true rfl, Nat.le_of_ble_eq_true rfl⟩) ⟨gblind, va_recv hK hP (ci := 3) (q0 := 68) rfl (wL_m (ho1 := ho) (D1 := D) (m1 := mny)), gpreT (X := wX T Ad AF ho D mny N f g rk rf rg rh) hE hK hP hD hS hA⟩ rfl rfl hl.1 rfl (lv_room (Nat.le_of_ble_eq_true rfl)) dL_law_296 ⟨Nat.le_trans (by omega) hcl, Nat.le_trans (by omega) hsl⟩) hP hD hS hA cM_fst (fun r9 H locs hw hP hD hS => ?_)
    have hc : ¬ (cBid F j p0 p1 p2) = 0 := fun z => hk (hkc.trans z)
    rw [if_neg hc, if_neg hc] at hP hD
    rw [if_neg hc] at hw
    subst hw
    have hP : va_P G vwCl (wX T Ad AF ho D mny N f g rk rf rg rh ++ cM T (Ad 5) (AF 8) (upd I1 17 (w3 ((cBid F j p0 p1 p2)))) F) H := hP
    have hD : va_D (gA s) (wX T Ad AF ho D mny N f g rk rf rg rh ++ cM T (Ad 5) (AF 8) (upd I1 17 (w3 ((cBid F j p0 p1 p2)))) F) := hD
    refine lv_istore (lv' := [(6, .int (0)), (5, .int (w3 ((kBid p0 p1 p2 (N j))))), (0, .ref b), (1, .ref (Ad 1)), (2, .ref (Ad 5)), (3, .ref (Ad 0)), (4, .int (nI q))]) hx hb dL_law_299 hl (by decide) rfl (fun ls hl => ?_)
    refine lv_aload_n hx hb dL_law_301 rfl (lv_at hl 4 rfl) ?_
    refine gciT (X := wX T Ad AF ho D mny N f g rk rf rg rh) (va_runV (As := []) (rest := []) ⟨hx, hb, hml, hown, hts⟩ (kX3_thrown l G T (Ad 5) (AF 8) (upd I1 17 (w3 ((cBid F j p0 p1 p2)))) F _) (cwV 0 hts gL_law_X3_thrown rfl rfl rfl (by decide +kernel) ⟨Nat.le_of_ble_eq_true rfl, Nat.le_of_ble_eq_true rfl⟩) ⟨gblind, va_recv hK hP (ci := 3) (q0 := 68) rfl (wL_m (ho1 := ho) (D1 := D) (m1 := mny)), gpreT (X := wX T Ad AF ho D mny N f g rk rf rg rh) hE hK hP hD hS hA⟩ rfl rfl hl.1 rfl (lv_room (Nat.le_of_ble_eq_true rfl)) dL_law_302 ⟨Nat.le_trans (by omega) hcl, Nat.le_trans (by omega) hsl⟩) hP hD hS hA cM_fst (fun r9 H locs hw hP hD hS => ?_)
    refine gtop (y := w3 ((kBid p0 p1 p2 (N j)))) (hw.trans (show w3 ((cBid F j p0 p1 p2)) = w3 ((kBid p0 p1 p2 (N j))) by rw [hkc])) ?_
    refine lv_iload hx hb dL_law_305 (lv_at hl 1 rfl) ?_
    refine lv_icmp_eq (tgt := 312) hx hb dL_law_307 (by decide) (fun _ => ?_) (fun c9 => absurd rfl c9)
    refine lv_iload hx hb dL_law_312 (lv_at hl 1 rfl) ?_
    refine lv_if_ne (tgt := 329) hx hb dL_law_314 (by decide) (fun _ => ?_) (fun c9 => absurd c9 (w3_ne _ hk))
    refine lv_goto (tgt := 1261) hx hb dL_law_329 (by decide) ?_
    refine W.widen (k := cells + 5) (n := slots + 30) (by omega) (by omega) ?_
    exact kk _ _ _ ⟨_, _, _, _, _, _, _, _, _, _, _, _, hR.idle _, hP, hD, hS⟩ (lv_sub hl [2, 3, 4, 5, 6] rfl)
set_option maxHeartbeats 8000000 in
set_option maxRecDepth 100000 in
theorem op_bids (C : gLC p s m c b L xs G T aK aV) (hl0 : l.stackTraces = false) (hcl : cells + 5 ≤ 631168) (hsl : slots + 30 ≤ 7202601) (hn : n < 512) (hq : q + 4 ≤ L) (h : gLS n G T Ad AF s H locs) (hl : lv_has ls 7 [(0, .ref b), (1, .ref (Ad 1)), (2, .ref (Ad 5)), (3, .ref (Ad 0)), (4, .int (nI q))])
    (kk : ∀ (H : Heap) (locs : List Loc) (ls : Array Slot), gLS (n + 1) G T Ad AF s H locs → lv_has ls 7 [(0, .ref b), (1, .ref (Ad 1)), (2, .ref (Ad 5)), (3, .ref (Ad 0)), (4, .int (nI q))] → W p l e room_1 s m #[Value.ref b] below meth c H locs (cells + 5) (slots + 30) Q (F0 m 1261 ls [])) : W p l e room_1 s m #[Value.ref b] below meth c H locs cells slots Q (F0 m 332 ls []) := by
  obtain ⟨hx, hb, hml, hown, hts, hX, hbl, hK, hE, hWs, hL⟩ := id C
  have hA : ∀ q : Nat, s.heap.size ≤ q → gA s q := fun _ h => h
  have hbA : ¬ gA s b := Nat.not_le.mpr hbl
  obtain ⟨D, mny, N, f, g, rk, rf, rg, rh, I1, F, ho, hR, hP, hD, hS⟩ := h
  obtain ⟨p0, e0⟩ : ∃ y : Int32, y = xs (q + 1) := ⟨_, rfl⟩
  obtain ⟨j, hj6, hj⟩ := ixN p0
  obtain ⟨c9, hN⟩ := hR.name hj6
  refine lv_aload_n hx hb dL_law_332 rfl (lv_at hl 1 rfl) ?_
  refine lv_aload_n hx hb dL_law_333 rfl (lv_at hl 0 rfl) ?_
  refine lv_iload hx hb dL_law_334 (lv_at hl 4 rfl) ?_
  refine lv_iconst (v := 1) hx hb dL_law_336 (by decide) ?_
  refine lv_iadd hx hb dL_law_337 ?_
  refine gtop (y := nI (q + 1)) (nI_add q 1) ?_
  refine gsld hx hb hX hbl hbA hS (j := q + 1) (by omega) (by omega) e0 dL_law_338 ?_
  refine lv_aload_n hx hb dL_law_339 rfl (lv_at hl 3 rfl) ?_
  by_cases hk : (kNam p0) = 0
  · skip
    refine gci (vx_runSW (As := [.ref (Ad 1), .int p0, .ref (Ad 0)]) (rest := []) ⟨hx, hb, hml, hown, hts⟩ (kL_bids_ok l hl0 G T (Ad 1) (Ad 2) (Ad 3) (Ad 4) D mny (AF 0) (AF 3) j (AF 1 j) (AF 2 j) (N j) (f j) (g j) p0 (Ad 0) ho _ hj hk) (vx_cwSW 3 hts gL_law_L_bids rfl rfl rfl (by decide +kernel) ⟨Nat.le_of_ble_eq_true rfl, Nat.le_of_ble_eq_true rfl⟩) ⟨gblind, gpre hE hK hP hD hS hA [0, 1, 2, 3, 4, 5 + 3 * j, 6 + 3 * j, 7 + 3 * j] (wL_ndN hj6) (wL_cutN (ho1 := ho) (D1 := D) (m1 := mny) hj6)⟩ rfl rfl hl.1 rfl (lv_room (Nat.le_of_ble_eq_true rfl)) dL_law_340 ⟨Nat.le_trans (by omega) hcl, Nat.le_trans (by omega) hsl⟩) hP hD hS hA [0, 1, 2, 3, 4, 5 + 3 * j, 6 + 3 * j, 7 + 3 * j] (wL_cutN (ho1 := ho) (D1 := D) (m1 := mny) hj6) rfl (fun r9 H locs hw hP hD hS => ?_)
    have hP := gfin hP (wL_repN hj6)
    have hD := gfinD hD (wL_repN hj6)
    try simp only [updA_self] at hP hD
    have hP : va_P G vwCl (wX T Ad AF (vp_updL ho 0 (((sCnt (f j) 6)).toInt64)) D mny N f g rk rf rg rh ++ cM T (Ad 5) (AF 8) I1 F) H := hP
    have hD : va_D (gA s) (wX T Ad AF (vp_updL ho 0 (((sCnt (f j) 6)).toInt64)) D mny N f g rk rf rg rh ++ cM T (Ad 5) (AF 8) I1 F) := hD
    subst hw
    have hkc : (kNam p0) = (kNam p0) := rfl
    have hsim : (kNam p0) = 0 → (sCnt (f j) 6) = (mCnt (F 11) j 6) ∧ REL (n + 1) D mny N f g rk rf rg rh (upd I1 17 0) F := fun _ => ⟨(sim_cnt hN.am 6 (Nat.le_refl 6)).symm, hR.idle 0⟩
    refine lv_istore (lv' := [(5, .int 0), (0, .ref b), (1, .ref (Ad 1)), (2, .ref (Ad 5)), (3, .ref (Ad 0)), (4, .int (nI q))]) hx hb dL_law_343 hl (by decide) rfl (fun ls hl => ?_)
    refine lv_aload_n hx hb dL_law_345 rfl (lv_at hl 3 rfl) ?_
    refine lv_aload_n hx hb dL_law_346 rfl (lv_at hl 1 rfl) ?_
    refine lv_iload hx hb dL_law_347 (lv_at hl 5 rfl) ?_
    refine lv_iconst (v := 1) hx hb dL_law_349 (by decide) ?_
    refine lv_iadd hx hb dL_law_350 ?_
    refine gtop (y := nI (q + 1)) (nI_add q 1) ?_
    refine gsld hx hb hX hbl hbA hS (j := q + 1) (by omega) (by omega) e0 dL_law_351 ?_
    refine gciT (X := wX T Ad AF (vp_updL ho 0 (((sCnt (f j) 6)).toInt64)) D mny N f g rk rf rg rh) (va_runV (As := [.int p0]) (rest := []) ⟨hx, hb, hml, hown, hts⟩ (kX3_bids l G T (Ad 5) (AF 8) I1 F j p0 _ hj) (cwV 1 hts gL_law_X3_bids rfl rfl rfl (by decide +kernel) ⟨Nat.le_of_ble_eq_true rfl, Nat.le_of_ble_eq_true rfl⟩) ⟨gblind, va_recv hK hP (ci := 3) (q0 := 68) rfl (wL_m (ho1 := ho) (D1 := D) (m1 := mny)), gpreT (X := wX T Ad AF (vp_updL ho 0 (((sCnt (f j) 6)).toInt64)) D mny N f g rk rf rg rh) hE hK hP hD hS hA⟩ rfl rfl hl.1 rfl (lv_room (Nat.le_of_ble_eq_true rfl)) dL_law_352 ⟨Nat.le_trans (by omega) hcl, Nat.le_trans (by omega) hsl⟩) hP hD hS hA cM_fst (fun r9 H locs hw hP hD hS => ?_)
    have hc : (kNam p0) = 0 := hkc.symm.trans hk
    rw [if_pos hc, if_pos hc] at hP hD
    rw [if_pos hc] at hw
    subst hw
    have hP : va_P G vwCl (wX T Ad AF (vp_updL ho 0 (((sCnt (f j) 6)).toInt64)) D mny N f g rk rf rg rh ++ cM T (Ad 5) (AF 8) (upd I1 17 0) F) H := hP
    have hD : va_D (gA s) (wX T Ad AF (vp_updL ho 0 (((sCnt (f j) 6)).toInt64)) D mny N f g rk rf rg rh ++ cM T (Ad 5) (AF 8) (upd I1 17 0) F) := hD
    refine lv_istore (lv' := [(6, .int ((mCnt (F 11) j 6))), (5, .int 0), (0, .ref b), (1, .ref (Ad 1)), (2, .ref (Ad 5)), (3, .ref (Ad 0)), (4, .int (nI q))]) hx hb dL_law_355 hl (by decide) rfl (fun ls hl => ?_)
    refine lv_aload_n hx hb dL_law_357 rfl (lv_at hl 4 rfl) ?_
    refine gciT (X := wX T Ad AF (vp_updL ho 0 (((sCnt (f j) 6)).toInt64)) D mny N f g rk rf rg rh) (va_runV (As := []) (rest := []) ⟨hx, hb, hml, hown, hts⟩ (kX3_thrown l G T (Ad 5) (AF 8) (upd I1 17 0) F _) (cwV 0 hts gL_law_X3_thrown rfl rfl rfl (by decide +kernel) ⟨Nat.le_of_ble_eq_true rfl, Nat.le_of_ble_eq_true rfl⟩) ⟨gblind, va_recv hK hP (ci := 3) (q0 := 68) rfl (wL_m (ho1 := ho) (D1 := D) (m1 := mny)), gpreT (X := wX T Ad AF (vp_updL ho 0 (((sCnt (f j) 6)).toInt64)) D mny N f g rk rf rg rh) hE hK hP hD hS hA⟩ rfl rfl hl.1 rfl (lv_room (Nat.le_of_ble_eq_true rfl)) dL_law_358 ⟨Nat.le_trans (by omega) hcl, Nat.le_trans (by omega) hsl⟩) hP hD hS hA cM_fst (fun r9 H locs hw hP hD hS => ?_)
    refine gtop (y := 0) hw ?_
    refine lv_iload hx hb dL_law_361 (lv_at hl 1 rfl) ?_
    refine lv_icmp_eq (tgt := 368) hx hb dL_law_363 (by decide) (fun _ => ?_) (fun c9 => absurd rfl c9)
    refine lv_iload hx hb dL_law_368 (lv_at hl 1 rfl) ?_
    refine lv_if_ne (tgt := 385) hx hb dL_law_370 (by decide) (fun c9 => absurd rfl c9) (fun _ => ?_)
    refine lv_aload_n hx hb dL_law_373 rfl (lv_at hl 5 rfl) ?_
    refine lv_iconst (v := 0) hx hb dL_law_374 (by decide) ?_
    refine glald (j := 0) hx hb hK hP 0 4 (wL_0 (ho1 := ho) (D1 := D) (m1 := mny)) rfl (show (0 : Int32) = nI 0 from rfl) (by omega) (by decide) dL_law_375 ?_
    obtain ⟨ea, hrel⟩ := hsim hk
    refine lv_iload hx hb dL_law_376 (lv_at hl 0 rfl) ?_
    refine lv_i2l (v := ((mCnt (F 11) j 6)).toInt64) hx hb dL_law_378 rfl ?_
    refine W.lcmp hx hb dL_law_379 ?_
    refine gtop (y := 0) (lcmp0 (show ((sCnt (f j) 6)).toInt64 = ((mCnt (F 11) j 6)).toInt64 from congrArg Int32.toInt64 ea)) ?_
    refine lv_if_eq (tgt := 385) hx hb dL_law_380 (by decide) (fun _ => ?_) (fun c9 => absurd rfl c9)
    refine lv_goto (tgt := 1261) hx hb dL_law_385 (by decide) ?_
    refine W.widen (k := cells + 5) (n := slots + 30) (by omega) (by omega) ?_
    exact kk _ _ _ ⟨_, _, _, _, _, _, _, _, _, _, _, _, hrel, hP, hD, hS⟩ (lv_sub hl [2, 3, 4, 5, 6] rfl)
  · skip
    refine gci (vx_runSW (As := [.ref (Ad 1), .int p0, .ref (Ad 0)]) (rest := []) ⟨hx, hb, hml, hown, hts⟩ (kL_bids_no l hl0 G T (Ad 1) (Ad 2) (Ad 3) (Ad 4) D mny (AF 0) (AF 3) j (AF 1 j) (AF 2 j) (N j) (f j) (g j) p0 (Ad 0) ho _ hj hk) (vx_cwSW 3 hts gL_law_L_bids rfl rfl rfl (by decide +kernel) ⟨Nat.le_of_ble_eq_true rfl, Nat.le_of_ble_eq_true rfl⟩) ⟨gblind, gpre hE hK hP hD hS hA [0, 1, 2, 3, 4, 5 + 3 * j, 6 + 3 * j, 7 + 3 * j] (wL_ndN hj6) (wL_cutN (ho1 := ho) (D1 := D) (m1 := mny) hj6)⟩ rfl rfl hl.1 rfl (lv_room (Nat.le_of_ble_eq_true rfl)) dL_law_340 ⟨Nat.le_trans (by omega) hcl, Nat.le_trans (by omega) hsl⟩) hP hD hS hA [0, 1, 2, 3, 4, 5 + 3 * j, 6 + 3 * j, 7 + 3 * j] (wL_cutN (ho1 := ho) (D1 := D) (m1 := mny) hj6) rfl (fun r9 H locs hw hP hD hS => ?_)
    have hP := gfin hP (wL_repN hj6)
    have hD := gfinD hD (wL_repN hj6)
    try simp only [updA_self] at hP hD
    have hP : va_P G vwCl (wX T Ad AF ho D mny N f g rk rf rg rh ++ cM T (Ad 5) (AF 8) I1 F) H := hP
    have hD : va_D (gA s) (wX T Ad AF ho D mny N f g rk rf rg rh ++ cM T (Ad 5) (AF 8) I1 F) := hD
    subst hw
    have hkc : (kNam p0) = (kNam p0) := rfl
    have hsim : (kNam p0) = 0 → (sCnt (f j) 6) = (mCnt (F 11) j 6) ∧ REL (n + 1) D mny N f g rk rf rg rh (upd I1 17 0) F := fun _ => ⟨(sim_cnt hN.am 6 (Nat.le_refl 6)).symm, hR.idle 0⟩
    refine lv_istore (lv' := [(5, .int (w3 ((kNam p0)))), (0, .ref b), (1, .ref (Ad 1)), (2, .ref (Ad 5)), (3, .ref (Ad 0)), (4, .int (nI q))]) hx hb dL_law_343 hl (by decide) rfl (fun ls hl => ?_)
    refine lv_aload_n hx hb dL_law_345 rfl (lv_at hl 3 rfl) ?_
    refine lv_aload_n hx hb dL_law_346 rfl (lv_at hl 1 rfl) ?_
    refine lv_iload hx hb dL_law_347 (lv_at hl 5 rfl) ?_
    refine lv_iconst (v := 1) hx hb dL_law_349 (by decide) ?_
    refine lv_iadd hx hb dL_law_350 ?_
    refine gtop (y := nI (q + 1)) (nI_add q 1) ?_
    refine gsld hx hb hX hbl hbA hS (j := q + 1) (by omega) (by omega) e0 dL_law_351 ?_
    refine gciT (X := wX T Ad AF ho D mny N f g rk rf rg rh) (va_runV (As := [.int p0]) (rest := []) ⟨hx, hb, hml, hown, hts⟩ (kX3_bids l G T (Ad 5) (AF 8) I1 F j p0 _ hj) (cwV 1 hts gL_law_X3_bids rfl rfl rfl (by decide +kernel) ⟨Nat.le_of_ble_eq_true rfl, Nat.le_of_ble_eq_true rfl⟩) ⟨gblind, va_recv hK hP (ci := 3) (q0 := 68) rfl (wL_m (ho1 := ho) (D1 := D) (m1 := mny)), gpreT (X := wX T Ad AF ho D mny N f g rk rf rg rh) hE hK hP hD hS hA⟩ rfl rfl hl.1 rfl (lv_room (Nat.le_of_ble_eq_true rfl)) dL_law_352 ⟨Nat.le_trans (by omega) hcl, Nat.le_trans (by omega) hsl⟩) hP hD hS hA cM_fst (fun r9 H locs hw hP hD hS => ?_)
    have hc : ¬ (kNam p0) = 0 := fun z => hk (hkc.trans z)
    rw [if_neg hc, if_neg hc] at hP hD
    rw [if_neg hc] at hw
    subst hw
    have hP : va_P G vwCl (wX T Ad AF ho D mny N f g rk rf rg rh ++ cM T (Ad 5) (AF 8) (upd I1 17 (w3 ((kNam p0)))) F) H := hP
    have hD : va_D (gA s) (wX T Ad AF ho D mny N f g rk rf rg rh ++ cM T (Ad 5) (AF 8) (upd I1 17 (w3 ((kNam p0)))) F) := hD
    refine lv_istore (lv' := [(6, .int (0)), (5, .int (w3 ((kNam p0)))), (0, .ref b), (1, .ref (Ad 1)), (2, .ref (Ad 5)), (3, .ref (Ad 0)), (4, .int (nI q))]) hx hb dL_law_355 hl (by decide) rfl (fun ls hl => ?_)
    refine lv_aload_n hx hb dL_law_357 rfl (lv_at hl 4 rfl) ?_
    refine gciT (X := wX T Ad AF ho D mny N f g rk rf rg rh) (va_runV (As := []) (rest := []) ⟨hx, hb, hml, hown, hts⟩ (kX3_thrown l G T (Ad 5) (AF 8) (upd I1 17 (w3 ((kNam p0)))) F _) (cwV 0 hts gL_law_X3_thrown rfl rfl rfl (by decide +kernel) ⟨Nat.le_of_ble_eq_true rfl, Nat.le_of_ble_eq_true rfl⟩) ⟨gblind, va_recv hK hP (ci := 3) (q0 := 68) rfl (wL_m (ho1 := ho) (D1 := D) (m1 := mny)), gpreT (X := wX T Ad AF ho D mny N f g rk rf rg rh) hE hK hP hD hS hA⟩ rfl rfl hl.1 rfl (lv_room (Nat.le_of_ble_eq_true rfl)) dL_law_358 ⟨Nat.le_trans (by omega) hcl, Nat.le_trans (by omega) hsl⟩) hP hD hS hA cM_fst (fun r9 H locs hw hP hD hS => ?_)
    refine gtop (y := w3 ((kNam p0))) (hw.trans (show w3 ((kNam p0)) = w3 ((kNam p0)) by rw [hkc])) ?_
    refine lv_iload hx hb dL_law_361 (lv_at hl 1 rfl) ?_
    refine lv_icmp_eq (tgt := 368) hx hb dL_law_363 (by decide) (fun _ => ?_) (fun c9 => absurd rfl c9)
    refine lv_iload hx hb dL_law_368 (lv_at hl 1 rfl) ?_
    refine lv_if_ne (tgt := 385) hx hb dL_law_370 (by decide) (fun _ => ?_) (fun c9 => absurd c9 (w3_ne _ hk))
    refine lv_goto (tgt := 1261) hx hb dL_law_385 (by decide) ?_
    refine W.widen (k := cells + 5) (n := slots + 30) (by omega) (by omega) ?_
    exact kk _ _ _ ⟨_, _, _, _, _, _, _, _, _, _, _, _, hR.idle _, hP, hD, hS⟩ (lv_sub hl [2, 3, 4, 5, 6] rfl)
set_option maxHeartbeats 8000000 in
set_option maxRecDepth 100000 in
theorem op_renew (C : gLC p s m c b L xs G T aK aV) (hl0 : l.stackTraces = false) (hcl : cells + 5 ≤ 631168) (hsl : slots + 30 ≤ 7202601) (hn : n < 512) (hq : q + 4 ≤ L) (h : gLS n G T Ad AF s H locs) (hl : lv_has ls 7 [(0, .ref b), (1, .ref (Ad 1)), (2, .ref (Ad 5)), (3, .ref (Ad 0)), (4, .int (nI q))])
    (kk : ∀ (H : Heap) (locs : List Loc) (ls : Array Slot), gLS (n + 1) G T Ad AF s H locs → lv_has ls 7 [(0, .ref b), (1, .ref (Ad 1)), (2, .ref (Ad 5)), (3, .ref (Ad 0)), (4, .int (nI q))] → W p l e room_1 s m #[Value.ref b] below meth c H locs (cells + 5) (slots + 30) Q (F0 m 1261 ls [])) : W p l e room_1 s m #[Value.ref b] below meth c H locs cells slots Q (F0 m 388 ls []) := by
  obtain ⟨hx, hb, hml, hown, hts, hX, hbl, hK, hE, hWs, hL⟩ := id C
  have hA : ∀ q : Nat, s.heap.size ≤ q → gA s q := fun _ h => h
  have hbA : ¬ gA s b := Nat.not_le.mpr hbl
  obtain ⟨D, mny, N, f, g, rk, rf, rg, rh, I1, F, ho, hR, hP, hD, hS⟩ := h
  obtain ⟨p0, e0⟩ : ∃ y : Int32, y = xs (q + 1) := ⟨_, rfl⟩
  obtain ⟨p1, e1⟩ : ∃ y : Int32, y = xs (q + 2) := ⟨_, rfl⟩
  obtain ⟨j, hj6, hj⟩ := ixN p0
  obtain ⟨c9, hN⟩ := hR.name hj6
  have hoW : okR (F 3 j) 2 3 = true → ∃ o : Nat, F 4 j = nI o ∧ o < 6 := by
    intro hz
    obtain ⟨o, o1, o2⟩ := hN.own (by rcases okR_23 hz (by rw [← hN.1.1]; exact hN.st) with z | z; exact Or.inl (hN.1.1.trans z); exact Or.inr (Or.inl (hN.1.1.trans z)))
    exact ⟨o, hN.1.2.1.symm.trans o2, o1⟩
  obtain ⟨o, hoW⟩ : ∃ o : Nat, okR (F 3 j) 2 3 = true → F 4 j = nI o ∧ o < 6 := by
    by_cases hz : okR (F 3 j) 2 3 = true
    · obtain ⟨o, h9⟩ := hoW hz; exact ⟨o, fun _ => h9⟩
    · exact ⟨0, fun y => absurd y hz⟩
  refine lv_aload_n hx hb dL_law_388 rfl (lv_at hl 1 rfl) ?_
  refine lv_aload_n hx hb dL_law_389 rfl (lv_at hl 0 rfl) ?_
  refine lv_iload hx hb dL_law_390 (lv_at hl 4 rfl) ?_
  refine lv_iconst (v := 1) hx hb dL_law_392 (by decide) ?_
  refine lv_iadd hx hb dL_law_393 ?_
  refine gtop (y := nI (q + 1)) (nI_add q 1) ?_
  refine gsld hx hb hX hbl hbA hS (j := q + 1) (by omega) (by omega) e0 dL_law_394 ?_
  refine lv_aload_n hx hb dL_law_395 rfl (lv_at hl 0 rfl) ?_
  refine lv_iload hx hb dL_law_396 (lv_at hl 4 rfl) ?_
  refine lv_iconst (v := 2) hx hb dL_law_398 (by decide) ?_
  refine lv_iadd hx hb dL_law_399 ?_
  refine gtop (y := nI (q + 2)) (nI_add q 2) ?_
  refine gsld hx hb hX hbl hbA hS (j := q + 2) (by omega) (by omega) e1 dL_law_400 ?_
  refine lv_aload_n hx hb dL_law_401 rfl (lv_at hl 3 rfl) ?_
  by_cases hk : (kRenew D mny (N j) p0 p1) = 0
  · skip
    refine gci (vx_runSW (As := [.ref (Ad 1), .int p0, .int p1, .ref (Ad 0)]) (rest := []) ⟨hx, hb, hml, hown, hts⟩ (kL_renew_ok l hl0 G T (Ad 1) (Ad 2) (Ad 3) (Ad 4) D mny (AF 0) (AF 3) j (AF 1 j) (AF 2 j) (N j) (f j) (g j) p0 p1 (Ad 0) ho _ hj hk) (vx_cwSW 4 hts gL_law_L_renew rfl rfl rfl (by decide +kernel) ⟨Nat.le_of_ble_eq_true rfl, Nat.le_of_ble_eq_true rfl⟩) ⟨gblind, gpre hE hK hP hD hS hA [0, 1, 2, 3, 4, 5 + 3 * j, 6 + 3 * j, 7 + 3 * j] (wL_ndN hj6) (wL_cutN (ho1 := ho) (D1 := D) (m1 := mny) hj6)⟩ rfl rfl hl.1 rfl (lv_room (Nat.le_of_ble_eq_true rfl)) dL_law_402 ⟨Nat.le_trans (by omega) hcl, Nat.le_trans (by omega) hsl⟩) hP hD hS hA [0, 1, 2, 3, 4, 5 + 3 * j, 6 + 3 * j, 7 + 3 * j] (wL_cutN (ho1 := ho) (D1 := D) (m1 := mny) hj6) rfl (fun r9 H locs hw hP hD hS => ?_)
    have hP := gfin hP (wL_repN hj6)
    have hD := gfinD hD (wL_repN hj6)
    try simp only [updA_self] at hP hD
    have hP : va_P G vwCl (wX T Ad AF (vp_updL ho 0 (((N j 3 + p1 * 100)).toInt64)) (sPayD D mny (N j 1) (p1 * 20)) (sPayF mny (N j 1) (p1 * 20)) (updA N j (upd (upd (N j) 3 (N j 3 + p1 * 100)) 0 2)) f g rk rf rg rh ++ cM T (Ad 5) (AF 8) I1 F) H := hP
    have hD : va_D (gA s) (wX T Ad AF (vp_updL ho 0 (((N j 3 + p1 * 100)).toInt64)) (sPayD D mny (N j 1) (p1 * 20)) (sPayF mny (N j 1) (p1 * 20)) (updA N j (upd (upd (N j) 3 (N j 3 + p1 * 100)) 0 2)) f g rk rf rg rh ++ cM T (Ad 5) (AF 8) I1 F) := hD
    subst hw
    obtain ⟨hkc, hsim⟩ := sim_renew hR (p0 := p0) (p1 := p1) hj6 hoW
    refine lv_istore (lv' := [(5, .int 0), (0, .ref b), (1, .ref (Ad 1)), (2, .ref (Ad 5)), (3, .ref (Ad 0)), (4, .int (nI q))]) hx hb dL_law_405 hl (by decide) rfl (fun ls hl => ?_)
    refine lv_aload_n hx hb dL_law_407 rfl (lv_at hl 3 rfl) ?_
    refine lv_aload_n hx hb dL_law_408 rfl (lv_at hl 1 rfl) ?_
    refine lv_iload hx hb dL_law_409 (lv_at hl 5 rfl) ?_
    refine lv_iconst (v := 1) hx hb dL_law_411 (by decide) ?_
    refine lv_iadd hx hb dL_law_412 ?_
    refine gtop (y := nI (q + 1)) (nI_add q 1) ?_
    refine gsld hx hb hX hbl hbA hS (j := q + 1) (by omega) (by omega) e0 dL_law_413 ?_
    refine lv_aload_n hx hb dL_law_414 rfl (lv_at hl 1 rfl) ?_
    refine lv_iload hx hb dL_law_415 (lv_at hl 5 rfl) ?_
    refine lv_iconst (v := 2) hx hb dL_law_417 (by decide) ?_
    refine lv_iadd hx hb dL_law_418 ?_
    refine gtop (y := nI (q + 2)) (nI_add q 2) ?_
    refine gsld hx hb hX hbl hbA hS (j := q + 2) (by omega) (by omega) e1 dL_law_419 ?_
    refine gciT (X := wX T Ad AF (vp_updL ho 0 (((N j 3 + p1 * 100)).toInt64)) (sPayD D mny (N j 1) (p1 * 20)) (sPayF mny (N j 1) (p1 * 20)) (updA N j (upd (upd (N j) 3 (N j 3 + p1 * 100)) 0 2)) f g rk rf rg rh) (va_runV (As := [.int p0, .int p1]) (rest := []) ⟨hx, hb, hml, hown, hts⟩ (kX3_renew l G T (Ad 5) (AF 8) I1 F j o p0 p1 _ hj hoW) (cwV 2 hts gL_law_X3_renew rfl rfl rfl (by decide +kernel) ⟨Nat.le_of_ble_eq_true rfl, Nat.le_of_ble_eq_true rfl⟩) ⟨gblind, va_recv hK hP (ci := 3) (q0 := 68) rfl (wL_m (ho1 := ho) (D1 := D) (m1 := mny)), gpreT (X := wX T Ad AF (vp_updL ho 0 (((N j 3 + p1 * 100)).toInt64)) (sPayD D mny (N j 1) (p1 * 20)) (sPayF mny (N j 1) (p1 * 20)) (updA N j (upd (upd (N j) 3 (N j 3 + p1 * 100)) 0 2)) f g rk rf rg rh) hE hK hP hD hS hA⟩ rfl rfl hl.1 rfl (lv_room (Nat.le_of_ble_eq_true rfl)) dL_law_420 ⟨Nat.le_trans (by omega) hcl, Nat.le_trans (by omega) hsl⟩) hP hD hS hA cM_fst (fun r9 H locs hw hP hD hS => ?_)
    have hc : (cRenew I1 F j o p0 p1) = 0 := hkc.symm.trans hk
    rw [if_pos hc, if_pos hc] at hP hD
    rw [if_pos hc] at hw
    subst hw
    have hP : va_P G vwCl (wX T Ad AF (vp_updL ho 0 (((N j 3 + p1 * 100)).toInt64)) (sPayD D mny (N j 1) (p1 * 20)) (sPayF mny (N j 1) (p1 * 20)) (updA N j (upd (upd (N j) 3 (N j 3 + p1 * 100)) 0 2)) f g rk rf rg rh ++ cM T (Ad 5) (AF 8) (upd (upd I1 17 0) 1 (I1 1 + 20 * p1)) (updA (updA (mPayF F o (20 * p1)) 5 (upd (F 5) j (F 5 j + 100 * p1))) 3 (upd (F 3) j 2))) H := hP
    have hD : va_D (gA s) (wX T Ad AF (vp_updL ho 0 (((N j 3 + p1 * 100)).toInt64)) (sPayD D mny (N j 1) (p1 * 20)) (sPayF mny (N j 1) (p1 * 20)) (updA N j (upd (upd (N j) 3 (N j 3 + p1 * 100)) 0 2)) f g rk rf rg rh ++ cM T (Ad 5) (AF 8) (upd (upd I1 17 0) 1 (I1 1 + 20 * p1)) (updA (updA (mPayF F o (20 * p1)) 5 (upd (F 5) j (F 5 j + 100 * p1))) 3 (upd (F 3) j 2))) := hD
    refine lv_istore (lv' := [(6, .int ((F 5 j + 100 * p1))), (5, .int 0), (0, .ref b), (1, .ref (Ad 1)), (2, .ref (Ad 5)), (3, .ref (Ad 0)), (4, .int (nI q))]) hx hb dL_law_423 hl (by decide) rfl (fun ls hl => ?_)
    refine lv_aload_n hx hb dL_law_425 rfl (lv_at hl 4 rfl) ?_
    refine gciT (X := wX T Ad AF (vp_updL ho 0 (((N j 3 + p1 * 100)).toInt64)) (sPayD D mny (N j 1) (p1 * 20)) (sPayF mny (N j 1) (p1 * 20)) (updA N j (upd (upd (N j) 3 (N j 3 + p1 * 100)) 0 2)) f g rk rf rg rh) (va_runV (As := []) (rest := []) ⟨hx, hb, hml, hown, hts⟩ (kX3_thrown l G T (Ad 5) (AF 8) (upd (upd I1 17 0) 1 (I1 1 + 20 * p1)) (updA (updA (mPayF F o (20 * p1)) 5 (upd (F 5) j (F 5 j + 100 * p1))) 3 (upd (F 3) j 2)) _) (cwV 0 hts gL_law_X3_thrown rfl rfl rfl (by decide +kernel) ⟨Nat.le_of_ble_eq_true rfl, Nat.le_of_ble_eq_true rfl⟩) ⟨gblind, va_recv hK hP (ci := 3) (q0 := 68) rfl (wL_m (ho1 := ho) (D1 := D) (m1 := mny)), gpreT (X := wX T Ad AF (vp_updL ho 0 (((N j 3 + p1 * 100)).toInt64)) (sPayD D mny (N j 1) (p1 * 20)) (sPayF mny (N j 1) (p1 * 20)) (updA N j (upd (upd (N j) 3 (N j 3 + p1 * 100)) 0 2)) f g rk rf rg rh) hE hK hP hD hS hA⟩ rfl rfl hl.1 rfl (lv_room (Nat.le_of_ble_eq_true rfl)) dL_law_426 ⟨Nat.le_trans (by omega) hcl, Nat.le_trans (by omega) hsl⟩) hP hD hS hA cM_fst (fun r9 H locs hw hP hD hS => ?_)
    refine gtop (y := 0) hw ?_
    refine lv_iload hx hb dL_law_429 (lv_at hl 1 rfl) ?_
    refine lv_icmp_eq (tgt := 436) hx hb dL_law_431 (by decide) (fun _ => ?_) (fun c9 => absurd rfl c9)
    refine lv_iload hx hb dL_law_436 (lv_at hl 1 rfl) ?_
    refine lv_if_ne (tgt := 453) hx hb dL_law_438 (by decide) (fun c9 => absurd rfl c9) (fun _ => ?_)
    refine lv_aload_n hx hb dL_law_441 rfl (lv_at hl 5 rfl) ?_
    refine lv_iconst (v := 0) hx hb dL_law_442 (by decide) ?_
    refine glald (j := 0) hx hb hK hP 0 4 (wL_0 (ho1 := ho) (D1 := D) (m1 := mny)) rfl (show (0 : Int32) = nI 0 from rfl) (by omega) (by decide) dL_law_443 ?_
    obtain ⟨ea, hrel⟩ := hsim hk
    refine lv_iload hx hb dL_law_444 (lv_at hl 0 rfl) ?_
    refine lv_i2l (v := ((F 5 j + 100 * p1)).toInt64) hx hb dL_law_446 rfl ?_
    refine W.lcmp hx hb dL_law_447 ?_
    refine gtop (y := 0) (lcmp0 (show ((N j 3 + p1 * 100)).toInt64 = ((F 5 j + 100 * p1)).toInt64 from congrArg Int32.toInt64 ea)) ?_
    refine lv_if_eq (tgt := 453) hx hb dL_law_448 (by decide) (fun _ => ?_) (fun c9 => absurd rfl c9)
    refine lv_goto (tgt := 1261) hx hb dL_law_453 (by decide) ?_
    refine W.widen (k := cells + 5) (n := slots + 30) (by omega) (by omega) ?_
    exact kk _ _ _ ⟨_, _, _, _, _, _, _, _, _, _, _, _, hrel, hP, hD, hS⟩ (lv_sub hl [2, 3, 4, 5, 6] rfl)
  · skip
    refine gci (vx_runSW (As := [.ref (Ad 1), .int p0, .int p1, .ref (Ad 0)]) (rest := []) ⟨hx, hb, hml, hown, hts⟩ (kL_renew_no l hl0 G T (Ad 1) (Ad 2) (Ad 3) (Ad 4) D mny (AF 0) (AF 3) j (AF 1 j) (AF 2 j) (N j) (f j) (g j) p0 p1 (Ad 0) ho _ hj hk) (vx_cwSW 4 hts gL_law_L_renew rfl rfl rfl (by decide +kernel) ⟨Nat.le_of_ble_eq_true rfl, Nat.le_of_ble_eq_true rfl⟩) ⟨gblind, gpre hE hK hP hD hS hA [0, 1, 2, 3, 4, 5 + 3 * j, 6 + 3 * j, 7 + 3 * j] (wL_ndN hj6) (wL_cutN (ho1 := ho) (D1 := D) (m1 := mny) hj6)⟩ rfl rfl hl.1 rfl (lv_room (Nat.le_of_ble_eq_true rfl)) dL_law_402 ⟨Nat.le_trans (by omega) hcl, Nat.le_trans (by omega) hsl⟩) hP hD hS hA [0, 1, 2, 3, 4, 5 + 3 * j, 6 + 3 * j, 7 + 3 * j] (wL_cutN (ho1 := ho) (D1 := D) (m1 := mny) hj6) rfl (fun r9 H locs hw hP hD hS => ?_)
    have hP := gfin hP (wL_repN hj6)
    have hD := gfinD hD (wL_repN hj6)
    try simp only [updA_self] at hP hD
    have hP : va_P G vwCl (wX T Ad AF ho D mny N f g rk rf rg rh ++ cM T (Ad 5) (AF 8) I1 F) H := hP
    have hD : va_D (gA s) (wX T Ad AF ho D mny N f g rk rf rg rh ++ cM T (Ad 5) (AF 8) I1 F) := hD
    subst hw
    obtain ⟨hkc, hsim⟩ := sim_renew hR (p0 := p0) (p1 := p1) hj6 hoW
    refine lv_istore (lv' := [(5, .int (w3 ((kRenew D mny (N j) p0 p1)))), (0, .ref b), (1, .ref (Ad 1)), (2, .ref (Ad 5)), (3, .ref (Ad 0)), (4, .int (nI q))]) hx hb dL_law_405 hl (by decide) rfl (fun ls hl => ?_)
    refine lv_aload_n hx hb dL_law_407 rfl (lv_at hl 3 rfl) ?_
    refine lv_aload_n hx hb dL_law_408 rfl (lv_at hl 1 rfl) ?_
    refine lv_iload hx hb dL_law_409 (lv_at hl 5 rfl) ?_
    refine lv_iconst (v := 1) hx hb dL_law_411 (by decide) ?_
    refine lv_iadd hx hb dL_law_412 ?_
    refine gtop (y := nI (q + 1)) (nI_add q 1) ?_
    refine gsld hx hb hX hbl hbA hS (j := q + 1) (by omega) (by omega) e0 dL_law_413 ?_
    refine lv_aload_n hx hb dL_law_414 rfl (lv_at hl 1 rfl) ?_
    refine lv_iload hx hb dL_law_415 (lv_at hl 5 rfl) ?_
    refine lv_iconst (v := 2) hx hb dL_law_417 (by decide) ?_
    refine lv_iadd hx hb dL_law_418 ?_
    refine gtop (y := nI (q + 2)) (nI_add q 2) ?_
    refine gsld hx hb hX hbl hbA hS (j := q + 2) (by omega) (by omega) e1 dL_law_419 ?_
    refine gciT (X := wX T Ad AF ho D mny N f g rk rf rg rh) (va_runV (As := [.int p0, .int p1]) (rest := []) ⟨hx, hb, hml, hown, hts⟩ (kX3_renew l G T (Ad 5) (AF 8) I1 F j o p0 p1 _ hj hoW) (cwV 2 hts gL_law_X3_renew rfl rfl rfl (by decide +kernel) ⟨Nat.le_of_ble_eq_true rfl, Nat.le_of_ble_eq_true rfl⟩) ⟨gblind, va_recv hK hP (ci := 3) (q0 := 68) rfl (wL_m (ho1 := ho) (D1 := D) (m1 := mny)), gpreT (X := wX T Ad AF ho D mny N f g rk rf rg rh) hE hK hP hD hS hA⟩ rfl rfl hl.1 rfl (lv_room (Nat.le_of_ble_eq_true rfl)) dL_law_420 ⟨Nat.le_trans (by omega) hcl, Nat.le_trans (by omega) hsl⟩) hP hD hS hA cM_fst (fun r9 H locs hw hP hD hS => ?_)
    have hc : ¬ (cRenew I1 F j o p0 p1) = 0 := fun z => hk (hkc.trans z)
    rw [if_neg hc, if_neg hc] at hP hD
    rw [if_neg hc] at hw
    subst hw
    have hP : va_P G vwCl (wX T Ad AF ho D mny N f g rk rf rg rh ++ cM T (Ad 5) (AF 8) (upd I1 17 (w3 ((cRenew I1 F j o p0 p1)))) F) H := hP
    have hD : va_D (gA s) (wX T Ad AF ho D mny N f g rk rf rg rh ++ cM T (Ad 5) (AF 8) (upd I1 17 (w3 ((cRenew I1 F j o p0 p1)))) F) := hD
    refine lv_istore (lv' := [(6, .int (0)), (5, .int (w3 ((kRenew D mny (N j) p0 p1)))), (0, .ref b), (1, .ref (Ad 1)), (2, .ref (Ad 5)), (3, .ref (Ad 0)), (4, .int (nI q))]) hx hb dL_law_423 hl (by decide) rfl (fun ls hl => ?_)
    refine lv_aload_n hx hb dL_law_425 rfl (lv_at hl 4 rfl) ?_
    refine gciT (X := wX T Ad AF ho D mny N f g rk rf rg rh) (va_runV (As := []) (rest := []) ⟨hx, hb, hml, hown, hts⟩ (kX3_thrown l G T (Ad 5) (AF 8) (upd I1 17 (w3 ((cRenew I1 F j o p0 p1)))) F _) (cwV 0 hts gL_law_X3_thrown rfl rfl rfl (by decide +kernel) ⟨Nat.le_of_ble_eq_true rfl, Nat.le_of_ble_eq_true rfl⟩) ⟨gblind, va_recv hK hP (ci := 3) (q0 := 68) rfl (wL_m (ho1 := ho) (D1 := D) (m1 := mny)), gpreT (X := wX T Ad AF ho D mny N f g rk rf rg rh) hE hK hP hD hS hA⟩ rfl rfl hl.1 rfl (lv_room (Nat.le_of_ble_eq_true rfl)) dL_law_426 ⟨Nat.le_trans (by omega) hcl, Nat.le_trans (by omega) hsl⟩) hP hD hS hA cM_fst (fun r9 H locs hw hP hD hS => ?_)
    refine gtop (y := w3 ((kRenew D mny (N j) p0 p1))) (hw.trans (show w3 ((cRenew I1 F j o p0 p1)) = w3 ((kRenew D mny (N j) p0 p1)) by rw [hkc])) ?_
    refine lv_iload hx hb dL_law_429 (lv_at hl 1 rfl) ?_
    refine lv_icmp_eq (tgt := 436) hx hb dL_law_431 (by decide) (fun _ => ?_) (fun c9 => absurd rfl c9)
    refine lv_iload hx hb dL_law_436 (lv_at hl 1 rfl) ?_
    refine lv_if_ne (tgt := 453) hx hb dL_law_438 (by decide) (fun _ => ?_) (fun c9 => absurd c9 (w3_ne _ hk))
    refine lv_goto (tgt := 1261) hx hb dL_law_453 (by decide) ?_
    refine W.widen (k := cells + 5) (n := slots + 30) (by omega) (by omega) ?_
    exact kk _ _ _ ⟨_, _, _, _, _, _, _, _, _, _, _, _, hR.idle _, hP, hD, hS⟩ (lv_sub hl [2, 3, 4, 5, 6] rfl)
set_option maxHeartbeats 8000000 in
set_option maxRecDepth 100000 in
theorem op_redeem (C : gLC p s m c b L xs G T aK aV) (hl0 : l.stackTraces = false) (hcl : cells + 5 ≤ 631168) (hsl : slots + 30 ≤ 7202601) (hn : n < 512) (hq : q + 4 ≤ L) (h : gLS n G T Ad AF s H locs) (hl : lv_has ls 7 [(0, .ref b), (1, .ref (Ad 1)), (2, .ref (Ad 5)), (3, .ref (Ad 0)), (4, .int (nI q))])
    (kk : ∀ (H : Heap) (locs : List Loc) (ls : Array Slot), gLS (n + 1) G T Ad AF s H locs → lv_has ls 7 [(0, .ref b), (1, .ref (Ad 1)), (2, .ref (Ad 5)), (3, .ref (Ad 0)), (4, .int (nI q))] → W p l e room_1 s m #[Value.ref b] below meth c H locs (cells + 5) (slots + 30) Q (F0 m 1261 ls [])) : W p l e room_1 s m #[Value.ref b] below meth c H locs cells slots Q (F0 m 456 ls []) := by
  obtain ⟨hx, hb, hml, hown, hts, hX, hbl, hK, hE, hWs, hL⟩ := id C
  have hA : ∀ q : Nat, s.heap.size ≤ q → gA s q := fun _ h => h
  have hbA : ¬ gA s b := Nat.not_le.mpr hbl
  obtain ⟨D, mny, N, f, g, rk, rf, rg, rh, I1, F, ho, hR, hP, hD, hS⟩ := h
  obtain ⟨p0, e0⟩ : ∃ y : Int32, y = xs (q + 1) := ⟨_, rfl⟩
  obtain ⟨j, hj6, hj⟩ := ixN p0
  obtain ⟨c9, hN⟩ := hR.name hj6
  obtain ⟨o, hoW⟩ : ∃ o : Nat, F 3 j = 4 → F 4 j = nI o ∧ o < 6 := by
    by_cases hz : F 3 j = 4
    · obtain ⟨o, o1, o2⟩ := hN.own (Or.inr (Or.inr (Or.inl (hN.1.1.trans hz)))); exact ⟨o, fun _ => ⟨hN.1.2.1.symm.trans o2, o1⟩⟩
    · exact ⟨0, fun y => absurd y hz⟩
  refine lv_aload_n hx hb dL_law_456 rfl (lv_at hl 1 rfl) ?_
  refine lv_aload_n hx hb dL_law_457 rfl (lv_at hl 0 rfl) ?_
  refine lv_iload hx hb dL_law_458 (lv_at hl 4 rfl) ?_
  refine lv_iconst (v := 1) hx hb dL_law_460 (by decide) ?_
  refine lv_iadd hx hb dL_law_461 ?_
  refine gtop (y := nI (q + 1)) (nI_add q 1) ?_
  refine gsld hx hb hX hbl hbA hS (j := q + 1) (by omega) (by omega) e0 dL_law_462 ?_
  refine lv_aload_n hx hb dL_law_463 rfl (lv_at hl 3 rfl) ?_
  by_cases hk : (kRedeem mny (N j) p0) = 0
  · skip
    refine gci (vx_runSW (As := [.ref (Ad 1), .int p0, .ref (Ad 0)]) (rest := []) ⟨hx, hb, hml, hown, hts⟩ (kL_redeem_ok l hl0 G T (Ad 1) (Ad 2) (Ad 3) (Ad 4) D mny (AF 0) (AF 3) j (AF 1 j) (AF 2 j) (N j) (f j) (g j) p0 (Ad 0) ho _ hj hk) (vx_cwSW 3 hts gL_law_L_redeem rfl rfl rfl (by decide +kernel) ⟨Nat.le_of_ble_eq_true rfl, Nat.le_of_ble_eq_true rfl⟩) ⟨gblind, gpre hE hK hP hD hS hA [0, 1, 2, 3, 4, 5 + 3 * j, 6 + 3 * j, 7 + 3 * j] (wL_ndN hj6) (wL_cutN (ho1 := ho) (D1 := D) (m1 := mny) hj6)⟩ rfl rfl hl.1 rfl (lv_room (Nat.le_of_ble_eq_true rfl)) dL_law_464 ⟨Nat.le_trans (by omega) hcl, Nat.le_trans (by omega) hsl⟩) hP hD hS hA [0, 1, 2, 3, 4, 5 + 3 * j, 6 + 3 * j, 7 + 3 * j] (wL_cutN (ho1 := ho) (D1 := D) (m1 := mny) hj6) rfl (fun r9 H locs hw hP hD hS => ?_)
    have hP := gfin hP (wL_repN hj6)
    have hD := gfinD hD (wL_repN hj6)
    try simp only [updA_self] at hP hD
    have hP : va_P G vwCl (wX T Ad AF (vp_updL ho 0 (((sPayD D mny (N j 1) 50 3 + 100)).toInt64)) (sPayD D mny (N j 1) 50) (sPayF mny (N j 1) 50) (updA N j (upd (upd (upd (upd (upd (N j) 0 2) 1 (N j 1)) 3 ((sPayD D mny (N j 1) 50) 3 + 100)) 4 0) 5 10)) (updA f j (fun _ => 0)) g rk rf rg rh ++ cM T (Ad 5) (AF 8) I1 F) H := hP
    have hD : va_D (gA s) (wX T Ad AF (vp_updL ho 0 (((sPayD D mny (N j 1) 50 3 + 100)).toInt64)) (sPayD D mny (N j 1) 50) (sPayF mny (N j 1) 50) (updA N j (upd (upd (upd (upd (upd (N j) 0 2) 1 (N j 1)) 3 ((sPayD D mny (N j 1) 50) 3 + 100)) 4 0) 5 10)) (updA f j (fun _ => 0)) g rk rf rg rh ++ cM T (Ad 5) (AF 8) I1 F) := hD
    subst hw
    obtain ⟨hkc, hsim⟩ := sim_redeem hR (p0 := p0) hj6 hoW
    refine lv_istore (lv' := [(5, .int 0), (0, .ref b), (1, .ref (Ad 1)), (2, .ref (Ad 5)), (3, .ref (Ad 0)), (4, .int (nI q))]) hx hb dL_law_467 hl (by decide) rfl (fun ls hl => ?_)
    refine lv_aload_n hx hb dL_law_469 rfl (lv_at hl 3 rfl) ?_
    refine lv_aload_n hx hb dL_law_470 rfl (lv_at hl 1 rfl) ?_
    refine lv_iload hx hb dL_law_471 (lv_at hl 5 rfl) ?_
    refine lv_iconst (v := 1) hx hb dL_law_473 (by decide) ?_
    refine lv_iadd hx hb dL_law_474 ?_
    refine gtop (y := nI (q + 1)) (nI_add q 1) ?_
    refine gsld hx hb hX hbl hbA hS (j := q + 1) (by omega) (by omega) e0 dL_law_475 ?_
    refine gciT (X := wX T Ad AF (vp_updL ho 0 (((sPayD D mny (N j 1) 50 3 + 100)).toInt64)) (sPayD D mny (N j 1) 50) (sPayF mny (N j 1) 50) (updA N j (upd (upd (upd (upd (upd (N j) 0 2) 1 (N j 1)) 3 ((sPayD D mny (N j 1) 50) 3 + 100)) 4 0) 5 10)) (updA f j (fun _ => 0)) g rk rf rg rh) (va_runV (As := [.int p0]) (rest := []) ⟨hx, hb, hml, hown, hts⟩ (kX3_redeem l G T (Ad 5) (AF 8) I1 F j o p0 _ hj hoW) (cwV 1 hts gL_law_X3_redeem rfl rfl rfl (by decide +kernel) ⟨Nat.le_of_ble_eq_true rfl, Nat.le_of_ble_eq_true rfl⟩) ⟨gblind, va_recv hK hP (ci := 3) (q0 := 68) rfl (wL_m (ho1 := ho) (D1 := D) (m1 := mny)), gpreT (X := wX T Ad AF (vp_updL ho 0 (((sPayD D mny (N j 1) 50 3 + 100)).toInt64)) (sPayD D mny (N j 1) 50) (sPayF mny (N j 1) 50) (updA N j (upd (upd (upd (upd (upd (N j) 0 2) 1 (N j 1)) 3 ((sPayD D mny (N j 1) 50) 3 + 100)) 4 0) 5 10)) (updA f j (fun _ => 0)) g rk rf rg rh) hE hK hP hD hS hA⟩ rfl rfl hl.1 rfl (lv_room (Nat.le_of_ble_eq_true rfl)) dL_law_476 ⟨Nat.le_trans (by omega) hcl, Nat.le_trans (by omega) hsl⟩) hP hD hS hA cM_fst (fun r9 H locs hw hP hD hS => ?_)
    have hc : (cRedeem F j o p0) = 0 := hkc.symm.trans hk
    rw [if_pos hc, if_pos hc] at hP hD
    rw [if_pos hc] at hw
    subst hw
    have hP : va_P G vwCl (wX T Ad AF (vp_updL ho 0 (((sPayD D mny (N j 1) 50 3 + 100)).toInt64)) (sPayD D mny (N j 1) 50) (sPayF mny (N j 1) 50) (updA N j (upd (upd (upd (upd (upd (N j) 0 2) 1 (N j 1)) 3 ((sPayD D mny (N j 1) 50) 3 + 100)) 4 0) 5 10)) (updA f j (fun _ => 0)) g rk rf rg rh ++ cM T (Ad 5) (AF 8) (upd (upd I1 17 0) 1 (I1 1 + 50)) (mLease (mPayF F o 50) j (F 4 j) (I1 0))) H := hP
    have hD : va_D (gA s) (wX T Ad AF (vp_updL ho 0 (((sPayD D mny (N j 1) 50 3 + 100)).toInt64)) (sPayD D mny (N j 1) 50) (sPayF mny (N j 1) 50) (updA N j (upd (upd (upd (upd (upd (N j) 0 2) 1 (N j 1)) 3 ((sPayD D mny (N j 1) 50) 3 + 100)) 4 0) 5 10)) (updA f j (fun _ => 0)) g rk rf rg rh ++ cM T (Ad 5) (AF 8) (upd (upd I1 17 0) 1 (I1 1 + 50)) (mLease (mPayF F o 50) j (F 4 j) (I1 0))) := hD
    refine lv_istore (lv' := [(6, .int ((I1 0 + 100))), (5, .int 0), (0, .ref b), (1, .ref (Ad 1)), (2, .ref (Ad 5)), (3, .ref (Ad 0)), (4, .int (nI q))]) hx hb dL_law_479 hl (by decide) rfl (fun ls hl => ?_)
    refine lv_aload_n hx hb dL_law_481 rfl (lv_at hl 4 rfl) ?_
    refine gciT (X := wX T Ad AF (vp_updL ho 0 (((sPayD D mny (N j 1) 50 3 + 100)).toInt64)) (sPayD D mny (N j 1) 50) (sPayF mny (N j 1) 50) (updA N j (upd (upd (upd (upd (upd (N j) 0 2) 1 (N j 1)) 3 ((sPayD D mny (N j 1) 50) 3 + 100)) 4 0) 5 10)) (updA f j (fun _ => 0)) g rk rf rg rh) (va_runV (As := []) (rest := []) ⟨hx, hb, hml, hown, hts⟩ (kX3_thrown l G T (Ad 5) (AF 8) (upd (upd I1 17 0) 1 (I1 1 + 50)) (mLease (mPayF F o 50) j (F 4 j) (I1 0)) _) (cwV 0 hts gL_law_X3_thrown rfl rfl rfl (by decide +kernel) ⟨Nat.le_of_ble_eq_true rfl, Nat.le_of_ble_eq_true rfl⟩) ⟨gblind, va_recv hK hP (ci := 3) (q0 := 68) rfl (wL_m (ho1 := ho) (D1 := D) (m1 := mny)), gpreT (X := wX T Ad AF (vp_updL ho 0 (((sPayD D mny (N j 1) 50 3 + 100)).toInt64)) (sPayD D mny (N j 1) 50) (sPayF mny (N j 1) 50) (updA N j (upd (upd (upd (upd (upd (N j) 0 2) 1 (N j 1)) 3 ((sPayD D mny (N j 1) 50) 3 + 100)) 4 0) 5 10)) (updA f j (fun _ => 0)) g rk rf rg rh) hE hK hP hD hS hA⟩ rfl rfl hl.1 rfl (lv_room (Nat.le_of_ble_eq_true rfl)) dL_law_482 ⟨Nat.le_trans (by omega) hcl, Nat.le_trans (by omega) hsl⟩) hP hD hS hA cM_fst (fun r9 H locs hw hP hD hS => ?_)
    refine gtop (y := 0) hw ?_
    refine lv_iload hx hb dL_law_485 (lv_at hl 1 rfl) ?_
    refine lv_icmp_eq (tgt := 492) hx hb dL_law_487 (by decide) (fun _ => ?_) (fun c9 => absurd rfl c9)
    refine lv_iload hx hb dL_law_492 (lv_at hl 1 rfl) ?_
    refine lv_if_ne (tgt := 509) hx hb dL_law_494 (by decide) (fun c9 => absurd rfl c9) (fun _ => ?_)
    refine lv_aload_n hx hb dL_law_497 rfl (lv_at hl 5 rfl) ?_
    refine lv_iconst (v := 0) hx hb dL_law_498 (by decide) ?_
    refine glald (j := 0) hx hb hK hP 0 4 (wL_0 (ho1 := ho) (D1 := D) (m1 := mny)) rfl (show (0 : Int32) = nI 0 from rfl) (by omega) (by decide) dL_law_499 ?_
    obtain ⟨ea, hrel⟩ := hsim hk
    refine lv_iload hx hb dL_law_500 (lv_at hl 0 rfl) ?_
    refine lv_i2l (v := ((I1 0 + 100)).toInt64) hx hb dL_law_502 rfl ?_
    refine W.lcmp hx hb dL_law_503 ?_
    refine gtop (y := 0) (lcmp0 (show ((sPayD D mny (N j 1) 50 3 + 100)).toInt64 = ((I1 0 + 100)).toInt64 from congrArg Int32.toInt64 ea)) ?_
    refine lv_if_eq (tgt := 509) hx hb dL_law_504 (by decide) (fun _ => ?_) (fun c9 => absurd rfl c9)
    refine lv_goto (tgt := 1261) hx hb dL_law_509 (by decide) ?_
    refine W.widen (k := cells + 5) (n := slots + 30) (by omega) (by omega) ?_
    exact kk _ _ _ ⟨_, _, _, _, _, _, _, _, _, _, _, _, hrel, hP, hD, hS⟩ (lv_sub hl [2, 3, 4, 5, 6] rfl)
  · skip
    refine gci (vx_runSW (As := [.ref (Ad 1), .int p0, .ref (Ad 0)]) (rest := []) ⟨hx, hb, hml, hown, hts⟩ (kL_redeem_no l hl0 G T (Ad 1) (Ad 2) (Ad 3) (Ad 4) D mny (AF 0) (AF 3) j (AF 1 j) (AF 2 j) (N j) (f j) (g j) p0 (Ad 0) ho _ hj hk) (vx_cwSW 3 hts gL_law_L_redeem rfl rfl rfl (by decide +kernel) ⟨Nat.le_of_ble_eq_true rfl, Nat.le_of_ble_eq_true rfl⟩) ⟨gblind, gpre hE hK hP hD hS hA [0, 1, 2, 3, 4, 5 + 3 * j, 6 + 3 * j, 7 + 3 * j] (wL_ndN hj6) (wL_cutN (ho1 := ho) (D1 := D) (m1 := mny) hj6)⟩ rfl rfl hl.1 rfl (lv_room (Nat.le_of_ble_eq_true rfl)) dL_law_464 ⟨Nat.le_trans (by omega) hcl, Nat.le_trans (by omega) hsl⟩) hP hD hS hA [0, 1, 2, 3, 4, 5 + 3 * j, 6 + 3 * j, 7 + 3 * j] (wL_cutN (ho1 := ho) (D1 := D) (m1 := mny) hj6) rfl (fun r9 H locs hw hP hD hS => ?_)
    have hP := gfin hP (wL_repN hj6)
    have hD := gfinD hD (wL_repN hj6)
    try simp only [updA_self] at hP hD
    have hP : va_P G vwCl (wX T Ad AF ho D mny N f g rk rf rg rh ++ cM T (Ad 5) (AF 8) I1 F) H := hP
    have hD : va_D (gA s) (wX T Ad AF ho D mny N f g rk rf rg rh ++ cM T (Ad 5) (AF 8) I1 F) := hD
    subst hw
    obtain ⟨hkc, hsim⟩ := sim_redeem hR (p0 := p0) hj6 hoW
    refine lv_istore (lv' := [(5, .int (w13 ((kRedeem mny (N j) p0)))), (0, .ref b), (1, .ref (Ad 1)), (2, .ref (Ad 5)), (3, .ref (Ad 0)), (4, .int (nI q))]) hx hb dL_law_467 hl (by decide) rfl (fun ls hl => ?_)
    refine lv_aload_n hx hb dL_law_469 rfl (lv_at hl 3 rfl) ?_
    refine lv_aload_n hx hb dL_law_470 rfl (lv_at hl 1 rfl) ?_
    refine lv_iload hx hb dL_law_471 (lv_at hl 5 rfl) ?_
    refine lv_iconst (v := 1) hx hb dL_law_473 (by decide) ?_
    refine lv_iadd hx hb dL_law_474 ?_
    refine gtop (y := nI (q + 1)) (nI_add q 1) ?_
    refine gsld hx hb hX hbl hbA hS (j := q + 1) (by omega) (by omega) e0 dL_law_475 ?_
    refine gciT (X := wX T Ad AF ho D mny N f g rk rf rg rh) (va_runV (As := [.int p0]) (rest := []) ⟨hx, hb, hml, hown, hts⟩ (kX3_redeem l G T (Ad 5) (AF 8) I1 F j o p0 _ hj hoW) (cwV 1 hts gL_law_X3_redeem rfl rfl rfl (by decide +kernel) ⟨Nat.le_of_ble_eq_true rfl, Nat.le_of_ble_eq_true rfl⟩) ⟨gblind, va_recv hK hP (ci := 3) (q0 := 68) rfl (wL_m (ho1 := ho) (D1 := D) (m1 := mny)), gpreT (X := wX T Ad AF ho D mny N f g rk rf rg rh) hE hK hP hD hS hA⟩ rfl rfl hl.1 rfl (lv_room (Nat.le_of_ble_eq_true rfl)) dL_law_476 ⟨Nat.le_trans (by omega) hcl, Nat.le_trans (by omega) hsl⟩) hP hD hS hA cM_fst (fun r9 H locs hw hP hD hS => ?_)
    have hc : ¬ (cRedeem F j o p0) = 0 := fun z => hk (hkc.trans z)
    rw [if_neg hc, if_neg hc] at hP hD
    rw [if_neg hc] at hw
    subst hw
    have hP : va_P G vwCl (wX T Ad AF ho D mny N f g rk rf rg rh ++ cM T (Ad 5) (AF 8) (upd I1 17 (w13 ((cRedeem F j o p0)))) F) H := hP
    have hD : va_D (gA s) (wX T Ad AF ho D mny N f g rk rf rg rh ++ cM T (Ad 5) (AF 8) (upd I1 17 (w13 ((cRedeem F j o p0)))) F) := hD
    refine lv_istore (lv' := [(6, .int (0)), (5, .int (w13 ((kRedeem mny (N j) p0)))), (0, .ref b), (1, .ref (Ad 1)), (2, .ref (Ad 5)), (3, .ref (Ad 0)), (4, .int (nI q))]) hx hb dL_law_479 hl (by decide) rfl (fun ls hl => ?_)
    refine lv_aload_n hx hb dL_law_481 rfl (lv_at hl 4 rfl) ?_
    refine gciT (X := wX T Ad AF ho D mny N f g rk rf rg rh) (va_runV (As := []) (rest := []) ⟨hx, hb, hml, hown, hts⟩ (kX3_thrown l G T (Ad 5) (AF 8) (upd I1 17 (w13 ((cRedeem F j o p0)))) F _) (cwV 0 hts gL_law_X3_thrown rfl rfl rfl (by decide +kernel) ⟨Nat.le_of_ble_eq_true rfl, Nat.le_of_ble_eq_true rfl⟩) ⟨gblind, va_recv hK hP (ci := 3) (q0 := 68) rfl (wL_m (ho1 := ho) (D1 := D) (m1 := mny)), gpreT (X := wX T Ad AF ho D mny N f g rk rf rg rh) hE hK hP hD hS hA⟩ rfl rfl hl.1 rfl (lv_room (Nat.le_of_ble_eq_true rfl)) dL_law_482 ⟨Nat.le_trans (by omega) hcl, Nat.le_trans (by omega) hsl⟩) hP hD hS hA cM_fst (fun r9 H locs hw hP hD hS => ?_)
    refine gtop (y := w13 ((kRedeem mny (N j) p0))) (hw.trans (show w13 ((cRedeem F j o p0)) = w13 ((kRedeem mny (N j) p0)) by rw [hkc])) ?_
    refine lv_iload hx hb dL_law_485 (lv_at hl 1 rfl) ?_
    refine lv_icmp_eq (tgt := 492) hx hb dL_law_487 (by decide) (fun _ => ?_) (fun c9 => absurd rfl c9)
    refine lv_iload hx hb dL_law_492 (lv_at hl 1 rfl) ?_
    refine lv_if_ne (tgt := 509) hx hb dL_law_494 (by decide) (fun _ => ?_) (fun c9 => absurd c9 (w13_ne _ hk))
    refine lv_goto (tgt := 1261) hx hb dL_law_509 (by decide) ?_
    refine W.widen (k := cells + 5) (n := slots + 30) (by omega) (by omega) ?_
    exact kk _ _ _ ⟨_, _, _, _, _, _, _, _, _, _, _, _, hR.idle _, hP, hD, hS⟩ (lv_sub hl [2, 3, 4, 5, 6] rfl)
set_option maxHeartbeats 8000000 in
set_option maxRecDepth 100000 in
theorem op_setRecord (C : gLC p s m c b L xs G T aK aV) (hl0 : l.stackTraces = false) (hcl : cells + 5 ≤ 631168) (hsl : slots + 30 ≤ 7202601) (hn : n < 512) (hq : q + 4 ≤ L) (h : gLS n G T Ad AF s H locs) (hl : lv_has ls 7 [(0, .ref b), (1, .ref (Ad 1)), (2, .ref (Ad 5)), (3, .ref (Ad 0)), (4, .int (nI q))])
    (kk : ∀ (H : Heap) (locs : List Loc) (ls : Array Slot), gLS (n + 1) G T Ad AF s H locs → lv_has ls 7 [(0, .ref b), (1, .ref (Ad 1)), (2, .ref (Ad 5)), (3, .ref (Ad 0)), (4, .int (nI q))] → W p l e room_1 s m #[Value.ref b] below meth c H locs (cells + 5) (slots + 30) Q (F0 m 1261 ls [])) : W p l e room_1 s m #[Value.ref b] below meth c H locs cells slots Q (F0 m 512 ls []) := by
  obtain ⟨hx, hb, hml, hown, hts, hX, hbl, hK, hE, hWs, hL⟩ := id C
  have hA : ∀ q : Nat, s.heap.size ≤ q → gA s q := fun _ h => h
  have hbA : ¬ gA s b := Nat.not_le.mpr hbl
  obtain ⟨D, mny, N, f, g, rk, rf, rg, rh, I1, F, ho, hR, hP, hD, hS⟩ := h
  obtain ⟨p0, e0⟩ : ∃ y : Int32, y = xs (q + 1) := ⟨_, rfl⟩
  obtain ⟨p1, e1⟩ : ∃ y : Int32, y = xs (q + 2) := ⟨_, rfl⟩
  obtain ⟨p2, e2⟩ : ∃ y : Int32, y = xs (q + 3) := ⟨_, rfl⟩
  obtain ⟨j, hj6, hj⟩ := ixN p0
  refine lv_aload_n hx hb dL_law_512 rfl (lv_at hl 1 rfl) ?_
  refine lv_aload_n hx hb dL_law_513 rfl (lv_at hl 0 rfl) ?_
  refine lv_iload hx hb dL_law_514 (lv_at hl 4 rfl) ?_
  refine lv_iconst (v := 1) hx hb dL_law_516 (by decide) ?_
  refine lv_iadd hx hb dL_law_517 ?_
  refine gtop (y := nI (q + 1)) (nI_add q 1) ?_
  refine gsld hx hb hX hbl hbA hS (j := q + 1) (by omega) (by omega) e0 dL_law_518 ?_
  refine lv_aload_n hx hb dL_law_519 rfl (lv_at hl 0 rfl) ?_
  refine lv_iload hx hb dL_law_520 (lv_at hl 4 rfl) ?_
  refine lv_iconst (v := 2) hx hb dL_law_522 (by decide) ?_
  refine lv_iadd hx hb dL_law_523 ?_
  refine gtop (y := nI (q + 2)) (nI_add q 2) ?_
  refine gsld hx hb hX hbl hbA hS (j := q + 2) (by omega) (by omega) e1 dL_law_524 ?_
  refine lv_aload_n hx hb dL_law_525 rfl (lv_at hl 0 rfl) ?_
  refine lv_iload hx hb dL_law_526 (lv_at hl 4 rfl) ?_
  refine lv_iconst (v := 3) hx hb dL_law_528 (by decide) ?_
  refine lv_iadd hx hb dL_law_529 ?_
  refine gtop (y := nI (q + 3)) (nI_add q 3) ?_
  refine gsld hx hb hX hbl hbA hS (j := q + 3) (by omega) (by omega) e2 dL_law_530 ?_
  refine lv_aload_n hx hb dL_law_531 rfl (lv_at hl 3 rfl) ?_
  by_cases hk : (kSetRec (N j) p0 p1 p2) = 0
  · skip
    refine gci (vx_runSW (As := [.ref (Ad 1), .int p0, .int p1, .int p2, .ref (Ad 0)]) (rest := []) ⟨hx, hb, hml, hown, hts⟩ (kL_setRecord_ok l hl0 G T (Ad 1) (Ad 2) (Ad 3) (Ad 4) D mny (AF 0) (AF 3) j (AF 1 j) (AF 2 j) (N j) (f j) (g j) p0 p1 p2 (Ad 0) ho _ hj hk) (vx_cwSW 5 hts gL_law_L_setRecord rfl rfl rfl (by decide +kernel) ⟨Nat.le_of_ble_eq_true rfl, Nat.le_of_ble_eq_true rfl⟩) ⟨gblind, gpre hE hK hP hD hS hA [0, 1, 2, 3, 4, 5 + 3 * j, 6 + 3 * j, 7 + 3 * j] (wL_ndN hj6) (wL_cutN (ho1 := ho) (D1 := D) (m1 := mny) hj6)⟩ rfl rfl hl.1 rfl (lv_room (Nat.le_of_ble_eq_true rfl)) dL_law_532 ⟨Nat.le_trans (by omega) hcl, Nat.le_trans (by omega) hsl⟩) hP hD hS hA [0, 1, 2, 3, 4, 5 + 3 * j, 6 + 3 * j, 7 + 3 * j] (wL_cutN (ho1 := ho) (D1 := D) (m1 := mny) hj6) rfl (fun r9 H locs hw hP hD hS => ?_)
    have hP := gfin hP (wL_repN hj6)
    have hD := gfinD hD (wL_repN hj6)
    try simp only [updA_self] at hP hD
    have hP : va_P G vwCl (wX T Ad AF (vp_updL ho 0 (((N j 4)).toInt64)) D mny (updA N j (upd (upd (N j) 4 p1) 5 p2)) f g rk rf rg rh ++ cM T (Ad 5) (AF 8) I1 F) H := hP
    have hD : va_D (gA s) (wX T Ad AF (vp_updL ho 0 (((N j 4)).toInt64)) D mny (updA N j (upd (upd (N j) 4 p1) 5 p2)) f g rk rf rg rh ++ cM T (Ad 5) (AF 8) I1 F) := hD
    subst hw
    obtain ⟨hkc, hsim⟩ := sim_setRec hR (p0 := p0) (p1 := p1) (p2 := p2) hj6
    refine lv_istore (lv' := [(5, .int 0), (0, .ref b), (1, .ref (Ad 1)), (2, .ref (Ad 5)), (3, .ref (Ad 0)), (4, .int (nI q))]) hx hb dL_law_535 hl (by decide) rfl (fun ls hl => ?_)
    refine lv_aload_n hx hb dL_law_537 rfl (lv_at hl 3 rfl) ?_
    refine lv_aload_n hx hb dL_law_538 rfl (lv_at hl 1 rfl) ?_
    refine lv_iload hx hb dL_law_539 (lv_at hl 5 rfl) ?_
    refine lv_iconst (v := 1) hx hb dL_law_541 (by decide) ?_
    refine lv_iadd hx hb dL_law_542 ?_
    refine gtop (y := nI (q + 1)) (nI_add q 1) ?_
    refine gsld hx hb hX hbl hbA hS (j := q + 1) (by omega) (by omega) e0 dL_law_543 ?_
    refine lv_aload_n hx hb dL_law_544 rfl (lv_at hl 1 rfl) ?_
    refine lv_iload hx hb dL_law_545 (lv_at hl 5 rfl) ?_
    refine lv_iconst (v := 2) hx hb dL_law_547 (by decide) ?_
    refine lv_iadd hx hb dL_law_548 ?_
    refine gtop (y := nI (q + 2)) (nI_add q 2) ?_
    refine gsld hx hb hX hbl hbA hS (j := q + 2) (by omega) (by omega) e1 dL_law_549 ?_
    refine lv_aload_n hx hb dL_law_550 rfl (lv_at hl 1 rfl) ?_
    refine lv_iload hx hb dL_law_551 (lv_at hl 5 rfl) ?_
    refine lv_iconst (v := 3) hx hb dL_law_553 (by decide) ?_
    refine lv_iadd hx hb dL_law_554 ?_
    refine gtop (y := nI (q + 3)) (nI_add q 3) ?_
    refine gsld hx hb hX hbl hbA hS (j := q + 3) (by omega) (by omega) e2 dL_law_555 ?_
    refine gciT (X := wX T Ad AF (vp_updL ho 0 (((N j 4)).toInt64)) D mny (updA N j (upd (upd (N j) 4 p1) 5 p2)) f g rk rf rg rh) (va_runV (As := [.int p0, .int p1, .int p2]) (rest := []) ⟨hx, hb, hml, hown, hts⟩ (kX3_setRecord l G T (Ad 5) (AF 8) I1 F j p0 p1 p2 _ hj) (cwV 3 hts gL_law_X3_setRecord rfl rfl rfl (by decide +kernel) ⟨Nat.le_of_ble_eq_true rfl, Nat.le_of_ble_eq_true rfl⟩) ⟨gblind, va_recv hK hP (ci := 3) (q0 := 68) rfl (wL_m (ho1 := ho) (D1 := D) (m1 := mny)), gpreT (X := wX T Ad AF (vp_updL ho 0 (((N j 4)).toInt64)) D mny (updA N j (upd (upd (N j) 4 p1) 5 p2)) f g rk rf rg rh) hE hK hP hD hS hA⟩ rfl rfl hl.1 rfl (lv_room (Nat.le_of_ble_eq_true rfl)) dL_law_556 ⟨Nat.le_trans (by omega) hcl, Nat.le_trans (by omega) hsl⟩) hP hD hS hA cM_fst (fun r9 H locs hw hP hD hS => ?_)
    have hc : (cSetRec F j p0 p1 p2) = 0 := hkc.symm.trans hk
    rw [if_pos hc, if_pos hc] at hP hD
    rw [if_pos hc] at hw
    subst hw
    have hP : va_P G vwCl (wX T Ad AF (vp_updL ho 0 (((N j 4)).toInt64)) D mny (updA N j (upd (upd (N j) 4 p1) 5 p2)) f g rk rf rg rh ++ cM T (Ad 5) (AF 8) (upd I1 17 0) (updA (updA F 6 (upd (F 6) j p1)) 7 (upd (F 7) j p2))) H := hP
    have hD : va_D (gA s) (wX T Ad AF (vp_updL ho 0 (((N j 4)).toInt64)) D mny (updA N j (upd (upd (N j) 4 p1) 5 p2)) f g rk rf rg rh ++ cM T (Ad 5) (AF 8) (upd I1 17 0) (updA (updA F 6 (upd (F 6) j p1)) 7 (upd (F 7) j p2))) := hD
    refine lv_istore (lv' := [(6, .int ((F 6 j))), (5, .int 0), (0, .ref b), (1, .ref (Ad 1)), (2, .ref (Ad 5)), (3, .ref (Ad 0)), (4, .int (nI q))]) hx hb dL_law_559 hl (by decide) rfl (fun ls hl => ?_)
    refine lv_aload_n hx hb dL_law_561 rfl (lv_at hl 4 rfl) ?_
    refine gciT (X := wX T Ad AF (vp_updL ho 0 (((N j 4)).toInt64)) D mny (updA N j (upd (upd (N j) 4 p1) 5 p2)) f g rk rf rg rh) (va_runV (As := []) (rest := []) ⟨hx, hb, hml, hown, hts⟩ (kX3_thrown l G T (Ad 5) (AF 8) (upd I1 17 0) (updA (updA F 6 (upd (F 6) j p1)) 7 (upd (F 7) j p2)) _) (cwV 0 hts gL_law_X3_thrown rfl rfl rfl (by decide +kernel) ⟨Nat.le_of_ble_eq_true rfl, Nat.le_of_ble_eq_true rfl⟩) ⟨gblind, va_recv hK hP (ci := 3) (q0 := 68) rfl (wL_m (ho1 := ho) (D1 := D) (m1 := mny)), gpreT (X := wX T Ad AF (vp_updL ho 0 (((N j 4)).toInt64)) D mny (updA N j (upd (upd (N j) 4 p1) 5 p2)) f g rk rf rg rh) hE hK hP hD hS hA⟩ rfl rfl hl.1 rfl (lv_room (Nat.le_of_ble_eq_true rfl)) dL_law_562 ⟨Nat.le_trans (by omega) hcl, Nat.le_trans (by omega) hsl⟩) hP hD hS hA cM_fst (fun r9 H locs hw hP hD hS => ?_)
    refine gtop (y := 0) hw ?_
    refine lv_iload hx hb dL_law_565 (lv_at hl 1 rfl) ?_
    refine lv_icmp_eq (tgt := 572) hx hb dL_law_567 (by decide) (fun _ => ?_) (fun c9 => absurd rfl c9)
    refine lv_iload hx hb dL_law_572 (lv_at hl 1 rfl) ?_
    refine lv_if_ne (tgt := 589) hx hb dL_law_574 (by decide) (fun c9 => absurd rfl c9) (fun _ => ?_)
    refine lv_aload_n hx hb dL_law_577 rfl (lv_at hl 5 rfl) ?_
    refine lv_iconst (v := 0) hx hb dL_law_578 (by decide) ?_
    refine glald (j := 0) hx hb hK hP 0 4 (wL_0 (ho1 := ho) (D1 := D) (m1 := mny)) rfl (show (0 : Int32) = nI 0 from rfl) (by omega) (by decide) dL_law_579 ?_
    obtain ⟨ea, hrel⟩ := hsim hk
    refine lv_iload hx hb dL_law_580 (lv_at hl 0 rfl) ?_
    refine lv_i2l (v := ((F 6 j)).toInt64) hx hb dL_law_582 rfl ?_
    refine W.lcmp hx hb dL_law_583 ?_
    refine gtop (y := 0) (lcmp0 (show ((N j 4)).toInt64 = ((F 6 j)).toInt64 from congrArg Int32.toInt64 ea)) ?_
    refine lv_if_eq (tgt := 589) hx hb dL_law_584 (by decide) (fun _ => ?_) (fun c9 => absurd rfl c9)
    refine lv_goto (tgt := 1261) hx hb dL_law_589 (by decide) ?_
    refine W.widen (k := cells + 5) (n := slots + 30) (by omega) (by omega) ?_
    exact kk _ _ _ ⟨_, _, _, _, _, _, _, _, _, _, _, _, hrel, hP, hD, hS⟩ (lv_sub hl [2, 3, 4, 5, 6] rfl)
  · skip
    refine gci (vx_runSW (As := [.ref (Ad 1), .int p0, .int p1, .int p2, .ref (Ad 0)]) (rest := []) ⟨hx, hb, hml, hown, hts⟩ (kL_setRecord_no l hl0 G T (Ad 1) (Ad 2) (Ad 3) (Ad 4) D mny (AF 0) (AF 3) j (AF 1 j) (AF 2 j) (N j) (f j) (g j) p0 p1 p2 (Ad 0) ho _ hj hk) (vx_cwSW 5 hts gL_law_L_setRecord rfl rfl rfl (by decide +kernel) ⟨Nat.le_of_ble_eq_true rfl, Nat.le_of_ble_eq_true rfl⟩) ⟨gblind, gpre hE hK hP hD hS hA [0, 1, 2, 3, 4, 5 + 3 * j, 6 + 3 * j, 7 + 3 * j] (wL_ndN hj6) (wL_cutN (ho1 := ho) (D1 := D) (m1 := mny) hj6)⟩ rfl rfl hl.1 rfl (lv_room (Nat.le_of_ble_eq_true rfl)) dL_law_532 ⟨Nat.le_trans (by omega) hcl, Nat.le_trans (by omega) hsl⟩) hP hD hS hA [0, 1, 2, 3, 4, 5 + 3 * j, 6 + 3 * j, 7 + 3 * j] (wL_cutN (ho1 := ho) (D1 := D) (m1 := mny) hj6) rfl (fun r9 H locs hw hP hD hS => ?_)
    have hP := gfin hP (wL_repN hj6)
    have hD := gfinD hD (wL_repN hj6)
    try simp only [updA_self] at hP hD
    have hP : va_P G vwCl (wX T Ad AF ho D mny N f g rk rf rg rh ++ cM T (Ad 5) (AF 8) I1 F) H := hP
    have hD : va_D (gA s) (wX T Ad AF ho D mny N f g rk rf rg rh ++ cM T (Ad 5) (AF 8) I1 F) := hD
    subst hw
    obtain ⟨hkc, hsim⟩ := sim_setRec hR (p0 := p0) (p1 := p1) (p2 := p2) hj6
    refine lv_istore (lv' := [(5, .int (w3 ((kSetRec (N j) p0 p1 p2)))), (0, .ref b), (1, .ref (Ad 1)), (2, .ref (Ad 5)), (3, .ref (Ad 0)), (4, .int (nI q))]) hx hb dL_law_535 hl (by decide) rfl (fun ls hl => ?_)
    refine lv_aload_n hx hb dL_law_537 rfl (lv_at hl 3 rfl) ?_
    refine lv_aload_n hx hb dL_law_538 rfl (lv_at hl 1 rfl) ?_
    refine lv_iload hx hb dL_law_539 (lv_at hl 5 rfl) ?_
    refine lv_iconst (v := 1) hx hb dL_law_541 (by decide) ?_
    refine lv_iadd hx hb dL_law_542 ?_
    refine gtop (y := nI (q + 1)) (nI_add q 1) ?_
    refine gsld hx hb hX hbl hbA hS (j := q + 1) (by omega) (by omega) e0 dL_law_543 ?_
    refine lv_aload_n hx hb dL_law_544 rfl (lv_at hl 1 rfl) ?_
    refine lv_iload hx hb dL_law_545 (lv_at hl 5 rfl) ?_
    refine lv_iconst (v := 2) hx hb dL_law_547 (by decide) ?_
    refine lv_iadd hx hb dL_law_548 ?_
    refine gtop (y := nI (q + 2)) (nI_add q 2) ?_
    refine gsld hx hb hX hbl hbA hS (j := q + 2) (by omega) (by omega) e1 dL_law_549 ?_
    refine lv_aload_n hx hb dL_law_550 rfl (lv_at hl 1 rfl) ?_
    refine lv_iload hx hb dL_law_551 (lv_at hl 5 rfl) ?_
    refine lv_iconst (v := 3) hx hb dL_law_553 (by decide) ?_
    refine lv_iadd hx hb dL_law_554 ?_
    refine gtop (y := nI (q + 3)) (nI_add q 3) ?_
    refine gsld hx hb hX hbl hbA hS (j := q + 3) (by omega) (by omega) e2 dL_law_555 ?_
    refine gciT (X := wX T Ad AF ho D mny N f g rk rf rg rh) (va_runV (As := [.int p0, .int p1, .int p2]) (rest := []) ⟨hx, hb, hml, hown, hts⟩ (kX3_setRecord l G T (Ad 5) (AF 8) I1 F j p0 p1 p2 _ hj) (cwV 3 hts gL_law_X3_setRecord rfl rfl rfl (by decide +kernel) ⟨Nat.le_of_ble_eq_true rfl, Nat.le_of_ble_eq_true rfl⟩) ⟨gblind, va_recv hK hP (ci := 3) (q0 := 68) rfl (wL_m (ho1 := ho) (D1 := D) (m1 := mny)), gpreT (X := wX T Ad AF ho D mny N f g rk rf rg rh) hE hK hP hD hS hA⟩ rfl rfl hl.1 rfl (lv_room (Nat.le_of_ble_eq_true rfl)) dL_law_556 ⟨Nat.le_trans (by omega) hcl, Nat.le_trans (by omega) hsl⟩) hP hD hS hA cM_fst (fun r9 H locs hw hP hD hS => ?_)
    have hc : ¬ (cSetRec F j p0 p1 p2) = 0 := fun z => hk (hkc.trans z)
    rw [if_neg hc, if_neg hc] at hP hD
    rw [if_neg hc] at hw
    subst hw
    have hP : va_P G vwCl (wX T Ad AF ho D mny N f g rk rf rg rh ++ cM T (Ad 5) (AF 8) (upd I1 17 (w3 ((cSetRec F j p0 p1 p2)))) F) H := hP
    have hD : va_D (gA s) (wX T Ad AF ho D mny N f g rk rf rg rh ++ cM T (Ad 5) (AF 8) (upd I1 17 (w3 ((cSetRec F j p0 p1 p2)))) F) := hD
    refine lv_istore (lv' := [(6, .int (0)), (5, .int (w3 ((kSetRec (N j) p0 p1 p2)))), (0, .ref b), (1, .ref (Ad 1)), (2, .ref (Ad 5)), (3, .ref (Ad 0)), (4, .int (nI q))]) hx hb dL_law_559 hl (by decide) rfl (fun ls hl => ?_)
    refine lv_aload_n hx hb dL_law_561 rfl (lv_at hl 4 rfl) ?_
    refine gciT (X := wX T Ad AF ho D mny N f g rk rf rg rh) (va_runV (As := []) (rest := []) ⟨hx, hb, hml, hown, hts⟩ (kX3_thrown l G T (Ad 5) (AF 8) (upd I1 17 (w3 ((cSetRec F j p0 p1 p2)))) F _) (cwV 0 hts gL_law_X3_thrown rfl rfl rfl (by decide +kernel) ⟨Nat.le_of_ble_eq_true rfl, Nat.le_of_ble_eq_true rfl⟩) ⟨gblind, va_recv hK hP (ci := 3) (q0 := 68) rfl (wL_m (ho1 := ho) (D1 := D) (m1 := mny)), gpreT (X := wX T Ad AF ho D mny N f g rk rf rg rh) hE hK hP hD hS hA⟩ rfl rfl hl.1 rfl (lv_room (Nat.le_of_ble_eq_true rfl)) dL_law_562 ⟨Nat.le_trans (by omega) hcl, Nat.le_trans (by omega) hsl⟩) hP hD hS hA cM_fst (fun r9 H locs hw hP hD hS => ?_)
    refine gtop (y := w3 ((kSetRec (N j) p0 p1 p2))) (hw.trans (show w3 ((cSetRec F j p0 p1 p2)) = w3 ((kSetRec (N j) p0 p1 p2)) by rw [hkc])) ?_
    refine lv_iload hx hb dL_law_565 (lv_at hl 1 rfl) ?_
    refine lv_icmp_eq (tgt := 572) hx hb dL_law_567 (by decide) (fun _ => ?_) (fun c9 => absurd rfl c9)
    refine lv_iload hx hb dL_law_572 (lv_at hl 1 rfl) ?_
    refine lv_if_ne (tgt := 589) hx hb dL_law_574 (by decide) (fun _ => ?_) (fun c9 => absurd c9 (w3_ne _ hk))
    refine lv_goto (tgt := 1261) hx hb dL_law_589 (by decide) ?_
    refine W.widen (k := cells + 5) (n := slots + 30) (by omega) (by omega) ?_
    exact kk _ _ _ ⟨_, _, _, _, _, _, _, _, _, _, _, _, hR.idle _, hP, hD, hS⟩ (lv_sub hl [2, 3, 4, 5, 6] rfl)
set_option maxHeartbeats 8000000 in
set_option maxRecDepth 100000 in
theorem op_takings (C : gLC p s m c b L xs G T aK aV) (hl0 : l.stackTraces = false) (hcl : cells + 5 ≤ 631168) (hsl : slots + 30 ≤ 7202601) (hn : n < 512) (hq : q + 4 ≤ L) (h : gLS n G T Ad AF s H locs) (hl : lv_has ls 7 [(0, .ref b), (1, .ref (Ad 1)), (2, .ref (Ad 5)), (3, .ref (Ad 0)), (4, .int (nI q))])
    (kk : ∀ (H : Heap) (locs : List Loc) (ls : Array Slot), gLS (n + 1) G T Ad AF s H locs → lv_has ls 7 [(0, .ref b), (1, .ref (Ad 1)), (2, .ref (Ad 5)), (3, .ref (Ad 0)), (4, .int (nI q))] → W p l e room_1 s m #[Value.ref b] below meth c H locs (cells + 5) (slots + 30) Q (F0 m 1261 ls [])) : W p l e room_1 s m #[Value.ref b] below meth c H locs cells slots Q (F0 m 1049 ls []) := by
  obtain ⟨hx, hb, hml, hown, hts, hX, hbl, hK, hE, hWs, hL⟩ := id C
  have hA : ∀ q : Nat, s.heap.size ≤ q → gA s q := fun _ h => h
  have hbA : ¬ gA s b := Nat.not_le.mpr hbl
  obtain ⟨D, mny, N, f, g, rk, rf, rg, rh, I1, F, ho, hR, hP, hD, hS⟩ := h
  refine lv_aload_n hx hb dL_law_1049 rfl (lv_at hl 1 rfl) ?_
  refine gci (va_runV (As := []) (rest := []) ⟨hx, hb, hml, hown, hts⟩ (kX2_takings l G T (Ad 1) (Ad 2) (Ad 3) (Ad 4) D mny (AF 0) (AF 3) _) (cwV 0 hts gL_law_X2_takings rfl rfl rfl (by decide +kernel) ⟨Nat.le_of_ble_eq_true rfl, Nat.le_of_ble_eq_true rfl⟩) ⟨gblind, va_recv hK hP (ci := 2) (q0 := 1) rfl (wL_1 (ho1 := ho) (D1 := D) (m1 := mny)), gpre hE hK hP hD hS hA [1, 2, 3, 4] rfl (wL_cutC (ho1 := ho) (D1 := D) (m1 := mny))⟩ rfl rfl hl.1 rfl (lv_room (Nat.le_of_ble_eq_true rfl)) dL_law_1050 ⟨Nat.le_trans (by omega) hcl, Nat.le_trans (by omega) hsl⟩) hP hD hS hA [1, 2, 3, 4] (wL_cutC (ho1 := ho) (D1 := D) (m1 := mny)) rfl (fun r9 H locs hw hP hD hS => ?_)
  have hP := gfin hP (wL_repC (ho1 := ho) (D1 := D) (m1 := mny))
  have hD := gfinD hD (wL_repC (ho1 := ho) (D1 := D) (m1 := mny))
  subst hw
  refine lv_aload_n hx hb dL_law_1053 rfl (lv_at hl 2 rfl) ?_
  refine gciT (X := wX T Ad AF ho D mny N f g rk rf rg rh) (va_runV (As := []) (rest := [.int (D 4)]) ⟨hx, hb, hml, hown, hts⟩ (kX3_takings l G T (Ad 5) (AF 8) I1 F _) (cwV 0 hts gL_law_X3_takings rfl rfl rfl (by decide +kernel) ⟨Nat.le_of_ble_eq_true rfl, Nat.le_of_ble_eq_true rfl⟩) ⟨gblind, va_recv hK hP (ci := 3) (q0 := 68) rfl (wL_m (ho1 := ho) (D1 := D) (m1 := mny)), gpreT (X := wX T Ad AF ho D mny N f g rk rf rg rh) hE hK hP hD hS hA⟩ rfl rfl hl.1 rfl (lv_room (Nat.le_of_ble_eq_true rfl)) dL_law_1054 ⟨Nat.le_trans (by omega) hcl, Nat.le_trans (by omega) hsl⟩) hP hD hS hA cM_fst (fun r9 H locs hw hP hD hS => ?_)
  subst hw
  refine lv_icmp_eq (tgt := 1261) hx hb dL_law_1057 (by decide) (fun _ => ?_) (fun c9 => absurd (hR.tk.2) c9)
  refine W.widen (k := cells + 5) (n := slots + 30) (by omega) (by omega) ?_
  exact kk _ _ _ ⟨_, _, _, _, _, _, _, _, _, _, _, _, hR.idle 0, hP, hD, hS⟩ (lv_sub hl [0, 1, 2, 3, 4] rfl)
end LAWOPS
