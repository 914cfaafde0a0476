section LAWOPS
variable {p : Program} {l : Launch} {e : Env} {s : State} {m : MethodId} {below : List Frame} {meth : Method} {c : Code} {b L : Nat} {xs : Nat → Int32} {G : va_G} {T : Nat → ClassId} {aK aV : Nat → Nat} {Ad : Nat → Nat} {AF : Nat → Nat → Nat} {H : Heap} {locs : List Loc} {ls : Array Slot} {cells slots n q : Nat} {Q : State → Prop}
set_option maxHeartbeats 8000000 in
set_option maxRecDepth 100000 in
theorem op_state (C : gLC p s m c b L xs G T aK aV) (hl0 : l.stackTraces = false) (hcl : cells + 5 ≤ 631168) (hsl : slots + 30 ≤ 7202601) (hn : n < 512) (hq : q + 4 ≤ L) (h : gLS n G T Ad AF s H locs) (hl : lv_has ls 7 [(0, .ref b), (1, .ref (Ad 1)), (2, .ref (Ad 5)), (3, .ref (Ad 0)), (4, .int (nI q))])
    (kk : ∀ (H : Heap) (locs : List Loc) (ls : Array Slot), gLS (n + 1) G T Ad AF s H locs → lv_has ls 7 [(0, .ref b), (1, .ref (Ad 1)), (2, .ref (Ad 5)), (3, .ref (Ad 0)), (4, .int (nI q))] → W p l e room_1 s m #[Value.ref b] below meth c H locs (cells + 5) (slots + 30) Q (F0 m 1261 ls [])) : W p l e room_1 s m #[Value.ref b] below meth c H locs cells slots Q (F0 m 592 ls []) := by
  obtain ⟨hx, hb, hml, hown, hts, hX, hbl, hK, hE, hWs, hL⟩ := id C
  have hA : ∀ q : Nat, s.heap.size ≤ q → gA s q := fun _ h => h
  have hbA : ¬ gA s b := Nat.not_le.mpr hbl
  obtain ⟨D, mny, N, f, g, rk, rf, rg, rh, I1, F, ho, hR, hP, hD, hS⟩ := h
  obtain ⟨p0, e0⟩ : ∃ y : Int32, y = xs (q + 1) := ⟨_, rfl⟩
  obtain ⟨j, hj6, hj⟩ := ixN p0
  obtain ⟨c9, hN⟩ := hR.name hj6
  refine lv_aload_n hx hb dL_law_592 rfl (lv_at hl 1 rfl) ?_
  refine lv_aload_n hx hb dL_law_593 rfl (lv_at hl 0 rfl) ?_
  refine lv_iload hx hb dL_law_594 (lv_at hl 4 rfl) ?_
  refine lv_iconst (v := 1) hx hb dL_law_596 (by decide) ?_
  refine lv_iadd hx hb dL_law_597 ?_
  refine gtop (y := nI (q + 1)) (nI_add q 1) ?_
  refine gsld hx hb hX hbl hbA hS (j := q + 1) (by omega) (by omega) e0 dL_law_598 ?_
  refine lv_aload_n hx hb dL_law_599 rfl (lv_at hl 3 rfl) ?_
  by_cases hk : (kNam p0) = 0
  · skip
    refine gci (vx_runSW (As := [.ref (Ad 1), .int p0, .ref (Ad 0)]) (rest := []) ⟨hx, hb, hml, hown, hts⟩ (kL_state_ok l hl0 G T (Ad 1) (Ad 2) (Ad 3) (Ad 4) D mny (AF 0) (AF 3) j (AF 1 j) (AF 2 j) (N j) (f j) (g j) p0 (Ad 0) ho _ hj hk) (vx_cwSW 3 hts gL_law_L_state rfl rfl rfl (by decide +kernel) ⟨Nat.le_of_ble_eq_true rfl, Nat.le_of_ble_eq_true rfl⟩) ⟨gblind, gpre hE hK hP hD hS hA [0, 1, 2, 3, 4, 5 + 3 * j, 6 + 3 * j, 7 + 3 * j] (wL_ndN hj6) (wL_cutN (ho1 := ho) (D1 := D) (m1 := mny) hj6)⟩ rfl rfl hl.1 rfl (lv_room (Nat.le_of_ble_eq_true rfl)) dL_law_600 ⟨Nat.le_trans (by omega) hcl, Nat.le_trans (by omega) hsl⟩) hP hD hS hA [0, 1, 2, 3, 4, 5 + 3 * j, 6 + 3 * j, 7 + 3 * j] (wL_cutN (ho1 := ho) (D1 := D) (m1 := mny) hj6) rfl (fun r9 H locs hw hP hD hS => ?_)
    have hP := gfin hP (wL_repN hj6)
    have hD := gfinD hD (wL_repN hj6)
    try simp only [updA_self] at hP hD
    have hP : va_P G vwCl (wX T Ad AF (vp_updL ho 0 (((N j 0)).toInt64)) D mny N f g rk rf rg rh ++ cM T (Ad 5) (AF 8) I1 F) H := hP
    have hD : va_D (gA s) (wX T Ad AF (vp_updL ho 0 (((N j 0)).toInt64)) D mny N f g rk rf rg rh ++ cM T (Ad 5) (AF 8) I1 F) := hD
    subst hw
    have hkc : (kNam p0) = (kNam p0) := rfl
    have hsim : (kNam p0) = 0 → (N j 0) = (F 3 j) ∧ REL (n + 1) D mny N f g rk rf rg rh (upd I1 17 0) F := fun _ => ⟨hN.1.1, hR.idle 0⟩
    refine lv_istore (lv' := [(5, .int 0), (0, .ref b), (1, .ref (Ad 1)), (2, .ref (Ad 5)), (3, .ref (Ad 0)), (4, .int (nI q))]) hx hb dL_law_603 hl (by decide) rfl (fun ls hl => ?_)
    refine lv_aload_n hx hb dL_law_605 rfl (lv_at hl 3 rfl) ?_
    refine lv_aload_n hx hb dL_law_606 rfl (lv_at hl 1 rfl) ?_
    refine lv_iload hx hb dL_law_607 (lv_at hl 5 rfl) ?_
    refine lv_iconst (v := 1) hx hb dL_law_609 (by decide) ?_
    refine lv_iadd hx hb dL_law_610 ?_
    refine gtop (y := nI (q + 1)) (nI_add q 1) ?_
    refine gsld hx hb hX hbl hbA hS (j := q + 1) (by omega) (by omega) e0 dL_law_611 ?_
    refine gciT (X := wX T Ad AF (vp_updL ho 0 (((N j 0)).toInt64)) D mny N f g rk rf rg rh) (va_runV (As := [.int p0]) (rest := []) ⟨hx, hb, hml, hown, hts⟩ (kX3_state l G T (Ad 5) (AF 8) I1 F j p0 _ hj) (cwV 1 hts gL_law_X3_state rfl rfl rfl (by decide +kernel) ⟨Nat.le_of_ble_eq_true rfl, Nat.le_of_ble_eq_true rfl⟩) ⟨gblind, va_recv hK hP (ci := 3) (q0 := 68) rfl (wL_m (ho1 := ho) (D1 := D) (m1 := mny)), gpreT (X := wX T Ad AF (vp_updL ho 0 (((N j 0)).toInt64)) D mny N f g rk rf rg rh) hE hK hP hD hS hA⟩ rfl rfl hl.1 rfl (lv_room (Nat.le_of_ble_eq_true rfl)) dL_law_612 ⟨Nat.le_trans (by omega) hcl, Nat.le_trans (by omega) hsl⟩) hP hD hS hA cM_fst (fun r9 H locs hw hP hD hS => ?_)
    have hc : (kNam p0) = 0 := hkc.symm.trans hk
    rw [if_pos hc, if_pos hc] at hP hD
    rw [if_pos hc] at hw
    subst hw
    have hP : va_P G vwCl (wX T Ad AF (vp_updL ho 0 (((N j 0)).toInt64)) D mny N f g rk rf rg rh ++ cM T (Ad 5) (AF 8) (upd I1 17 0) F) H := hP
    have hD : va_D (gA s) (wX T Ad AF (vp_updL ho 0 (((N j 0)).toInt64)) D mny N f g rk rf rg rh ++ cM T (Ad 5) (AF 8) (upd I1 17 0) F) := hD
    refine lv_istore (lv' := [(6, .int ((F 3 j))), (5, .int 0), (0, .ref b), (1, .ref (Ad 1)), (2, .ref (Ad 5)), (3, .ref (Ad 0)), (4, .int (nI q))]) hx hb dL_law_615 hl (by decide) rfl (fun ls hl => ?_)
    refine lv_aload_n hx hb dL_law_617 rfl (lv_at hl 4 rfl) ?_
    refine gciT (X := wX T Ad AF (vp_updL ho 0 (((N j 0)).toInt64)) D mny N f g rk rf rg rh) (va_runV (As := []) (rest := []) ⟨hx, hb, hml, hown, hts⟩ (kX3_thrown l G T (Ad 5) (AF 8) (upd I1 17 0) F _) (cwV 0 hts gL_law_X3_thrown rfl rfl rfl (by decide +kernel) ⟨Nat.le_of_ble_eq_true rfl, Nat.le_of_ble_eq_true rfl⟩) ⟨gblind, va_recv hK hP (ci := 3) (q0 := 68) rfl (wL_m (ho1 := ho) (D1 := D) (m1 := mny)), gpreT (X := wX T Ad AF (vp_updL ho 0 (((N j 0)).toInt64)) D mny N f g rk rf rg rh) hE hK hP hD hS hA⟩ rfl rfl hl.1 rfl (lv_room (Nat.le_of_ble_eq_true rfl)) dL_law_618 ⟨Nat.le_trans (by omega) hcl, Nat.le_trans (by omega) hsl⟩) hP hD hS hA cM_fst (fun r9 H locs hw hP hD hS => ?_)
    refine gtop (y := 0) hw ?_
    refine lv_iload hx hb dL_law_621 (lv_at hl 1 rfl) ?_
    refine lv_icmp_eq (tgt := 628) hx hb dL_law_623 (by decide) (fun _ => ?_) (fun c9 => absurd rfl c9)
    refine lv_iload hx hb dL_law_628 (lv_at hl 1 rfl) ?_
    refine lv_if_ne (tgt := 645) hx hb dL_law_630 (by decide) (fun c9 => absurd rfl c9) (fun _ => ?_)
    refine lv_aload_n hx hb dL_law_633 rfl (lv_at hl 5 rfl) ?_
    refine lv_iconst (v := 0) hx hb dL_law_634 (by decide) ?_
    refine glald (j := 0) hx hb hK hP 0 4 (wL_0 (ho1 := ho) (D1 := D) (m1 := mny)) rfl (show (0 : Int32) = nI 0 from rfl) (by omega) (by decide) dL_law_635 ?_
    obtain ⟨ea, hrel⟩ := hsim hk
    refine lv_iload hx hb dL_law_636 (lv_at hl 0 rfl) ?_
    refine lv_i2l (v := ((F 3 j)).toInt64) hx hb dL_law_638 rfl ?_
    refine W.lcmp hx hb dL_law_639 ?_
    refine gtop (y := 0) (lcmp0 (show ((N j 0)).toInt64 = ((F 3 j)).toInt64 from congrArg Int32.toInt64 ea)) ?_
    refine lv_if_eq (tgt := 645) hx hb dL_law_640 (by decide) (fun _ => ?_) (fun c9 => absurd rfl c9)
    refine lv_goto (tgt := 1261) hx hb dL_law_645 (by decide) ?_
    refine W.widen (k := cells + 5) (n := slots + 30) (by omega) (by omega) ?_
    exact kk _ _ _ ⟨_, _, _, _, _, _, _, _, _, _, _, _, hrel, hP, hD, hS⟩ (lv_sub hl [2, 3, 4, 5, 6] rfl)
  · skip
    refine gci (vx_runSW (As := [.ref (Ad 1), .int p0, .ref (Ad 0)]) (rest := []) ⟨hx, hb, hml, hown, hts⟩ (kL_state_no l hl0 G T (Ad 1) (Ad 2) (Ad 3) (Ad 4) D mny (AF 0) (AF 3) j (AF 1 j) (AF 2 j) (N j) (f j) (g j) p0 (Ad 0) ho _ hj hk) (vx_cwSW 3 hts gL_law_L_state rfl rfl rfl (by decide +kernel) ⟨Nat.le_of_ble_eq_true rfl, Nat.le_of_ble_eq_true rfl⟩) ⟨gblind, gpre hE hK hP hD hS hA [0, 1, 2, 3, 4, 5 + 3 * j, 6 + 3 * j, 7 + 3 * j] (wL_ndN hj6) (wL_cutN (ho1 := ho) (D1 := D) (m1 := mny) hj6)⟩ rfl rfl hl.1 rfl (lv_room (Nat.le_of_ble_eq_true rfl)) dL_law_600 ⟨Nat.le_trans (by omega) hcl, Nat.le_trans (by omega) hsl⟩) hP hD hS hA [0, 1, 2, 3, 4, 5 + 3 * j, 6 + 3 * j, 7 + 3 * j] (wL_cutN (ho1 := ho) (D1 := D) (m1 := mny) hj6) rfl (fun r9 H locs hw hP hD hS => ?_)
    have hP := gfin hP (wL_repN hj6)
    have hD := gfinD hD (wL_repN hj6)
    try simp only [updA_self] at hP hD
    have hP : va_P G vwCl (wX T Ad AF ho D mny N f g rk rf rg rh ++ cM T (Ad 5) (AF 8) I1 F) H := hP
    have hD : va_D (gA s) (wX T Ad AF ho D mny N f g rk rf rg rh ++ cM T (Ad 5) (AF 8) I1 F) := hD
    subst hw
    have hkc : (kNam p0) = (kNam p0) := rfl
    have hsim : (kNam p0) = 0 → (N j 0) = (F 3 j) ∧ REL (n + 1) D mny N f g rk rf rg rh (upd I1 17 0) F := fun _ => ⟨hN.1.1, hR.idle 0⟩
    refine lv_istore (lv' := [(5, .int (w3 ((kNam p0)))), (0, .ref b), (1, .ref (Ad 1)), (2, .ref (Ad 5)), (3, .ref (Ad 0)), (4, .int (nI q))]) hx hb dL_law_603 hl (by decide) rfl (fun ls hl => ?_)
    refine lv_aload_n hx hb dL_law_605 rfl (lv_at hl 3 rfl) ?_
    refine lv_aload_n hx hb dL_law_606 rfl (lv_at hl 1 rfl) ?_
    refine lv_iload hx hb dL_law_607 (lv_at hl 5 rfl) ?_
    refine lv_iconst (v := 1) hx hb dL_law_609 (by decide) ?_
    refine lv_iadd hx hb dL_law_610 ?_
    refine gtop (y := nI (q + 1)) (nI_add q 1) ?_
    refine gsld hx hb hX hbl hbA hS (j := q + 1) (by omega) (by omega) e0 dL_law_611 ?_
    refine gciT (X := wX T Ad AF ho D mny N f g rk rf rg rh) (va_runV (As := [.int p0]) (rest := []) ⟨hx, hb, hml, hown, hts⟩ (kX3_state l G T (Ad 5) (AF 8) I1 F j p0 _ hj) (cwV 1 hts gL_law_X3_state rfl rfl rfl (by decide +kernel) ⟨Nat.le_of_ble_eq_true rfl, Nat.le_of_ble_eq_true rfl⟩) ⟨gblind, va_recv hK hP (ci := 3) (q0 := 68) rfl (wL_m (ho1 := ho) (D1 := D) (m1 := mny)), gpreT (X := wX T Ad AF ho D mny N f g rk rf rg rh) hE hK hP hD hS hA⟩ rfl rfl hl.1 rfl (lv_room (Nat.le_of_ble_eq_true rfl)) dL_law_612 ⟨Nat.le_trans (by omega) hcl, Nat.le_trans (by omega) hsl⟩) hP hD hS hA cM_fst (fun r9 H locs hw hP hD hS => ?_)
    have hc : ¬ (kNam p0) = 0 := fun z => hk (hkc.trans z)
    rw [if_neg hc, if_neg hc] at hP hD
    rw [if_neg hc] at hw
    subst hw
    have hP : va_P G vwCl (wX T Ad AF ho D mny N f g rk rf rg rh ++ cM T (Ad 5) (AF 8) (upd I1 17 (w3 ((kNam p0)))) F) H := hP
    have hD : va_D (gA s) (wX T Ad AF ho D mny N f g rk rf rg rh ++ cM T (Ad 5) (AF 8) (upd I1 17 (w3 ((kNam p0)))) F) := hD
    refine lv_istore (lv' := [(6, .int (0)), (5, .int (w3 ((kNam p0)))), (0, .ref b), (1, .ref (Ad 1)), (2, .ref (Ad 5)), (3, .ref (Ad 0)), (4, .int (nI q))]) hx hb dL_law_615 hl (by decide) rfl (fun ls hl => ?_)
    refine lv_aload_n hx hb dL_law_617 rfl (lv_at hl 4 rfl) ?_
    refine gciT (X := wX T Ad AF ho D mny N f g rk rf rg rh) (va_runV (As := []) (rest := []) ⟨hx, hb, hml, hown, hts⟩ (kX3_thrown l G T (Ad 5) (AF 8) (upd I1 17 (w3 ((kNam p0)))) F _) (cwV 0 hts gL_law_X3_thrown rfl rfl rfl (by decide +kernel) ⟨Nat.le_of_ble_eq_true rfl, Nat.le_of_ble_eq_true rfl⟩) ⟨gblind, va_recv hK hP (ci := 3) (q0 := 68) rfl (wL_m (ho1 := ho) (D1 := D) (m1 := mny)), gpreT (X := wX T Ad AF ho D mny N f g rk rf rg rh) hE hK hP hD hS hA⟩ rfl rfl hl.1 rfl (lv_room (Nat.le_of_ble_eq_true rfl)) dL_law_618 ⟨Nat.le_trans (by omega) hcl, Nat.le_trans (by omega) hsl⟩) hP hD hS hA cM_fst (fun r9 H locs hw hP hD hS => ?_)
    refine gtop (y := w3 ((kNam p0))) (hw.trans (show w3 ((kNam p0)) = w3 ((kNam p0)) by rw [hkc])) ?_
    refine lv_iload hx hb dL_law_621 (lv_at hl 1 rfl) ?_
    refine lv_icmp_eq (tgt := 628) hx hb dL_law_623 (by decide) (fun _ => ?_) (fun c9 => absurd rfl c9)
    refine lv_iload hx hb dL_law_628 (lv_at hl 1 rfl) ?_
    refine lv_if_ne (tgt := 645) hx hb dL_law_630 (by decide) (fun _ => ?_) (fun c9 => absurd c9 (w3_ne _ hk))
    refine lv_goto (tgt := 1261) hx hb dL_law_645 (by decide) ?_
    refine W.widen (k := cells + 5) (n := slots + 30) (by omega) (by omega) ?_
    exact kk _ _ _ ⟨_, _, _, _, _, _, _, _, _, _, _, _, hR.idle _, hP, hD, hS⟩ (lv_sub hl [2, 3, 4, 5, 6] rfl)
set_option maxHeartbeats 8000000 in
set_option maxRecDepth 100000 in
theorem op_sign (C : gLC p s m c b L xs G T aK aV) (hl0 : l.stackTraces = false) (hcl : cells + 5 ≤ 631168) (hsl : slots + 30 ≤ 7202601) (hn : n < 512) (hq : q + 4 ≤ L) (h : gLS n G T Ad AF s H locs) (hl : lv_has ls 7 [(0, .ref b), (1, .ref (Ad 1)), (2, .ref (Ad 5)), (3, .ref (Ad 0)), (4, .int (nI q))])
    (kk : ∀ (H : Heap) (locs : List Loc) (ls : Array Slot), gLS (n + 1) G T Ad AF s H locs → lv_has ls 7 [(0, .ref b), (1, .ref (Ad 1)), (2, .ref (Ad 5)), (3, .ref (Ad 0)), (4, .int (nI q))] → W p l e room_1 s m #[Value.ref b] below meth c H locs (cells + 5) (slots + 30) Q (F0 m 1261 ls [])) : W p l e room_1 s m #[Value.ref b] below meth c H locs cells slots Q (F0 m 648 ls []) := by
  obtain ⟨hx, hb, hml, hown, hts, hX, hbl, hK, hE, hWs, hL⟩ := id C
  have hA : ∀ q : Nat, s.heap.size ≤ q → gA s q := fun _ h => h
  have hbA : ¬ gA s b := Nat.not_le.mpr hbl
  obtain ⟨D, mny, N, f, g, rk, rf, rg, rh, I1, F, ho, hR, hP, hD, hS⟩ := h
  obtain ⟨p0, e0⟩ : ∃ y : Int32, y = xs (q + 1) := ⟨_, rfl⟩
  obtain ⟨p1, e1⟩ : ∃ y : Int32, y = xs (q + 2) := ⟨_, rfl⟩
  obtain ⟨j, hj6, hj⟩ := ixN p0
  have hs9 := sign_st hR hj6
  refine lv_aload_n hx hb dL_law_648 rfl (lv_at hl 1 rfl) ?_
  refine lv_aload_n hx hb dL_law_649 rfl (lv_at hl 0 rfl) ?_
  refine lv_iload hx hb dL_law_650 (lv_at hl 4 rfl) ?_
  refine lv_iconst (v := 1) hx hb dL_law_652 (by decide) ?_
  refine lv_iadd hx hb dL_law_653 ?_
  refine gtop (y := nI (q + 1)) (nI_add q 1) ?_
  refine gsld hx hb hX hbl hbA hS (j := q + 1) (by omega) (by omega) e0 dL_law_654 ?_
  refine lv_aload_n hx hb dL_law_655 rfl (lv_at hl 0 rfl) ?_
  refine lv_iload hx hb dL_law_656 (lv_at hl 4 rfl) ?_
  refine lv_iconst (v := 2) hx hb dL_law_658 (by decide) ?_
  refine lv_iadd hx hb dL_law_659 ?_
  refine gtop (y := nI (q + 2)) (nI_add q 2) ?_
  refine gsld hx hb hX hbl hbA hS (j := q + 2) (by omega) (by omega) e1 dL_law_660 ?_
  refine lv_aload_n hx hb dL_law_661 rfl (lv_at hl 3 rfl) ?_
  by_cases hk : (kSign (N j) p0 p1) = 0
  · skip
    refine gci (vx_runSW (As := [.ref (Ad 1), .int p0, .int p1, .ref (Ad 0)]) (rest := []) ⟨hx, hb, hml, hown, hts⟩ (kL_sign_ok l hl0 G T aK aV (Ad 1) (Ad 2) (Ad 3) (Ad 4) D mny (AF 0) (AF 3) j (AF 1 j) (AF 2 j) (N j) (f j) (g j) p0 p1 (Ad 0) ho _ hj hk) (vx_cwSW 4 hts gL_law_L_sign rfl rfl rfl (by decide +kernel) ⟨Nat.le_of_ble_eq_true rfl, Nat.le_of_ble_eq_true rfl⟩) ⟨gblindW, gpreW hWs hE hK hP hD hS hA [0, 1, 2, 3, 4, 5 + 3 * j, 6 + 3 * j, 7 + 3 * j] (wL_ndN hj6) (wL_cutN (ho1 := ho) (D1 := D) (m1 := mny) hj6)⟩ rfl rfl hl.1 rfl (lv_room (Nat.le_of_ble_eq_true rfl)) dL_law_662 ⟨Nat.le_trans (by omega) hcl, Nat.le_trans (by omega) hsl⟩) hP hD hS hA [0, 1, 2, 3, 4, 5 + 3 * j, 6 + 3 * j, 7 + 3 * j] (wL_cutN (ho1 := ho) (D1 := D) (m1 := mny) hj6) rfl (fun r9 H locs hw hP hD hS => ?_)
    have hP := gfin hP (wL_repN hj6)
    have hD := gfinD hD (wL_repN hj6)
    try simp only [updA_self] at hP hD
    have hP : va_P G vwCl (wX T Ad AF (vp_updL ho 0 (((sSign (N j) p1)).toInt64)) D mny N f g rk rf rg rh ++ cM T (Ad 5) (AF 8) I1 F) H := hP
    have hD : va_D (gA s) (wX T Ad AF (vp_updL ho 0 (((sSign (N j) p1)).toInt64)) D mny N f g rk rf rg rh ++ cM T (Ad 5) (AF 8) I1 F) := hD
    subst hw
    obtain ⟨hkc, hsim⟩ := sim_sign hR (p0 := p0) (p1 := p1) hj6
    refine lv_istore (lv' := [(5, .int 0), (0, .ref b), (1, .ref (Ad 1)), (2, .ref (Ad 5)), (3, .ref (Ad 0)), (4, .int (nI q))]) hx hb dL_law_665 hl (by decide) rfl (fun ls hl => ?_)
    refine lv_aload_n hx hb dL_law_667 rfl (lv_at hl 3 rfl) ?_
    refine lv_aload_n hx hb dL_law_668 rfl (lv_at hl 1 rfl) ?_
    refine lv_iload hx hb dL_law_669 (lv_at hl 5 rfl) ?_
    refine lv_iconst (v := 1) hx hb dL_law_671 (by decide) ?_
    refine lv_iadd hx hb dL_law_672 ?_
    refine gtop (y := nI (q + 1)) (nI_add q 1) ?_
    refine gsld hx hb hX hbl hbA hS (j := q + 1) (by omega) (by omega) e0 dL_law_673 ?_
    refine lv_aload_n hx hb dL_law_674 rfl (lv_at hl 1 rfl) ?_
    refine lv_iload hx hb dL_law_675 (lv_at hl 5 rfl) ?_
    refine lv_iconst (v := 2) hx hb dL_law_677 (by decide) ?_
    refine lv_iadd hx hb dL_law_678 ?_
    refine gtop (y := nI (q + 2)) (nI_add q 2) ?_
    refine gsld hx hb hX hbl hbA hS (j := q + 2) (by omega) (by omega) e1 dL_law_679 ?_
    refine gciT (X := wX T Ad AF (vp_updL ho 0 (((sSign (N j) p1)).toInt64)) D mny N f g rk rf rg rh) (va_runV (As := [.int p0, .int p1]) (rest := []) ⟨hx, hb, hml, hown, hts⟩ (kX3_sign l G T (Ad 5) (AF 8) I1 F j p0 p1 _ hj hs9) (cwV 2 hts gL_law_X3_sign rfl rfl rfl (by decide +kernel) ⟨Nat.le_of_ble_eq_true rfl, Nat.le_of_ble_eq_true rfl⟩) ⟨gblind, va_recv hK hP (ci := 3) (q0 := 68) rfl (wL_m (ho1 := ho) (D1 := D) (m1 := mny)), gpreT (X := wX T Ad AF (vp_updL ho 0 (((sSign (N j) p1)).toInt64)) D mny N f g rk rf rg rh) hE hK hP hD hS hA⟩ rfl rfl hl.1 rfl (lv_room (Nat.le_of_ble_eq_true rfl)) dL_law_680 ⟨Nat.le_trans (by omega) hcl, Nat.le_trans (by omega) hsl⟩) hP hD hS hA cM_fst (fun r9 H locs hw hP hD hS => ?_)
    have hc : (cSign F j p0 p1) = 0 := hkc.symm.trans hk
    rw [if_pos hc, if_pos hc] at hP hD
    rw [if_pos hc] at hw
    subst hw
    have hP : va_P G vwCl (wX T Ad AF (vp_updL ho 0 (((sSign (N j) p1)).toInt64)) D mny N f g rk rf rg rh ++ cM T (Ad 5) (AF 8) (upd I1 17 0) F) H := hP
    have hD : va_D (gA s) (wX T Ad AF (vp_updL ho 0 (((sSign (N j) p1)).toInt64)) D mny N f g rk rf rg rh ++ cM T (Ad 5) (AF 8) (upd I1 17 0) F) := hD
    refine lv_istore (lv' := [(6, .int ((mSgn F j p1))), (5, .int 0), (0, .ref b), (1, .ref (Ad 1)), (2, .ref (Ad 5)), (3, .ref (Ad 0)), (4, .int (nI q))]) hx hb dL_law_683 hl (by decide) rfl (fun ls hl => ?_)
    refine lv_aload_n hx hb dL_law_685 rfl (lv_at hl 4 rfl) ?_
    refine gciT (X := wX T Ad AF (vp_updL ho 0 (((sSign (N j) p1)).toInt64)) D mny N f g rk rf rg rh) (va_runV (As := []) (rest := []) ⟨hx, hb, hml, hown, hts⟩ (kX3_thrown l G T (Ad 5) (AF 8) (upd I1 17 0) F _) (cwV 0 hts gL_law_X3_thrown rfl rfl rfl (by decide +kernel) ⟨Nat.le_of_ble_eq_true rfl, Nat.le_of_ble_eq_true rfl⟩) ⟨gblind, va_recv hK hP (ci := 3) (q0 := 68) rfl (wL_m (ho1 := ho) (D1 := D) (m1 := mny)), gpreT (X := wX T Ad AF (vp_updL ho 0 (((sSign (N j) p1)).toInt64)) D mny N f g rk rf rg rh) hE hK hP hD hS hA⟩ rfl rfl hl.1 rfl (lv_room (Nat.le_of_ble_eq_true rfl)) dL_law_686 ⟨Nat.le_trans (by omega) hcl, Nat.le_trans (by omega) hsl⟩) hP hD hS hA cM_fst (fun r9 H locs hw hP hD hS => ?_)
    refine gtop (y := 0) hw ?_
    refine lv_iload hx hb dL_law_689 (lv_at hl 1 rfl) ?_
    refine lv_icmp_eq (tgt := 696) hx hb dL_law_691 (by decide) (fun _ => ?_) (fun c9 => absurd rfl c9)
    refine lv_iload hx hb dL_law_696 (lv_at hl 1 rfl) ?_
    refine lv_if_ne (tgt := 713) hx hb dL_law_698 (by decide) (fun c9 => absurd rfl c9) (fun _ => ?_)
    refine lv_aload_n hx hb dL_law_701 rfl (lv_at hl 5 rfl) ?_
    refine lv_iconst (v := 0) hx hb dL_law_702 (by decide) ?_
    refine glald (j := 0) hx hb hK hP 0 4 (wL_0 (ho1 := ho) (D1 := D) (m1 := mny)) rfl (show (0 : Int32) = nI 0 from rfl) (by omega) (by decide) dL_law_703 ?_
    obtain ⟨ea, hrel⟩ := hsim hk
    refine lv_iload hx hb dL_law_704 (lv_at hl 0 rfl) ?_
    refine lv_i2l (v := ((mSgn F j p1)).toInt64) hx hb dL_law_706 rfl ?_
    refine W.lcmp hx hb dL_law_707 ?_
    refine gtop (y := 0) (lcmp0 (show ((sSign (N j) p1)).toInt64 = ((mSgn F j p1)).toInt64 from congrArg Int32.toInt64 ea)) ?_
    refine lv_if_eq (tgt := 713) hx hb dL_law_708 (by decide) (fun _ => ?_) (fun c9 => absurd rfl c9)
    refine lv_goto (tgt := 1261) hx hb dL_law_713 (by decide) ?_
    refine W.widen (k := cells + 5) (n := slots + 30) (by omega) (by omega) ?_
    exact kk _ _ _ ⟨_, _, _, _, _, _, _, _, _, _, _, _, hrel, hP, hD, hS⟩ (lv_sub hl [2, 3, 4, 5, 6] rfl)
  · skip
    refine gci (vx_runSW (As := [.ref (Ad 1), .int p0, .int p1, .ref (Ad 0)]) (rest := []) ⟨hx, hb, hml, hown, hts⟩ (kL_sign_no l hl0 G T aK aV (Ad 1) (Ad 2) (Ad 3) (Ad 4) D mny (AF 0) (AF 3) j (AF 1 j) (AF 2 j) (N j) (f j) (g j) p0 p1 (Ad 0) ho _ hj hk) (vx_cwSW 4 hts gL_law_L_sign rfl rfl rfl (by decide +kernel) ⟨Nat.le_of_ble_eq_true rfl, Nat.le_of_ble_eq_true rfl⟩) ⟨gblindW, gpreW hWs hE hK hP hD hS hA [0, 1, 2, 3, 4, 5 + 3 * j, 6 + 3 * j, 7 + 3 * j] (wL_ndN hj6) (wL_cutN (ho1 := ho) (D1 := D) (m1 := mny) hj6)⟩ rfl rfl hl.1 rfl (lv_room (Nat.le_of_ble_eq_true rfl)) dL_law_662 ⟨Nat.le_trans (by omega) hcl, Nat.le_trans (by omega) hsl⟩) hP hD hS hA [0, 1, 2, 3, 4, 5 + 3 * j, 6 + 3 * j, 7 + 3 * j] (wL_cutN (ho1 := ho) (D1 := D) (m1 := mny) hj6) rfl (fun r9 H locs hw hP hD hS => ?_)
    have hP := gfin hP (wL_repN hj6)
    have hD := gfinD hD (wL_repN hj6)
    try simp only [updA_self] at hP hD
    have hP : va_P G vwCl (wX T Ad AF ho D mny N f g rk rf rg rh ++ cM T (Ad 5) (AF 8) I1 F) H := hP
    have hD : va_D (gA s) (wX T Ad AF ho D mny N f g rk rf rg rh ++ cM T (Ad 5) (AF 8) I1 F) := hD
    subst hw
    obtain ⟨hkc, hsim⟩ := sim_sign hR (p0 := p0) (p1 := p1) hj6
    refine lv_istore (lv' := [(5, .int (w3 ((kSign (N j) p0 p1)))), (0, .ref b), (1, .ref (Ad 1)), (2, .ref (Ad 5)), (3, .ref (Ad 0)), (4, .int (nI q))]) hx hb dL_law_665 hl (by decide) rfl (fun ls hl => ?_)
    refine lv_aload_n hx hb dL_law_667 rfl (lv_at hl 3 rfl) ?_
    refine lv_aload_n hx hb dL_law_668 rfl (lv_at hl 1 rfl) ?_
    refine lv_iload hx hb dL_law_669 (lv_at hl 5 rfl) ?_
    refine lv_iconst (v := 1) hx hb dL_law_671 (by decide) ?_
    refine lv_iadd hx hb dL_law_672 ?_
    refine gtop (y := nI (q + 1)) (nI_add q 1) ?_
    refine gsld hx hb hX hbl hbA hS (j := q + 1) (by omega) (by omega) e0 dL_law_673 ?_
    refine lv_aload_n hx hb dL_law_674 rfl (lv_at hl 1 rfl) ?_
    refine lv_iload hx hb dL_law_675 (lv_at hl 5 rfl) ?_
    refine lv_iconst (v := 2) hx hb dL_law_677 (by decide) ?_
    refine lv_iadd hx hb dL_law_678 ?_
    refine gtop (y := nI (q + 2)) (nI_add q 2) ?_
    refine gsld hx hb hX hbl hbA hS (j := q + 2) (by omega) (by omega) e1 dL_law_679 ?_
    refine gciT (X := wX T Ad AF ho D mny N f g rk rf rg rh) (va_runV (As := [.int p0, .int p1]) (rest := []) ⟨hx, hb, hml, hown, hts⟩ (kX3_sign l G T (Ad 5) (AF 8) I1 F j p0 p1 _ hj hs9) (cwV 2 hts gL_law_X3_sign rfl rfl rfl (by decide +kernel) ⟨Nat.le_of_ble_eq_true rfl, Nat.le_of_ble_eq_true rfl⟩) ⟨gblind, va_recv hK hP (ci := 3) (q0 := 68) rfl (wL_m (ho1 := ho) (D1 := D) (m1 := mny)), gpreT (X := wX T Ad AF ho D mny N f g rk rf rg rh) hE hK hP hD hS hA⟩ rfl rfl hl.1 rfl (lv_room (Nat.le_of_ble_eq_true rfl)) dL_law_680 ⟨Nat.le_trans (by omega) hcl, Nat.le_trans (by omega) hsl⟩) hP hD hS hA cM_fst (fun r9 H locs hw hP hD hS => ?_)
    have hc : ¬ (cSign F j p0 p1) = 0 := fun z => hk (hkc.trans z)
    rw [if_neg hc, if_neg hc] at hP hD
    rw [if_neg hc] at hw
    subst hw
    have hP : va_P G vwCl (wX T Ad AF ho D mny N f g rk rf rg rh ++ cM T (Ad 5) (AF 8) (upd I1 17 (w3 ((cSign F j p0 p1)))) F) H := hP
    have hD : va_D (gA s) (wX T Ad AF ho D mny N f g rk rf rg rh ++ cM T (Ad 5) (AF 8) (upd I1 17 (w3 ((cSign F j p0 p1)))) F) := hD
    refine lv_istore (lv' := [(6, .int (32)), (5, .int (w3 ((kSign (N j) p0 p1)))), (0, .ref b), (1, .ref (Ad 1)), (2, .ref (Ad 5)), (3, .ref (Ad 0)), (4, .int (nI q))]) hx hb dL_law_683 hl (by decide) rfl (fun ls hl => ?_)
    refine lv_aload_n hx hb dL_law_685 rfl (lv_at hl 4 rfl) ?_
    refine gciT (X := wX T Ad AF ho D mny N f g rk rf rg rh) (va_runV (As := []) (rest := []) ⟨hx, hb, hml, hown, hts⟩ (kX3_thrown l G T (Ad 5) (AF 8) (upd I1 17 (w3 ((cSign F j p0 p1)))) F _) (cwV 0 hts gL_law_X3_thrown rfl rfl rfl (by decide +kernel) ⟨Nat.le_of_ble_eq_true rfl, Nat.le_of_ble_eq_true rfl⟩) ⟨gblind, va_recv hK hP (ci := 3) (q0 := 68) rfl (wL_m (ho1 := ho) (D1 := D) (m1 := mny)), gpreT (X := wX T Ad AF ho D mny N f g rk rf rg rh) hE hK hP hD hS hA⟩ rfl rfl hl.1 rfl (lv_room (Nat.le_of_ble_eq_true rfl)) dL_law_686 ⟨Nat.le_trans (by omega) hcl, Nat.le_trans (by omega) hsl⟩) hP hD hS hA cM_fst (fun r9 H locs hw hP hD hS => ?_)
    refine gtop (y := w3 ((kSign (N j) p0 p1))) (hw.trans (show w3 ((cSign F j p0 p1)) = w3 ((kSign (N j) p0 p1)) by rw [hkc])) ?_
    refine lv_iload hx hb dL_law_689 (lv_at hl 1 rfl) ?_
    refine lv_icmp_eq (tgt := 696) hx hb dL_law_691 (by decide) (fun _ => ?_) (fun c9 => absurd rfl c9)
    refine lv_iload hx hb dL_law_696 (lv_at hl 1 rfl) ?_
    refine lv_if_ne (tgt := 713) hx hb dL_law_698 (by decide) (fun _ => ?_) (fun c9 => absurd c9 (w3_ne _ hk))
    refine lv_goto (tgt := 1261) hx hb dL_law_713 (by decide) ?_
    refine W.widen (k := cells + 5) (n := slots + 30) (by omega) (by omega) ?_
    exact kk _ _ _ ⟨_, _, _, _, _, _, _, _, _, _, _, _, hR.idle _, hP, hD, hS⟩ (lv_sub hl [2, 3, 4, 5, 6] rfl)
set_option maxHeartbeats 8000000 in
set_option maxRecDepth 100000 in
theorem op_owner (C : gLC p s m c b L xs G T aK aV) (hl0 : l.stackTraces = false) (hcl : cells + 5 ≤ 631168) (hsl : slots + 30 ≤ 7202601) (hn : n < 512) (hq : q + 4 ≤ L) (h : gLS n G T Ad AF s H locs) (hl : lv_has ls 7 [(0, .ref b), (1, .ref (Ad 1)), (2, .ref (Ad 5)), (3, .ref (Ad 0)), (4, .int (nI q))])
    (kk : ∀ (H : Heap) (locs : List Loc) (ls : Array Slot), gLS (n + 1) G T Ad AF s H locs → lv_has ls 7 [(0, .ref b), (1, .ref (Ad 1)), (2, .ref (Ad 5)), (3, .ref (Ad 0)), (4, .int (nI q))] → W p l e room_1 s m #[Value.ref b] below meth c H locs (cells + 5) (slots + 30) Q (F0 m 1261 ls [])) : W p l e room_1 s m #[Value.ref b] below meth c H locs cells slots Q (F0 m 716 ls []) := by
  obtain ⟨hx, hb, hml, hown, hts, hX, hbl, hK, hE, hWs, hL⟩ := id C
  have hA : ∀ q : Nat, s.heap.size ≤ q → gA s q := fun _ h => h
  have hbA : ¬ gA s b := Nat.not_le.mpr hbl
  obtain ⟨D, mny, N, f, g, rk, rf, rg, rh, I1, F, ho, hR, hP, hD, hS⟩ := h
  obtain ⟨p0, e0⟩ : ∃ y : Int32, y = xs (q + 1) := ⟨_, rfl⟩
  obtain ⟨j, hj6, hj⟩ := ixN p0
  obtain ⟨c9, hN⟩ := hR.name hj6
  refine lv_aload_n hx hb dL_law_716 rfl (lv_at hl 1 rfl) ?_
  refine lv_aload_n hx hb dL_law_717 rfl (lv_at hl 0 rfl) ?_
  refine lv_iload hx hb dL_law_718 (lv_at hl 4 rfl) ?_
  refine lv_iconst (v := 1) hx hb dL_law_720 (by decide) ?_
  refine lv_iadd hx hb dL_law_721 ?_
  refine gtop (y := nI (q + 1)) (nI_add q 1) ?_
  refine gsld hx hb hX hbl hbA hS (j := q + 1) (by omega) (by omega) e0 dL_law_722 ?_
  refine lv_aload_n hx hb dL_law_723 rfl (lv_at hl 3 rfl) ?_
  by_cases hk : (kNam p0) = 0
  · skip
    refine gci (vx_runSW (As := [.ref (Ad 1), .int p0, .ref (Ad 0)]) (rest := []) ⟨hx, hb, hml, hown, hts⟩ (kL_owner_ok l hl0 G T (Ad 1) (Ad 2) (Ad 3) (Ad 4) D mny (AF 0) (AF 3) j (AF 1 j) (AF 2 j) (N j) (f j) (g j) p0 (Ad 0) ho _ hj hk) (vx_cwSW 3 hts gL_law_L_owner rfl rfl rfl (by decide +kernel) ⟨Nat.le_of_ble_eq_true rfl, Nat.le_of_ble_eq_true rfl⟩) ⟨gblind, gpre hE hK hP hD hS hA [0, 1, 2, 3, 4, 5 + 3 * j, 6 + 3 * j, 7 + 3 * j] (wL_ndN hj6) (wL_cutN (ho1 := ho) (D1 := D) (m1 := mny) hj6)⟩ rfl rfl hl.1 rfl (lv_room (Nat.le_of_ble_eq_true rfl)) dL_law_724 ⟨Nat.le_trans (by omega) hcl, Nat.le_trans (by omega) hsl⟩) hP hD hS hA [0, 1, 2, 3, 4, 5 + 3 * j, 6 + 3 * j, 7 + 3 * j] (wL_cutN (ho1 := ho) (D1 := D) (m1 := mny) hj6) rfl (fun r9 H locs hw hP hD hS => ?_)
    have hP := gfin hP (wL_repN hj6)
    have hD := gfinD hD (wL_repN hj6)
    try simp only [updA_self] at hP hD
    have hP : va_P G vwCl (wX T Ad AF (vp_updL ho 0 (((N j 1)).toInt64)) D mny N f g rk rf rg rh ++ cM T (Ad 5) (AF 8) I1 F) H := hP
    have hD : va_D (gA s) (wX T Ad AF (vp_updL ho 0 (((N j 1)).toInt64)) D mny N f g rk rf rg rh ++ cM T (Ad 5) (AF 8) I1 F) := hD
    subst hw
    have hkc : (kNam p0) = (kNam p0) := rfl
    have hsim : (kNam p0) = 0 → (N j 1) = (F 4 j) ∧ REL (n + 1) D mny N f g rk rf rg rh (upd I1 17 0) F := fun _ => ⟨hN.1.2.1, hR.idle 0⟩
    refine lv_istore (lv' := [(5, .int 0), (0, .ref b), (1, .ref (Ad 1)), (2, .ref (Ad 5)), (3, .ref (Ad 0)), (4, .int (nI q))]) hx hb dL_law_727 hl (by decide) rfl (fun ls hl => ?_)
    refine lv_aload_n hx hb dL_law_729 rfl (lv_at hl 3 rfl) ?_
    refine lv_aload_n hx hb dL_law_730 rfl (lv_at hl 1 rfl) ?_
    refine lv_iload hx hb dL_law_731 (lv_at hl 5 rfl) ?_
    refine lv_iconst (v := 1) hx hb dL_law_733 (by decide) ?_
    refine lv_iadd hx hb dL_law_734 ?_
    refine gtop (y := nI (q + 1)) (nI_add q 1) ?_
    refine gsld hx hb hX hbl hbA hS (j := q + 1) (by omega) (by omega) e0 dL_law_735 ?_
    refine gciT (X := wX T Ad AF (vp_updL ho 0 (((N j 1)).toInt64)) D mny N f g rk rf rg rh) (va_runV (As := [.int p0]) (rest := []) ⟨hx, hb, hml, hown, hts⟩ (kX3_owner l G T (Ad 5) (AF 8) I1 F j p0 _ hj) (cwV 1 hts gL_law_X3_owner rfl rfl rfl (by decide +kernel) ⟨Nat.le_of_ble_eq_true rfl, Nat.le_of_ble_eq_true rfl⟩) ⟨gblind, va_recv hK hP (ci := 3) (q0 := 68) rfl (wL_m (ho1 := ho) (D1 := D) (m1 := mny)), gpreT (X := wX T Ad AF (vp_updL ho 0 (((N j 1)).toInt64)) D mny N f g rk rf rg rh) hE hK hP hD hS hA⟩ rfl rfl hl.1 rfl (lv_room (Nat.le_of_ble_eq_true rfl)) dL_law_736 ⟨Nat.le_trans (by omega) hcl, Nat.le_trans (by omega) hsl⟩) hP hD hS hA cM_fst (fun r9 H locs hw hP hD hS => ?_)
    have hc : (kNam p0) = 0 := hkc.symm.trans hk
    rw [if_pos hc, if_pos hc] at hP hD
    rw [if_pos hc] at hw
    subst hw
    have hP : va_P G vwCl (wX T Ad AF (vp_updL ho 0 (((N j 1)).toInt64)) D mny N f g rk rf rg rh ++ cM T (Ad 5) (AF 8) (upd I1 17 0) F) H := hP
    have hD : va_D (gA s) (wX T Ad AF (vp_updL ho 0 (((N j 1)).toInt64)) D mny N f g rk rf rg rh ++ cM T (Ad 5) (AF 8) (upd I1 17 0) F) := hD
    refine lv_istore (lv' := [(6, .int ((F 4 j))), (5, .int 0), (0, .ref b), (1, .ref (Ad 1)), (2, .ref (Ad 5)), (3, .ref (Ad 0)), (4, .int (nI q))]) hx hb dL_law_739 hl (by decide) rfl (fun ls hl => ?_)
    refine lv_aload_n hx hb dL_law_741 rfl (lv_at hl 4 rfl) ?_
    refine gciT (X := wX T Ad AF (vp_updL ho 0 (((N j 1)).toInt64)) D mny N f g rk rf rg rh) (va_runV (As := []) (rest := []) ⟨hx, hb, hml, hown, hts⟩ (kX3_thrown l G T (Ad 5) (AF 8) (upd I1 17 0) F _) (cwV 0 hts gL_law_X3_thrown rfl rfl rfl (by decide +kernel) ⟨Nat.le_of_ble_eq_true rfl, Nat.le_of_ble_eq_true rfl⟩) ⟨gblind, va_recv hK hP (ci := 3) (q0 := 68) rfl (wL_m (ho1 := ho) (D1 := D) (m1 := mny)), gpreT (X := wX T Ad AF (vp_updL ho 0 (((N j 1)).toInt64)) D mny N f g rk rf rg rh) hE hK hP hD hS hA⟩ rfl rfl hl.1 rfl (lv_room (Nat.le_of_ble_eq_true rfl)) dL_law_742 ⟨Nat.le_trans (by omega) hcl, Nat.le_trans (by omega) hsl⟩) hP hD hS hA cM_fst (fun r9 H locs hw hP hD hS => ?_)
    refine gtop (y := 0) hw ?_
    refine lv_iload hx hb dL_law_745 (lv_at hl 1 rfl) ?_
    refine lv_icmp_eq (tgt := 752) hx hb dL_law_747 (by decide) (fun _ => ?_) (fun c9 => absurd rfl c9)
    refine lv_iload hx hb dL_law_752 (lv_at hl 1 rfl) ?_
    refine lv_if_ne (tgt := 769) hx hb dL_law_754 (by decide) (fun c9 => absurd rfl c9) (fun _ => ?_)
    refine lv_aload_n hx hb dL_law_757 rfl (lv_at hl 5 rfl) ?_
    refine lv_iconst (v := 0) hx hb dL_law_758 (by decide) ?_
    refine glald (j := 0) hx hb hK hP 0 4 (wL_0 (ho1 := ho) (D1 := D) (m1 := mny)) rfl (show (0 : Int32) = nI 0 from rfl) (by omega) (by decide) dL_law_759 ?_
    obtain ⟨ea, hrel⟩ := hsim hk
    refine lv_iload hx hb dL_law_760 (lv_at hl 0 rfl) ?_
    refine lv_i2l (v := ((F 4 j)).toInt64) hx hb dL_law_762 rfl ?_
    refine W.lcmp hx hb dL_law_763 ?_
    refine gtop (y := 0) (lcmp0 (show ((N j 1)).toInt64 = ((F 4 j)).toInt64 from congrArg Int32.toInt64 ea)) ?_
    refine lv_if_eq (tgt := 769) hx hb dL_law_764 (by decide) (fun _ => ?_) (fun c9 => absurd rfl c9)
    refine lv_goto (tgt := 1261) hx hb dL_law_769 (by decide) ?_
    refine W.widen (k := cells + 5) (n := slots + 30) (by omega) (by omega) ?_
    exact kk _ _ _ ⟨_, _, _, _, _, _, _, _, _, _, _, _, hrel, hP, hD, hS⟩ (lv_sub hl [2, 3, 4, 5, 6] rfl)
  · skip
    refine gci (vx_runSW (As := [.ref (Ad 1), .int p0, .ref (Ad 0)]) (rest := []) ⟨hx, hb, hml, hown, hts⟩ (kL_owner_no l hl0 G T (Ad 1) (Ad 2) (Ad 3) (Ad 4) D mny (AF 0) (AF 3) j (AF 1 j) (AF 2 j) (N j) (f j) (g j) p0 (Ad 0) ho _ hj hk) (vx_cwSW 3 hts gL_law_L_owner rfl rfl rfl (by decide +kernel) ⟨Nat.le_of_ble_eq_true rfl, Nat.le_of_ble_eq_true rfl⟩) ⟨gblind, gpre hE hK hP hD hS hA [0, 1, 2, 3, 4, 5 + 3 * j, 6 + 3 * j, 7 + 3 * j] (wL_ndN hj6) (wL_cutN (ho1 := ho) (D1 := D) (m1 := mny) hj6)⟩ rfl rfl hl.1 rfl (lv_room (Nat.le_of_ble_eq_true rfl)) dL_law_724 ⟨Nat.le_trans (by omega) hcl, Nat.le_trans (by omega) hsl⟩) hP hD hS hA [0, 1, 2, 3, 4, 5 + 3 * j, 6 + 3 * j, 7 + 3 * j] (wL_cutN (ho1 := ho) (D1 := D) (m1 := mny) hj6) rfl (fun r9 H locs hw hP hD hS => ?_)
    have hP := gfin hP (wL_repN hj6)
    have hD := gfinD hD (wL_repN hj6)
    try simp only [updA_self] at hP hD
    have hP : va_P G vwCl (wX T Ad AF ho D mny N f g rk rf rg rh ++ cM T (Ad 5) (AF 8) I1 F) H := hP
    have hD : va_D (gA s) (wX T Ad AF ho D mny N f g rk rf rg rh ++ cM T (Ad 5) (AF 8) I1 F) := hD
    subst hw
    have hkc : (kNam p0) = (kNam p0) := rfl
    have hsim : (kNam p0) = 0 → (N j 1) = (F 4 j) ∧ REL (n + 1) D mny N f g rk rf rg rh (upd I1 17 0) F := fun _ => ⟨hN.1.2.1, hR.idle 0⟩
    refine lv_istore (lv' := [(5, .int (w3 ((kNam p0)))), (0, .ref b), (1, .ref (Ad 1)), (2, .ref (Ad 5)), (3, .ref (Ad 0)), (4, .int (nI q))]) hx hb dL_law_727 hl (by decide) rfl (fun ls hl => ?_)
    refine lv_aload_n hx hb dL_law_729 rfl (lv_at hl 3 rfl) ?_
    refine lv_aload_n hx hb dL_law_730 rfl (lv_at hl 1 rfl) ?_
    refine lv_iload hx hb dL_law_731 (lv_at hl 5 rfl) ?_
    refine lv_iconst (v := 1) hx hb dL_law_733 (by decide) ?_
    refine lv_iadd hx hb dL_law_734 ?_
    refine gtop (y := nI (q + 1)) (nI_add q 1) ?_
    refine gsld hx hb hX hbl hbA hS (j := q + 1) (by omega) (by omega) e0 dL_law_735 ?_
    refine gciT (X := wX T Ad AF ho D mny N f g rk rf rg rh) (va_runV (As := [.int p0]) (rest := []) ⟨hx, hb, hml, hown, hts⟩ (kX3_owner l G T (Ad 5) (AF 8) I1 F j p0 _ hj) (cwV 1 hts gL_law_X3_owner rfl rfl rfl (by decide +kernel) ⟨Nat.le_of_ble_eq_true rfl, Nat.le_of_ble_eq_true rfl⟩) ⟨gblind, va_recv hK hP (ci := 3) (q0 := 68) rfl (wL_m (ho1 := ho) (D1 := D) (m1 := mny)), gpreT (X := wX T Ad AF ho D mny N f g rk rf rg rh) hE hK hP hD hS hA⟩ rfl rfl hl.1 rfl (lv_room (Nat.le_of_ble_eq_true rfl)) dL_law_736 ⟨Nat.le_trans (by omega) hcl, Nat.le_trans (by omega) hsl⟩) hP hD hS hA cM_fst (fun r9 H locs hw hP hD hS => ?_)
    have hc : ¬ (kNam p0) = 0 := fun z => hk (hkc.trans z)
    rw [if_neg hc, if_neg hc] at hP hD
    rw [if_neg hc] at hw
    subst hw
    have hP : va_P G vwCl (wX T Ad AF ho D mny N f g rk rf rg rh ++ cM T (Ad 5) (AF 8) (upd I1 17 (w3 ((kNam p0)))) F) H := hP
    have hD : va_D (gA s) (wX T Ad AF ho D mny N f g rk rf rg rh ++ cM T (Ad 5) (AF 8) (upd I1 17 (w3 ((kNam p0)))) F) := hD
    refine lv_istore (lv' := [(6, .int (0)), (5, .int (w3 ((kNam p0)))), (0, .ref b), (1, .ref (Ad 1)), (2, .ref (Ad 5)), (3, .ref (Ad 0)), (4, .int (nI q))]) hx hb dL_law_739 hl (by decide) rfl (fun ls hl => ?_)
    refine lv_aload_n hx hb dL_law_741 rfl (lv_at hl 4 rfl) ?_
    refine gciT (X := wX T Ad AF ho D mny N f g rk rf rg rh) (va_runV (As := []) (rest := []) ⟨hx, hb, hml, hown, hts⟩ (kX3_thrown l G T (Ad 5) (AF 8) (upd I1 17 (w3 ((kNam p0)))) F _) (cwV 0 hts gL_law_X3_thrown rfl rfl rfl (by decide +kernel) ⟨Nat.le_of_ble_eq_true rfl, Nat.le_of_ble_eq_true rfl⟩) ⟨gblind, va_recv hK hP (ci := 3) (q0 := 68) rfl (wL_m (ho1 := ho) (D1 := D) (m1 := mny)), gpreT (X := wX T Ad AF ho D mny N f g rk rf rg rh) hE hK hP hD hS hA⟩ rfl rfl hl.1 rfl (lv_room (Nat.le_of_ble_eq_true rfl)) dL_law_742 ⟨Nat.le_trans (by omega) hcl, Nat.le_trans (by omega) hsl⟩) hP hD hS hA cM_fst (fun r9 H locs hw hP hD hS => ?_)
    refine gtop (y := w3 ((kNam p0))) (hw.trans (show w3 ((kNam p0)) = w3 ((kNam p0)) by rw [hkc])) ?_
    refine lv_iload hx hb dL_law_745 (lv_at hl 1 rfl) ?_
    refine lv_icmp_eq (tgt := 752) hx hb dL_law_747 (by decide) (fun _ => ?_) (fun c9 => absurd rfl c9)
    refine lv_iload hx hb dL_law_752 (lv_at hl 1 rfl) ?_
    refine lv_if_ne (tgt := 769) hx hb dL_law_754 (by decide) (fun _ => ?_) (fun c9 => absurd c9 (w3_ne _ hk))
    refine lv_goto (tgt := 1261) hx hb dL_law_769 (by decide) ?_
    refine W.widen (k := cells + 5) (n := slots + 30) (by omega) (by omega) ?_
    exact kk _ _ _ ⟨_, _, _, _, _, _, _, _, _, _, _, _, hR.idle _, hP, hD, hS⟩ (lv_sub hl [2, 3, 4, 5, 6] rfl)
set_option maxHeartbeats 8000000 in
set_option maxRecDepth 100000 in
theorem op_next (C : gLC p s m c b L xs G T aK aV) (hl0 : l.stackTraces = false) (hcl : cells + 5 ≤ 631168) (hsl : slots + 30 ≤ 7202601) (hn : n < 512) (hq : q + 4 ≤ L) (h : gLS n G T Ad AF s H locs) (hl : lv_has ls 7 [(0, .ref b), (1, .ref (Ad 1)), (2, .ref (Ad 5)), (3, .ref (Ad 0)), (4, .int (nI q))])
    (kk : ∀ (H : Heap) (locs : List Loc) (ls : Array Slot), gLS (n + 1) G T Ad AF s H locs → lv_has ls 7 [(0, .ref b), (1, .ref (Ad 1)), (2, .ref (Ad 5)), (3, .ref (Ad 0)), (4, .int (nI q))] → W p l e room_1 s m #[Value.ref b] below meth c H locs (cells + 5) (slots + 30) Q (F0 m 1261 ls [])) : W p l e room_1 s m #[Value.ref b] below meth c H locs cells slots Q (F0 m 772 ls []) := by
  obtain ⟨hx, hb, hml, hown, hts, hX, hbl, hK, hE, hWs, hL⟩ := id C
  have hA : ∀ q : Nat, s.heap.size ≤ q → gA s q := fun _ h => h
  have hbA : ¬ gA s b := Nat.not_le.mpr hbl
  obtain ⟨D, mny, N, f, g, rk, rf, rg, rh, I1, F, ho, hR, hP, hD, hS⟩ := h
  obtain ⟨p0, e0⟩ : ∃ y : Int32, y = xs (q + 1) := ⟨_, rfl⟩
  obtain ⟨j, hj6, hj⟩ := ixN p0
  obtain ⟨c9, hN⟩ := hR.name hj6
  refine lv_aload_n hx hb dL_law_772 rfl (lv_at hl 1 rfl) ?_
  refine lv_aload_n hx hb dL_law_773 rfl (lv_at hl 0 rfl) ?_
  refine lv_iload hx hb dL_law_774 (lv_at hl 4 rfl) ?_
  refine lv_iconst (v := 1) hx hb dL_law_776 (by decide) ?_
  refine lv_iadd hx hb dL_law_777 ?_
  refine gtop (y := nI (q + 1)) (nI_add q 1) ?_
  refine gsld hx hb hX hbl hbA hS (j := q + 1) (by omega) (by omega) e0 dL_law_778 ?_
  refine lv_aload_n hx hb dL_law_779 rfl (lv_at hl 3 rfl) ?_
  by_cases hk : (kNam p0) = 0
  · skip
    refine gci (vx_runSW (As := [.ref (Ad 1), .int p0, .ref (Ad 0)]) (rest := []) ⟨hx, hb, hml, hown, hts⟩ (kL_next_ok l hl0 G T (Ad 1) (Ad 2) (Ad 3) (Ad 4) D mny (AF 0) (AF 3) j (AF 1 j) (AF 2 j) (N j) (f j) (g j) p0 (Ad 0) ho _ hj hk) (vx_cwSW 3 hts gL_law_L_next rfl rfl rfl (by decide +kernel) ⟨Nat.le_of_ble_eq_true rfl, Nat.le_of_ble_eq_true rfl⟩) ⟨gblind, gpre hE hK hP hD hS hA [0, 1, 2, 3, 4, 5 + 3 * j, 6 + 3 * j, 7 + 3 * j] (wL_ndN hj6) (wL_cutN (ho1 := ho) (D1 := D) (m1 := mny) hj6)⟩ rfl rfl hl.1 rfl (lv_room (Nat.le_of_ble_eq_true rfl)) dL_law_780 ⟨Nat.le_trans (by omega) hcl, Nat.le_trans (by omega) hsl⟩) hP hD hS hA [0, 1, 2, 3, 4, 5 + 3 * j, 6 + 3 * j, 7 + 3 * j] (wL_cutN (ho1 := ho) (D1 := D) (m1 := mny) hj6) rfl (fun r9 H locs hw hP hD hS => ?_)
    have hP := gfin hP (wL_repN hj6)
    have hD := gfinD hD (wL_repN hj6)
    try simp only [updA_self] at hP hD
    have hP : va_P G vwCl (wX T Ad AF (vp_updL ho 0 (((sDay (N j))).toInt64)) D mny N f g rk rf rg rh ++ cM T (Ad 5) (AF 8) I1 F) H := hP
    have hD : va_D (gA s) (wX T Ad AF (vp_updL ho 0 (((sDay (N j))).toInt64)) D mny N f g rk rf rg rh ++ cM T (Ad 5) (AF 8) I1 F) := hD
    subst hw
    have hkc : (kNam p0) = (kNam p0) := rfl
    have hsim : (kNam p0) = 0 → (sDay (N j)) = (mNext F j) ∧ REL (n + 1) D mny N f g rk rf rg rh (upd I1 17 0) F := fun _ => ⟨sim_day hN, hR.idle 0⟩
    refine lv_istore (lv' := [(5, .int 0), (0, .ref b), (1, .ref (Ad 1)), (2, .ref (Ad 5)), (3, .ref (Ad 0)), (4, .int (nI q))]) hx hb dL_law_783 hl (by decide) rfl (fun ls hl => ?_)
    refine lv_aload_n hx hb dL_law_785 rfl (lv_at hl 3 rfl) ?_
    refine lv_aload_n hx hb dL_law_786 rfl (lv_at hl 1 rfl) ?_
    refine lv_iload hx hb dL_law_787 (lv_at hl 5 rfl) ?_
    refine lv_iconst (v := 1) hx hb dL_law_789 (by decide) ?_
    refine lv_iadd hx hb dL_law_790 ?_
    refine gtop (y := nI (q + 1)) (nI_add q 1) ?_
    refine gsld hx hb hX hbl hbA hS (j := q + 1) (by omega) (by omega) e0 dL_law_791 ?_
    refine gciT (X := wX T Ad AF (vp_updL ho 0 (((sDay (N j))).toInt64)) D mny N f g rk rf rg rh) (va_runV (As := [.int p0]) (rest := []) ⟨hx, hb, hml, hown, hts⟩ (kX3_next l G T (Ad 5) (AF 8) I1 F j p0 _ hj) (cwV 1 hts gL_law_X3_next rfl rfl rfl (by decide +kernel) ⟨Nat.le_of_ble_eq_true rfl, Nat.le_of_ble_eq_true rfl⟩) ⟨gblind, va_recv hK hP (ci := 3) (q0 := 68) rfl (wL_m (ho1 := ho) (D1 := D) (m1 := mny)), gpreT (X := wX T Ad AF (vp_updL ho 0 (((sDay (N j))).toInt64)) D mny N f g rk rf rg rh) hE hK hP hD hS hA⟩ rfl rfl hl.1 rfl (lv_room (Nat.le_of_ble_eq_true rfl)) dL_law_792 ⟨Nat.le_trans (by omega) hcl, Nat.le_trans (by omega) hsl⟩) hP hD hS hA cM_fst (fun r9 H locs hw hP hD hS => ?_)
    have hc : (kNam p0) = 0 := hkc.symm.trans hk
    rw [if_pos hc, if_pos hc] at hP hD
    rw [if_pos hc] at hw
    subst hw
    have hP : va_P G vwCl (wX T Ad AF (vp_updL ho 0 (((sDay (N j))).toInt64)) D mny N f g rk rf rg rh ++ cM T (Ad 5) (AF 8) (upd I1 17 0) F) H := hP
    have hD : va_D (gA s) (wX T Ad AF (vp_updL ho 0 (((sDay (N j))).toInt64)) D mny N f g rk rf rg rh ++ cM T (Ad 5) (AF 8) (upd I1 17 0) F) := hD
    refine lv_istore (lv' := [(6, .int ((mNext F j))), (5, .int 0), (0, .ref b), (1, .ref (Ad 1)), (2, .ref (Ad 5)), (3, .ref (Ad 0)), (4, .int (nI q))]) hx hb dL_law_795 hl (by decide) rfl (fun ls hl => ?_)
    refine lv_aload_n hx hb dL_law_797 rfl (lv_at hl 4 rfl) ?_
    refine gciT (X := wX T Ad AF (vp_updL ho 0 (((sDay (N j))).toInt64)) D mny N f g rk rf rg rh) (va_runV (As := []) (rest := []) ⟨hx, hb, hml, hown, hts⟩ (kX3_thrown l G T (Ad 5) (AF 8) (upd I1 17 0) F _) (cwV 0 hts gL_law_X3_thrown rfl rfl rfl (by decide +kernel) ⟨Nat.le_of_ble_eq_true rfl, Nat.le_of_ble_eq_true rfl⟩) ⟨gblind, va_recv hK hP (ci := 3) (q0 := 68) rfl (wL_m (ho1 := ho) (D1 := D) (m1 := mny)), gpreT (X := wX T Ad AF (vp_updL ho 0 (((sDay (N j))).toInt64)) D mny N f g rk rf rg rh) hE hK hP hD hS hA⟩ rfl rfl hl.1 rfl (lv_room (Nat.le_of_ble_eq_true rfl)) dL_law_798 ⟨Nat.le_trans (by omega) hcl, Nat.le_trans (by omega) hsl⟩) hP hD hS hA cM_fst (fun r9 H locs hw hP hD hS => ?_)
    refine gtop (y := 0) hw ?_
    refine lv_iload hx hb dL_law_801 (lv_at hl 1 rfl) ?_
    refine lv_icmp_eq (tgt := 808) hx hb dL_law_803 (by decide) (fun _ => ?_) (fun c9 => absurd rfl c9)
    refine lv_iload hx hb dL_law_808 (lv_at hl 1 rfl) ?_
    refine lv_if_ne (tgt := 825) hx hb dL_law_810 (by decide) (fun c9 => absurd rfl c9) (fun _ => ?_)
    refine lv_aload_n hx hb dL_law_813 rfl (lv_at hl 5 rfl) ?_
    refine lv_iconst (v := 0) hx hb dL_law_814 (by decide) ?_
    refine glald (j := 0) hx hb hK hP 0 4 (wL_0 (ho1 := ho) (D1 := D) (m1 := mny)) rfl (show (0 : Int32) = nI 0 from rfl) (by omega) (by decide) dL_law_815 ?_
    obtain ⟨ea, hrel⟩ := hsim hk
    refine lv_iload hx hb dL_law_816 (lv_at hl 0 rfl) ?_
    refine lv_i2l (v := ((mNext F j)).toInt64) hx hb dL_law_818 rfl ?_
    refine W.lcmp hx hb dL_law_819 ?_
    refine gtop (y := 0) (lcmp0 (show ((sDay (N j))).toInt64 = ((mNext F j)).toInt64 from congrArg Int32.toInt64 ea)) ?_
    refine lv_if_eq (tgt := 825) hx hb dL_law_820 (by decide) (fun _ => ?_) (fun c9 => absurd rfl c9)
    refine lv_goto (tgt := 1261) hx hb dL_law_825 (by decide) ?_
    refine W.widen (k := cells + 5) (n := slots + 30) (by omega) (by omega) ?_
    exact kk _ _ _ ⟨_, _, _, _, _, _, _, _, _, _, _, _, hrel, hP, hD, hS⟩ (lv_sub hl [2, 3, 4, 5, 6] rfl)
  · skip
    refine gci (vx_runSW (As := [.ref (Ad 1), .int p0, .ref (Ad 0)]) (rest := []) ⟨hx, hb, hml, hown, hts⟩ (kL_next_no l hl0 G T (Ad 1) (Ad 2) (Ad 3) (Ad 4) D mny (AF 0) (AF 3) j (AF 1 j) (AF 2 j) (N j) (f j) (g j) p0 (Ad 0) ho _ hj hk) (vx_cwSW 3 hts gL_law_L_next rfl rfl rfl (by decide +kernel) ⟨Nat.le_of_ble_eq_true rfl, Nat.le_of_ble_eq_true rfl⟩) ⟨gblind, gpre hE hK hP hD hS hA [0, 1, 2, 3, 4, 5 + 3 * j, 6 + 3 * j, 7 + 3 * j] (wL_ndN hj6) (wL_cutN (ho1 := ho) (D1 := D) (m1 := mny) hj6)⟩ rfl rfl hl.1 rfl (lv_room (Nat.le_of_ble_eq_true rfl)) dL_law_780 ⟨Nat.le_trans (by omega) hcl, Nat.le_trans (by omega) hsl⟩) hP hD hS hA [0, 1, 2, 3, 4, 5 + 3 * j, 6 + 3 * j, 7 + 3 * j] (wL_cutN (ho1 := ho) (D1 := D) (m1 := mny) hj6) rfl (fun r9 H locs hw hP hD hS => ?_)
    have hP := gfin hP (wL_repN hj6)
    have hD := gfinD hD (wL_repN hj6)
    try simp only [updA_self] at hP hD
    have hP : va_P G vwCl (wX T Ad AF ho D mny N f g rk rf rg rh ++ cM T (Ad 5) (AF 8) I1 F) H := hP
    have hD : va_D (gA s) (wX T Ad AF ho D mny N f g rk rf rg rh ++ cM T (Ad 5) (AF 8) I1 F) := hD
    subst hw
    have hkc : (kNam p0) = (kNam p0) := rfl
    have hsim : (kNam p0) = 0 → (sDay (N j)) = (mNext F j) ∧ REL (n + 1) D mny N f g rk rf rg rh (upd I1 17 0) F := fun _ => ⟨sim_day hN, hR.idle 0⟩
    refine lv_istore (lv' := [(5, .int (w3 ((kNam p0)))), (0, .ref b), (1, .ref (Ad 1)), (2, .ref (Ad 5)), (3, .ref (Ad 0)), (4, .int (nI q))]) hx hb dL_law_783 hl (by decide) rfl (fun ls hl => ?_)
    refine lv_aload_n hx hb dL_law_785 rfl (lv_at hl 3 rfl) ?_
    refine lv_aload_n hx hb dL_law_786 rfl (lv_at hl 1 rfl) ?_
    refine lv_iload hx hb dL_law_787 (lv_at hl 5 rfl) ?_
    refine lv_iconst (v := 1) hx hb dL_law_789 (by decide) ?_
    refine lv_iadd hx hb dL_law_790 ?_
    refine gtop (y := nI (q + 1)) (nI_add q 1) ?_
    refine gsld hx hb hX hbl hbA hS (j := q + 1) (by omega) (by omega) e0 dL_law_791 ?_
    refine gciT (X := wX T Ad AF ho D mny N f g rk rf rg rh) (va_runV (As := [.int p0]) (rest := []) ⟨hx, hb, hml, hown, hts⟩ (kX3_next l G T (Ad 5) (AF 8) I1 F j p0 _ hj) (cwV 1 hts gL_law_X3_next rfl rfl rfl (by decide +kernel) ⟨Nat.le_of_ble_eq_true rfl, Nat.le_of_ble_eq_true rfl⟩) ⟨gblind, va_recv hK hP (ci := 3) (q0 := 68) rfl (wL_m (ho1 := ho) (D1 := D) (m1 := mny)), gpreT (X := wX T Ad AF ho D mny N f g rk rf rg rh) hE hK hP hD hS hA⟩ rfl rfl hl.1 rfl (lv_room (Nat.le_of_ble_eq_true rfl)) dL_law_792 ⟨Nat.le_trans (by omega) hcl, Nat.le_trans (by omega) hsl⟩) hP hD hS hA cM_fst (fun r9 H locs hw hP hD hS => ?_)
    have hc : ¬ (kNam p0) = 0 := fun z => hk (hkc.trans z)
    rw [if_neg hc, if_neg hc] at hP hD
    rw [if_neg hc] at hw
    subst hw
    have hP : va_P G vwCl (wX T Ad AF ho D mny N f g rk rf rg rh ++ cM T (Ad 5) (AF 8) (upd I1 17 (w3 ((kNam p0)))) F) H := hP
    have hD : va_D (gA s) (wX T Ad AF ho D mny N f g rk rf rg rh ++ cM T (Ad 5) (AF 8) (upd I1 17 (w3 ((kNam p0)))) F) := hD
    refine lv_istore (lv' := [(6, .int (0)), (5, .int (w3 ((kNam p0)))), (0, .ref b), (1, .ref (Ad 1)), (2, .ref (Ad 5)), (3, .ref (Ad 0)), (4, .int (nI q))]) hx hb dL_law_795 hl (by decide) rfl (fun ls hl => ?_)
    refine lv_aload_n hx hb dL_law_797 rfl (lv_at hl 4 rfl) ?_
    refine gciT (X := wX T Ad AF ho D mny N f g rk rf rg rh) (va_runV (As := []) (rest := []) ⟨hx, hb, hml, hown, hts⟩ (kX3_thrown l G T (Ad 5) (AF 8) (upd I1 17 (w3 ((kNam p0)))) F _) (cwV 0 hts gL_law_X3_thrown rfl rfl rfl (by decide +kernel) ⟨Nat.le_of_ble_eq_true rfl, Nat.le_of_ble_eq_true rfl⟩) ⟨gblind, va_recv hK hP (ci := 3) (q0 := 68) rfl (wL_m (ho1 := ho) (D1 := D) (m1 := mny)), gpreT (X := wX T Ad AF ho D mny N f g rk rf rg rh) hE hK hP hD hS hA⟩ rfl rfl hl.1 rfl (lv_room (Nat.le_of_ble_eq_true rfl)) dL_law_798 ⟨Nat.le_trans (by omega) hcl, Nat.le_trans (by omega) hsl⟩) hP hD hS hA cM_fst (fun r9 H locs hw hP hD hS => ?_)
    refine gtop (y := w3 ((kNam p0))) (hw.trans (show w3 ((kNam p0)) = w3 ((kNam p0)) by rw [hkc])) ?_
    refine lv_iload hx hb dL_law_801 (lv_at hl 1 rfl) ?_
    refine lv_icmp_eq (tgt := 808) hx hb dL_law_803 (by decide) (fun _ => ?_) (fun c9 => absurd rfl c9)
    refine lv_iload hx hb dL_law_808 (lv_at hl 1 rfl) ?_
    refine lv_if_ne (tgt := 825) hx hb dL_law_810 (by decide) (fun _ => ?_) (fun c9 => absurd c9 (w3_ne _ hk))
    refine lv_goto (tgt := 1261) hx hb dL_law_825 (by decide) ?_
    refine W.widen (k := cells + 5) (n := slots + 30) (by omega) (by omega) ?_
    exact kk _ _ _ ⟨_, _, _, _, _, _, _, _, _, _, _, _, hR.idle _, hP, hD, hS⟩ (lv_sub hl [2, 3, 4, 5, 6] rfl)
set_option maxHeartbeats 8000000 in
set_option maxRecDepth 100000 in
theorem op_dispute (C : gLC p s m c b L xs G T aK aV) (hl0 : l.stackTraces = false) (hcl : cells + 5 ≤ 631168) (hsl : slots + 30 ≤ 7202601) (hn : n < 512) (hq : q + 4 ≤ L) (h : gLS n G T Ad AF s H locs) (hl : lv_has ls 7 [(0, .ref b), (1, .ref (Ad 1)), (2, .ref (Ad 5)), (3, .ref (Ad 0)), (4, .int (nI q))])
    (kk : ∀ (H : Heap) (locs : List Loc) (ls : Array Slot), gLS (n + 1) G T Ad AF s H locs → lv_has ls 7 [(0, .ref b), (1, .ref (Ad 1)), (2, .ref (Ad 5)), (3, .ref (Ad 0)), (4, .int (nI q))] → W p l e room_1 s m #[Value.ref b] below meth c H locs (cells + 5) (slots + 30) Q (F0 m 1261 ls [])) : W p l e room_1 s m #[Value.ref b] below meth c H locs cells slots Q (F0 m 828 ls []) := by
  obtain ⟨hx, hb, hml, hown, hts, hX, hbl, hK, hE, hWs, hL⟩ := id C
  have hA : ∀ q : Nat, s.heap.size ≤ q → gA s q := fun _ h => h
  have hbA : ¬ gA s b := Nat.not_le.mpr hbl
  obtain ⟨D, mny, N, f, g, rk, rf, rg, rh, I1, F, ho, hR, hP, hD, hS⟩ := h
  obtain ⟨p0, e0⟩ : ∃ y : Int32, y = xs (q + 1) := ⟨_, rfl⟩
  obtain ⟨p1, e1⟩ : ∃ y : Int32, y = xs (q + 2) := ⟨_, rfl⟩
  obtain ⟨i, hi6, hi⟩ := ixO p0
  obtain ⟨j, hj6, hj⟩ := ixN p1
  refine lv_aload_n hx hb dL_law_828 rfl (lv_at hl 1 rfl) ?_
  refine lv_aload_n hx hb dL_law_829 rfl (lv_at hl 0 rfl) ?_
  refine lv_iload hx hb dL_law_830 (lv_at hl 4 rfl) ?_
  refine lv_iconst (v := 1) hx hb dL_law_832 (by decide) ?_
  refine lv_iadd hx hb dL_law_833 ?_
  refine gtop (y := nI (q + 1)) (nI_add q 1) ?_
  refine gsld hx hb hX hbl hbA hS (j := q + 1) (by omega) (by omega) e0 dL_law_834 ?_
  refine lv_aload_n hx hb dL_law_835 rfl (lv_at hl 0 rfl) ?_
  refine lv_iload hx hb dL_law_836 (lv_at hl 4 rfl) ?_
  refine lv_iconst (v := 2) hx hb dL_law_838 (by decide) ?_
  refine lv_iadd hx hb dL_law_839 ?_
  refine gtop (y := nI (q + 2)) (nI_add q 2) ?_
  refine gsld hx hb hX hbl hbA hS (j := q + 2) (by omega) (by omega) e1 dL_law_840 ?_
  refine lv_aload_n hx hb dL_law_841 rfl (lv_at hl 3 rfl) ?_
  by_cases hk : (kDispute (N j) p0 p1) = 0
  · skip
    refine gci (vx_runSW (As := [.ref (Ad 1), .int p0, .int p1, .ref (Ad 0)]) (rest := []) ⟨hx, hb, hml, hown, hts⟩ (kL_dispute_ok l hl0 G T (Ad 1) (Ad 2) (Ad 3) (Ad 4) D mny (AF 0) (AF 3) j (AF 1 j) (AF 2 j) (N j) (f j) (g j) p0 p1 (Ad 0) ho _ hj hk) (vx_cwSW 4 hts gL_law_L_dispute rfl rfl rfl (by decide +kernel) ⟨Nat.le_of_ble_eq_true rfl, Nat.le_of_ble_eq_true rfl⟩) ⟨gblind, gpre hE hK hP hD hS hA [0, 1, 2, 3, 4, 5 + 3 * j, 6 + 3 * j, 7 + 3 * j] (wL_ndN hj6) (wL_cutN (ho1 := ho) (D1 := D) (m1 := mny) hj6)⟩ rfl rfl hl.1 rfl (lv_room (Nat.le_of_ble_eq_true rfl)) dL_law_842 ⟨Nat.le_trans (by omega) hcl, Nat.le_trans (by omega) hsl⟩) hP hD hS hA [0, 1, 2, 3, 4, 5 + 3 * j, 6 + 3 * j, 7 + 3 * j] (wL_cutN (ho1 := ho) (D1 := D) (m1 := mny) hj6) rfl (fun r9 H locs hw hP hD hS => ?_)
    have hP := gfin hP (wL_repN hj6)
    have hD := gfinD hD (wL_repN hj6)
    try simp only [updA_self] at hP hD
    have hP : va_P G vwCl (wX T Ad AF (vp_updL ho 0 (((N j 0)).toInt64)) D mny (updA N j (upd (upd (upd (upd (N j) 6 (N j 0)) 0 5) 7 p0) 8 (D 3))) (updA f j (fun _ => 0)) g rk rf rg rh ++ cM T (Ad 5) (AF 8) I1 F) H := hP
    have hD : va_D (gA s) (wX T Ad AF (vp_updL ho 0 (((N j 0)).toInt64)) D mny (updA N j (upd (upd (upd (upd (N j) 6 (N j 0)) 0 5) 7 p0) 8 (D 3))) (updA f j (fun _ => 0)) g rk rf rg rh ++ cM T (Ad 5) (AF 8) I1 F) := hD
    subst hw
    obtain ⟨hkc, hsim⟩ := sim_dispute hR (p0 := p0) (p1 := p1) hi hj6
    refine lv_istore (lv' := [(5, .int 0), (0, .ref b), (1, .ref (Ad 1)), (2, .ref (Ad 5)), (3, .ref (Ad 0)), (4, .int (nI q))]) hx hb dL_law_845 hl (by decide) rfl (fun ls hl => ?_)
    refine lv_aload_n hx hb dL_law_847 rfl (lv_at hl 3 rfl) ?_
    refine lv_aload_n hx hb dL_law_848 rfl (lv_at hl 1 rfl) ?_
    refine lv_iload hx hb dL_law_849 (lv_at hl 5 rfl) ?_
    refine lv_iconst (v := 1) hx hb dL_law_851 (by decide) ?_
    refine lv_iadd hx hb dL_law_852 ?_
    refine gtop (y := nI (q + 1)) (nI_add q 1) ?_
    refine gsld hx hb hX hbl hbA hS (j := q + 1) (by omega) (by omega) e0 dL_law_853 ?_
    refine lv_aload_n hx hb dL_law_854 rfl (lv_at hl 1 rfl) ?_
    refine lv_iload hx hb dL_law_855 (lv_at hl 5 rfl) ?_
    refine lv_iconst (v := 2) hx hb dL_law_857 (by decide) ?_
    refine lv_iadd hx hb dL_law_858 ?_
    refine gtop (y := nI (q + 2)) (nI_add q 2) ?_
    refine gsld hx hb hX hbl hbA hS (j := q + 2) (by omega) (by omega) e1 dL_law_859 ?_
    refine gciT (X := wX T Ad AF (vp_updL ho 0 (((N j 0)).toInt64)) D mny (updA N j (upd (upd (upd (upd (N j) 6 (N j 0)) 0 5) 7 p0) 8 (D 3))) (updA f j (fun _ => 0)) g rk rf rg rh) (va_runV (As := [.int p0, .int p1]) (rest := []) ⟨hx, hb, hml, hown, hts⟩ (kX3_dispute l G T (Ad 5) (AF 8) I1 F j p0 p1 _ hj) (cwV 2 hts gL_law_X3_dispute rfl rfl rfl (by decide +kernel) ⟨Nat.le_of_ble_eq_true rfl, Nat.le_of_ble_eq_true rfl⟩) ⟨gblind, va_recv hK hP (ci := 3) (q0 := 68) rfl (wL_m (ho1 := ho) (D1 := D) (m1 := mny)), gpreT (X := wX T Ad AF (vp_updL ho 0 (((N j 0)).toInt64)) D mny (updA N j (upd (upd (upd (upd (N j) 6 (N j 0)) 0 5) 7 p0) 8 (D 3))) (updA f j (fun _ => 0)) g rk rf rg rh) hE hK hP hD hS hA⟩ rfl rfl hl.1 rfl (lv_room (Nat.le_of_ble_eq_true rfl)) dL_law_860 ⟨Nat.le_trans (by omega) hcl, Nat.le_trans (by omega) hsl⟩) hP hD hS hA cM_fst (fun r9 H locs hw hP hD hS => ?_)
    have hc : (cDispute F j p0 p1) = 0 := hkc.symm.trans hk
    rw [if_pos hc, if_pos hc] at hP hD
    rw [if_pos hc] at hw
    subst hw
    have hP : va_P G vwCl (wX T Ad AF (vp_updL ho 0 (((N j 0)).toInt64)) D mny (updA N j (upd (upd (upd (upd (N j) 6 (N j 0)) 0 5) 7 p0) 8 (D 3))) (updA f j (fun _ => 0)) g rk rf rg rh ++ cM T (Ad 5) (AF 8) (upd I1 17 0) (mClear (updA (updA (updA (updA F 10 (upd (F 10) j (F 3 j))) 8 (upd (F 8) j p0)) 9 (upd (F 9) j (I1 0))) 3 (upd (F 3) j 5)) j)) H := hP
    have hD : va_D (gA s) (wX T Ad AF (vp_updL ho 0 (((N j 0)).toInt64)) D mny (updA N j (upd (upd (upd (upd (N j) 6 (N j 0)) 0 5) 7 p0) 8 (D 3))) (updA f j (fun _ => 0)) g rk rf rg rh ++ cM T (Ad 5) (AF 8) (upd I1 17 0) (mClear (updA (updA (updA (updA F 10 (upd (F 10) j (F 3 j))) 8 (upd (F 8) j p0)) 9 (upd (F 9) j (I1 0))) 3 (upd (F 3) j 5)) j)) := hD
    refine lv_istore (lv' := [(6, .int ((F 3 j))), (5, .int 0), (0, .ref b), (1, .ref (Ad 1)), (2, .ref (Ad 5)), (3, .ref (Ad 0)), (4, .int (nI q))]) hx hb dL_law_863 hl (by decide) rfl (fun ls hl => ?_)
    refine lv_aload_n hx hb dL_law_865 rfl (lv_at hl 4 rfl) ?_
    refine gciT (X := wX T Ad AF (vp_updL ho 0 (((N j 0)).toInt64)) D mny (updA N j (upd (upd (upd (upd (N j) 6 (N j 0)) 0 5) 7 p0) 8 (D 3))) (updA f j (fun _ => 0)) g rk rf rg rh) (va_runV (As := []) (rest := []) ⟨hx, hb, hml, hown, hts⟩ (kX3_thrown l G T (Ad 5) (AF 8) (upd I1 17 0) (mClear (updA (updA (updA (updA F 10 (upd (F 10) j (F 3 j))) 8 (upd (F 8) j p0)) 9 (upd (F 9) j (I1 0))) 3 (upd (F 3) j 5)) j) _) (cwV 0 hts gL_law_X3_thrown rfl rfl rfl (by decide +kernel) ⟨Nat.le_of_ble_eq_true rfl, Nat.le_of_ble_eq_true rfl⟩) ⟨gblind, va_recv hK hP (ci := 3) (q0 := 68) rfl (wL_m (ho1 := ho) (D1 := D) (m1 := mny)), gpreT (X := wX T Ad AF (vp_updL ho 0 (((N j 0)).toInt64)) D mny (updA N j (upd (upd (upd (upd (N j) 6 (N j 0)) 0 5) 7 p0) 8 (D 3))) (updA f j (fun _ => 0)) g rk rf rg rh) hE hK hP hD hS hA⟩ rfl rfl hl.1 rfl (lv_room (Nat.le_of_ble_eq_true rfl)) dL_law_866 ⟨Nat.le_trans (by omega) hcl, Nat.le_trans (by omega) hsl⟩) hP hD hS hA cM_fst (fun r9 H locs hw hP hD hS => ?_)
    refine gtop (y := 0) hw ?_
    refine lv_iload hx hb dL_law_869 (lv_at hl 1 rfl) ?_
    refine lv_icmp_eq (tgt := 876) hx hb dL_law_871 (by decide) (fun _ => ?_) (fun c9 => absurd rfl c9)
    refine lv_iload hx hb dL_law_876 (lv_at hl 1 rfl) ?_
    refine lv_if_ne (tgt := 893) hx hb dL_law_878 (by decide) (fun c9 => absurd rfl c9) (fun _ => ?_)
    refine lv_aload_n hx hb dL_law_881 rfl (lv_at hl 5 rfl) ?_
    refine lv_iconst (v := 0) hx hb dL_law_882 (by decide) ?_
    refine glald (j := 0) hx hb hK hP 0 4 (wL_0 (ho1 := ho) (D1 := D) (m1 := mny)) rfl (show (0 : Int32) = nI 0 from rfl) (by omega) (by decide) dL_law_883 ?_
    obtain ⟨ea, hrel⟩ := hsim hk
    refine lv_iload hx hb dL_law_884 (lv_at hl 0 rfl) ?_
    refine lv_i2l (v := ((F 3 j)).toInt64) hx hb dL_law_886 rfl ?_
    refine W.lcmp hx hb dL_law_887 ?_
    refine gtop (y := 0) (lcmp0 (show ((N j 0)).toInt64 = ((F 3 j)).toInt64 from congrArg Int32.toInt64 ea)) ?_
    refine lv_if_eq (tgt := 893) hx hb dL_law_888 (by decide) (fun _ => ?_) (fun c9 => absurd rfl c9)
    refine lv_goto (tgt := 1261) hx hb dL_law_893 (by decide) ?_
    refine W.widen (k := cells + 5) (n := slots + 30) (by omega) (by omega) ?_
    exact kk _ _ _ ⟨_, _, _, _, _, _, _, _, _, _, _, _, hrel, hP, hD, hS⟩ (lv_sub hl [2, 3, 4, 5, 6] rfl)
  · skip
    refine gci (vx_runSW (As := [.ref (Ad 1), .int p0, .int p1, .ref (Ad 0)]) (rest := []) ⟨hx, hb, hml, hown, hts⟩ (kL_dispute_no l hl0 G T (Ad 1) (Ad 2) (Ad 3) (Ad 4) D mny (AF 0) (AF 3) j (AF 1 j) (AF 2 j) (N j) (f j) (g j) p0 p1 (Ad 0) ho _ hj hk) (vx_cwSW 4 hts gL_law_L_dispute rfl rfl rfl (by decide +kernel) ⟨Nat.le_of_ble_eq_true rfl, Nat.le_of_ble_eq_true rfl⟩) ⟨gblind, gpre hE hK hP hD hS hA [0, 1, 2, 3, 4, 5 + 3 * j, 6 + 3 * j, 7 + 3 * j] (wL_ndN hj6) (wL_cutN (ho1 := ho) (D1 := D) (m1 := mny) hj6)⟩ rfl rfl hl.1 rfl (lv_room (Nat.le_of_ble_eq_true rfl)) dL_law_842 ⟨Nat.le_trans (by omega) hcl, Nat.le_trans (by omega) hsl⟩) hP hD hS hA [0, 1, 2, 3, 4, 5 + 3 * j, 6 + 3 * j, 7 + 3 * j] (wL_cutN (ho1 := ho) (D1 := D) (m1 := mny) hj6) rfl (fun r9 H locs hw hP hD hS => ?_)
    have hP := gfin hP (wL_repN hj6)
    have hD := gfinD hD (wL_repN hj6)
    try simp only [updA_self] at hP hD
    have hP : va_P G vwCl (wX T Ad AF ho D mny N f g rk rf rg rh ++ cM T (Ad 5) (AF 8) I1 F) H := hP
    have hD : va_D (gA s) (wX T Ad AF ho D mny N f g rk rf rg rh ++ cM T (Ad 5) (AF 8) I1 F) := hD
    subst hw
    obtain ⟨hkc, hsim⟩ := sim_dispute hR (p0 := p0) (p1 := p1) hi hj6
    refine lv_istore (lv' := [(5, .int (w13 ((kDispute (N j) p0 p1)))), (0, .ref b), (1, .ref (Ad 1)), (2, .ref (Ad 5)), (3, .ref (Ad 0)), (4, .int (nI q))]) hx hb dL_law_845 hl (by decide) rfl (fun ls hl => ?_)
    refine lv_aload_n hx hb dL_law_847 rfl (lv_at hl 3 rfl) ?_
    refine lv_aload_n hx hb dL_law_848 rfl (lv_at hl 1 rfl) ?_
    refine lv_iload hx hb dL_law_849 (lv_at hl 5 rfl) ?_
    refine lv_iconst (v := 1) hx hb dL_law_851 (by decide) ?_
    refine lv_iadd hx hb dL_law_852 ?_
    refine gtop (y := nI (q + 1)) (nI_add q 1) ?_
    refine gsld hx hb hX hbl hbA hS (j := q + 1) (by omega) (by omega) e0 dL_law_853 ?_
    refine lv_aload_n hx hb dL_law_854 rfl (lv_at hl 1 rfl) ?_
    refine lv_iload hx hb dL_law_855 (lv_at hl 5 rfl) ?_
    refine lv_iconst (v := 2) hx hb dL_law_857 (by decide) ?_
    refine lv_iadd hx hb dL_law_858 ?_
    refine gtop (y := nI (q + 2)) (nI_add q 2) ?_
    refine gsld hx hb hX hbl hbA hS (j := q + 2) (by omega) (by omega) e1 dL_law_859 ?_
    refine gciT (X := wX T Ad AF ho D mny N f g rk rf rg rh) (va_runV (As := [.int p0, .int p1]) (rest := []) ⟨hx, hb, hml, hown, hts⟩ (kX3_dispute l G T (Ad 5) (AF 8) I1 F j p0 p1 _ hj) (cwV 2 hts gL_law_X3_dispute rfl rfl rfl (by decide +kernel) ⟨Nat.le_of_ble_eq_true rfl, Nat.le_of_ble_eq_true rfl⟩) ⟨gblind, va_recv hK hP (ci := 3) (q0 := 68) rfl (wL_m (ho1 := ho) (D1 := D) (m1 := mny)), gpreT (X := wX T Ad AF ho D mny N f g rk rf rg rh) hE hK hP hD hS hA⟩ rfl rfl hl.1 rfl (lv_room (Nat.le_of_ble_eq_true rfl)) dL_law_860 ⟨Nat.le_trans (by omega) hcl, Nat.le_trans (by omega) hsl⟩) hP hD hS hA cM_fst (fun r9 H locs hw hP hD hS => ?_)
    have hc : ¬ (cDispute F j p0 p1) = 0 := fun z => hk (hkc.trans z)
    rw [if_neg hc, if_neg hc] at hP hD
    rw [if_neg hc] at hw
    subst hw
    have hP : va_P G vwCl (wX T Ad AF ho D mny N f g rk rf rg rh ++ cM T (Ad 5) (AF 8) (upd I1 17 (w13 ((cDispute F j p0 p1)))) F) H := hP
    have hD : va_D (gA s) (wX T Ad AF ho D mny N f g rk rf rg rh ++ cM T (Ad 5) (AF 8) (upd I1 17 (w13 ((cDispute F j p0 p1)))) F) := hD
    refine lv_istore (lv' := [(6, .int (0)), (5, .int (w13 ((kDispute (N j) p0 p1)))), (0, .ref b), (1, .ref (Ad 1)), (2, .ref (Ad 5)), (3, .ref (Ad 0)), (4, .int (nI q))]) hx hb dL_law_863 hl (by decide) rfl (fun ls hl => ?_)
    refine lv_aload_n hx hb dL_law_865 rfl (lv_at hl 4 rfl) ?_
    refine gciT (X := wX T Ad AF ho D mny N f g rk rf rg rh) (va_runV (As := []) (rest := []) ⟨hx, hb, hml, hown, hts⟩ (kX3_thrown l G T (Ad 5) (AF 8) (upd I1 17 (w13 ((cDispute F j p0 p1)))) F _) (cwV 0 hts gL_law_X3_thrown rfl rfl rfl (by decide +kernel) ⟨Nat.le_of_ble_eq_true rfl, Nat.le_of_ble_eq_true rfl⟩) ⟨gblind, va_recv hK hP (ci := 3) (q0 := 68) rfl (wL_m (ho1 := ho) (D1 := D) (m1 := mny)), gpreT (X := wX T Ad AF ho D mny N f g rk rf rg rh) hE hK hP hD hS hA⟩ rfl rfl hl.1 rfl (lv_room (Nat.le_of_ble_eq_true rfl)) dL_law_866 ⟨Nat.le_trans (by omega) hcl, Nat.le_trans (by omega) hsl⟩) hP hD hS hA cM_fst (fun r9 H locs hw hP hD hS => ?_)
    refine gtop (y := w13 ((kDispute (N j) p0 p1))) (hw.trans (show w13 ((cDispute F j p0 p1)) = w13 ((kDispute (N j) p0 p1)) by rw [hkc])) ?_
    refine lv_iload hx hb dL_law_869 (lv_at hl 1 rfl) ?_
    refine lv_icmp_eq (tgt := 876) hx hb dL_law_871 (by decide) (fun _ => ?_) (fun c9 => absurd rfl c9)
    refine lv_iload hx hb dL_law_876 (lv_at hl 1 rfl) ?_
    refine lv_if_ne (tgt := 893) hx hb dL_law_878 (by decide) (fun _ => ?_) (fun c9 => absurd c9 (w13_ne _ hk))
    refine lv_goto (tgt := 1261) hx hb dL_law_893 (by decide) ?_
    refine W.widen (k := cells + 5) (n := slots + 30) (by omega) (by omega) ?_
    exact kk _ _ _ ⟨_, _, _, _, _, _, _, _, _, _, _, _, hR.idle _, hP, hD, hS⟩ (lv_sub hl [2, 3, 4, 5, 6] rfl)
set_option maxHeartbeats 8000000 in
set_option maxRecDepth 100000 in
theorem op_decide (C : gLC p s m c b L xs G T aK aV) (hl0 : l.stackTraces = false) (hcl : cells + 5 ≤ 631168) (hsl : slots + 30 ≤ 7202601) (hn : n < 512) (hq : q + 4 ≤ L) (h : gLS n G T Ad AF s H locs) (hl : lv_has ls 7 [(0, .ref b), (1, .ref (Ad 1)), (2, .ref (Ad 5)), (3, .ref (Ad 0)), (4, .int (nI q))])
    (kk : ∀ (H : Heap) (locs : List Loc) (ls : Array Slot), gLS (n + 1) G T Ad AF s H locs → lv_has ls 7 [(0, .ref b), (1, .ref (Ad 1)), (2, .ref (Ad 5)), (3, .ref (Ad 0)), (4, .int (nI q))] → W p l e room_1 s m #[Value.ref b] below meth c H locs (cells + 5) (slots + 30) Q (F0 m 1261 ls [])) : W p l e room_1 s m #[Value.ref b] below meth c H locs cells slots Q (F0 m 896 ls []) := by
  obtain ⟨hx, hb, hml, hown, hts, hX, hbl, hK, hE, hWs, hL⟩ := id C
  have hA : ∀ q : Nat, s.heap.size ≤ q → gA s q := fun _ h => h
  have hbA : ¬ gA s b := Nat.not_le.mpr hbl
  obtain ⟨D, mny, N, f, g, rk, rf, rg, rh, I1, F, ho, hR, hP, hD, hS⟩ := h
  obtain ⟨p0, e0⟩ : ∃ y : Int32, y = xs (q + 1) := ⟨_, rfl⟩
  obtain ⟨p1, e1⟩ : ∃ y : Int32, y = xs (q + 2) := ⟨_, rfl⟩
  obtain ⟨j, hj6, hj⟩ := ixN p0
  by_cases ez : p1 = 0
  · skip
    refine lv_aload_n hx hb dL_law_896 rfl (lv_at hl 1 rfl) ?_
    refine lv_aload_n hx hb dL_law_897 rfl (lv_at hl 0 rfl) ?_
    refine lv_iload hx hb dL_law_898 (lv_at hl 4 rfl) ?_
    refine lv_iconst (v := 1) hx hb dL_law_900 (by decide) ?_
    refine lv_iadd hx hb dL_law_901 ?_
    refine gtop (y := nI (q + 1)) (nI_add q 1) ?_
    refine gsld hx hb hX hbl hbA hS (j := q + 1) (by omega) (by omega) e0 dL_law_902 ?_
    refine lv_aload_n hx hb dL_law_903 rfl (lv_at hl 0 rfl) ?_
    refine lv_iload hx hb dL_law_904 (lv_at hl 4 rfl) ?_
    refine lv_iconst (v := 2) hx hb dL_law_906 (by decide) ?_
    refine lv_iadd hx hb dL_law_907 ?_
    refine gtop (y := nI (q + 2)) (nI_add q 2) ?_
    refine gsld hx hb hX hbl hbA hS (j := q + 2) (by omega) (by omega) e1 dL_law_908 ?_
    refine lv_if_eq (tgt := 916) hx hb dL_law_909 (by decide) (fun _ => ?_) (fun c9 => absurd ez c9)
    refine lv_iconst (v := 0) hx hb dL_law_916 (by decide) ?_
    refine lv_aload_n hx hb dL_law_917 rfl (lv_at hl 3 rfl) ?_
    by_cases hk : (kDecide (N j) p0) = 0
    · skip
      refine gci (vx_runSW (As := [.ref (Ad 1), .int p0, .int 0, .ref (Ad 0)]) (rest := []) ⟨hx, hb, hml, hown, hts⟩ (kL_decide_ok l hl0 G T (Ad 1) (Ad 2) (Ad 3) (Ad 4) D mny (AF 0) (AF 3) j (AF 1 j) (AF 2 j) (N j) (f j) (g j) p0 0 (Ad 0) ho _ hj hk) (vx_cwSW 4 hts gL_law_L_decide rfl rfl rfl (by decide +kernel) ⟨Nat.le_of_ble_eq_true rfl, Nat.le_of_ble_eq_true rfl⟩) ⟨gblind, gpre hE hK hP hD hS hA [0, 1, 2, 3, 4, 5 + 3 * j, 6 + 3 * j, 7 + 3 * j] (wL_ndN hj6) (wL_cutN (ho1 := ho) (D1 := D) (m1 := mny) hj6)⟩ rfl rfl hl.1 rfl (lv_room (Nat.le_of_ble_eq_true rfl)) dL_law_918 ⟨Nat.le_trans (by omega) hcl, Nat.le_trans (by omega) hsl⟩) hP hD hS hA [0, 1, 2, 3, 4, 5 + 3 * j, 6 + 3 * j, 7 + 3 * j] (wL_cutN (ho1 := ho) (D1 := D) (m1 := mny) hj6) rfl (fun r9 H locs hw hP hD hS => ?_)
      have hP := gfin hP (wL_repN hj6)
      have hD := gfinD hD (wL_repN hj6)
      try simp only [updA_self] at hP hD
      have hP : va_P G vwCl (wX T Ad AF (vp_updL ho 0 (((sThaw (N j) 0 (D 3) 0)).toInt64)) D mny (updA N j (sThaw (N j) 0 (D 3))) (updA f j (sThawF (N j) (f j))) g rk rf rg rh ++ cM T (Ad 5) (AF 8) I1 F) H := hP
      have hD : va_D (gA s) (wX T Ad AF (vp_updL ho 0 (((sThaw (N j) 0 (D 3) 0)).toInt64)) D mny (updA N j (sThaw (N j) 0 (D 3))) (updA f j (sThawF (N j) (f j))) g rk rf rg rh ++ cM T (Ad 5) (AF 8) I1 F) := hD
      subst hw
      obtain ⟨hkc, hsim⟩ := sim_decide hR (p0 := p0) (p1 := 0) hj6
      refine lv_istore (lv' := [(5, .int 0), (0, .ref b), (1, .ref (Ad 1)), (2, .ref (Ad 5)), (3, .ref (Ad 0)), (4, .int (nI q))]) hx hb dL_law_921 hl (by decide) rfl (fun ls hl => ?_)
      refine lv_aload_n hx hb dL_law_923 rfl (lv_at hl 3 rfl) ?_
      refine lv_aload_n hx hb dL_law_924 rfl (lv_at hl 1 rfl) ?_
      refine lv_iload hx hb dL_law_925 (lv_at hl 5 rfl) ?_
      refine lv_iconst (v := 1) hx hb dL_law_927 (by decide) ?_
      refine lv_iadd hx hb dL_law_928 ?_
      refine gtop (y := nI (q + 1)) (nI_add q 1) ?_
      refine gsld hx hb hX hbl hbA hS (j := q + 1) (by omega) (by omega) e0 dL_law_929 ?_
      refine lv_aload_n hx hb dL_law_930 rfl (lv_at hl 1 rfl) ?_
      refine lv_iload hx hb dL_law_931 (lv_at hl 5 rfl) ?_
      refine lv_iconst (v := 2) hx hb dL_law_933 (by decide) ?_
      refine lv_iadd hx hb dL_law_934 ?_
      refine gtop (y := nI (q + 2)) (nI_add q 2) ?_
      refine gsld hx hb hX hbl hbA hS (j := q + 2) (by omega) (by omega) e1 dL_law_935 ?_
      refine lv_if_eq (tgt := 943) hx hb dL_law_936 (by decide) (fun _ => ?_) (fun c9 => absurd ez c9)
      refine lv_iconst (v := 0) hx hb dL_law_943 (by decide) ?_
      refine gciT (X := wX T Ad AF (vp_updL ho 0 (((sThaw (N j) 0 (D 3) 0)).toInt64)) D mny (updA N j (sThaw (N j) 0 (D 3))) (updA f j (sThawF (N j) (f j))) g rk rf rg rh) (va_runV (As := [.int p0, .int 0]) (rest := []) ⟨hx, hb, hml, hown, hts⟩ (kX3_decide l G T (Ad 5) (AF 8) I1 F j p0 0 _ hj) (cwV 2 hts gL_law_X3_decide rfl rfl rfl (by decide +kernel) ⟨Nat.le_of_ble_eq_true rfl, Nat.le_of_ble_eq_true rfl⟩) ⟨gblind, va_recv hK hP (ci := 3) (q0 := 68) rfl (wL_m (ho1 := ho) (D1 := D) (m1 := mny)), gpreT (X := wX T Ad AF (vp_updL ho 0 (((sThaw (N j) 0 (D 3) 0)).toInt64)) D mny (updA N j (sThaw (N j) 0 (D 3))) (updA f j (sThawF (N j) (f j))) g rk rf rg rh) hE hK hP hD hS hA⟩ rfl rfl hl.1 rfl (lv_room (Nat.le_of_ble_eq_true rfl)) dL_law_944 ⟨Nat.le_trans (by omega) hcl, Nat.le_trans (by omega) hsl⟩) hP hD hS hA cM_fst (fun r9 H locs hw hP hD hS => ?_)
      have hc : (cDecide F j p0) = 0 := hkc.symm.trans hk
      rw [if_pos hc, if_pos hc] at hP hD
      rw [if_pos hc] at hw
      subst hw
      have hP : va_P G vwCl (wX T Ad AF (vp_updL ho 0 (((sThaw (N j) 0 (D 3) 0)).toInt64)) D mny (updA N j (sThaw (N j) 0 (D 3))) (updA f j (sThawF (N j) (f j))) g rk rf rg rh ++ cM T (Ad 5) (AF 8) (upd I1 17 0) (mDecF I1 F j 0)) H := hP
      have hD : va_D (gA s) (wX T Ad AF (vp_updL ho 0 (((sThaw (N j) 0 (D 3) 0)).toInt64)) D mny (updA N j (sThaw (N j) 0 (D 3))) (updA f j (sThawF (N j) (f j))) g rk rf rg rh ++ cM T (Ad 5) (AF 8) (upd I1 17 0) (mDecF I1 F j 0)) := hD
      refine lv_istore (lv' := [(6, .int ((mDecF I1 F j 0 3 j))), (5, .int 0), (0, .ref b), (1, .ref (Ad 1)), (2, .ref (Ad 5)), (3, .ref (Ad 0)), (4, .int (nI q))]) hx hb dL_law_947 hl (by decide) rfl (fun ls hl => ?_)
      refine lv_aload_n hx hb dL_law_949 rfl (lv_at hl 4 rfl) ?_
      refine gciT (X := wX T Ad AF (vp_updL ho 0 (((sThaw (N j) 0 (D 3) 0)).toInt64)) D mny (updA N j (sThaw (N j) 0 (D 3))) (updA f j (sThawF (N j) (f j))) g rk rf rg rh) (va_runV (As := []) (rest := []) ⟨hx, hb, hml, hown, hts⟩ (kX3_thrown l G T (Ad 5) (AF 8) (upd I1 17 0) (mDecF I1 F j 0) _) (cwV 0 hts gL_law_X3_thrown rfl rfl rfl (by decide +kernel) ⟨Nat.le_of_ble_eq_true rfl, Nat.le_of_ble_eq_true rfl⟩) ⟨gblind, va_recv hK hP (ci := 3) (q0 := 68) rfl (wL_m (ho1 := ho) (D1 := D) (m1 := mny)), gpreT (X := wX T Ad AF (vp_updL ho 0 (((sThaw (N j) 0 (D 3) 0)).toInt64)) D mny (updA N j (sThaw (N j) 0 (D 3))) (updA f j (sThawF (N j) (f j))) g rk rf rg rh) hE hK hP hD hS hA⟩ rfl rfl hl.1 rfl (lv_room (Nat.le_of_ble_eq_true rfl)) dL_law_950 ⟨Nat.le_trans (by omega) hcl, Nat.le_trans (by omega) hsl⟩) hP hD hS hA cM_fst (fun r9 H locs hw hP hD hS => ?_)
      refine gtop (y := 0) hw ?_
      refine lv_iload hx hb dL_law_953 (lv_at hl 1 rfl) ?_
      refine lv_icmp_eq (tgt := 960) hx hb dL_law_955 (by decide) (fun _ => ?_) (fun c9 => absurd rfl c9)
      refine lv_iload hx hb dL_law_960 (lv_at hl 1 rfl) ?_
      refine lv_if_ne (tgt := 977) hx hb dL_law_962 (by decide) (fun c9 => absurd rfl c9) (fun _ => ?_)
      refine lv_aload_n hx hb dL_law_965 rfl (lv_at hl 5 rfl) ?_
      refine lv_iconst (v := 0) hx hb dL_law_966 (by decide) ?_
      refine glald (j := 0) hx hb hK hP 0 4 (wL_0 (ho1 := ho) (D1 := D) (m1 := mny)) rfl (show (0 : Int32) = nI 0 from rfl) (by omega) (by decide) dL_law_967 ?_
      obtain ⟨ea, hrel⟩ := hsim hk
      refine lv_iload hx hb dL_law_968 (lv_at hl 0 rfl) ?_
      refine lv_i2l (v := ((mDecF I1 F j 0 3 j)).toInt64) hx hb dL_law_970 rfl ?_
      refine W.lcmp hx hb dL_law_971 ?_
      refine gtop (y := 0) (lcmp0 (show ((sThaw (N j) 0 (D 3) 0)).toInt64 = ((mDecF I1 F j 0 3 j)).toInt64 from congrArg Int32.toInt64 ea)) ?_
      refine lv_if_eq (tgt := 977) hx hb dL_law_972 (by decide) (fun _ => ?_) (fun c9 => absurd rfl c9)
      refine lv_goto (tgt := 1261) hx hb dL_law_977 (by decide) ?_
      refine W.widen (k := cells + 5) (n := slots + 30) (by omega) (by omega) ?_
      exact kk _ _ _ ⟨_, _, _, _, _, _, _, _, _, _, _, _, hrel, hP, hD, hS⟩ (lv_sub hl [2, 3, 4, 5, 6] rfl)
    · skip
      refine gci (vx_runSW (As := [.ref (Ad 1), .int p0, .int 0, .ref (Ad 0)]) (rest := []) ⟨hx, hb, hml, hown, hts⟩ (kL_decide_no l hl0 G T (Ad 1) (Ad 2) (Ad 3) (Ad 4) D mny (AF 0) (AF 3) j (AF 1 j) (AF 2 j) (N j) (f j) (g j) p0 0 (Ad 0) ho _ hj hk) (vx_cwSW 4 hts gL_law_L_decide rfl rfl rfl (by decide +kernel) ⟨Nat.le_of_ble_eq_true rfl, Nat.le_of_ble_eq_true rfl⟩) ⟨gblind, gpre hE hK hP hD hS hA [0, 1, 2, 3, 4, 5 + 3 * j, 6 + 3 * j, 7 + 3 * j] (wL_ndN hj6) (wL_cutN (ho1 := ho) (D1 := D) (m1 := mny) hj6)⟩ rfl rfl hl.1 rfl (lv_room (Nat.le_of_ble_eq_true rfl)) dL_law_918 ⟨Nat.le_trans (by omega) hcl, Nat.le_trans (by omega) hsl⟩) hP hD hS hA [0, 1, 2, 3, 4, 5 + 3 * j, 6 + 3 * j, 7 + 3 * j] (wL_cutN (ho1 := ho) (D1 := D) (m1 := mny) hj6) rfl (fun r9 H locs hw hP hD hS => ?_)
      have hP := gfin hP (wL_repN hj6)
      have hD := gfinD hD (wL_repN hj6)
      try simp only [updA_self] at hP hD
      have hP : va_P G vwCl (wX T Ad AF ho D mny N f g rk rf rg rh ++ cM T (Ad 5) (AF 8) I1 F) H := hP
      have hD : va_D (gA s) (wX T Ad AF ho D mny N f g rk rf rg rh ++ cM T (Ad 5) (AF 8) I1 F) := hD
      subst hw
      obtain ⟨hkc, hsim⟩ := sim_decide hR (p0 := p0) (p1 := 0) hj6
      refine lv_istore (lv' := [(5, .int (w13 ((kDecide (N j) p0)))), (0, .ref b), (1, .ref (Ad 1)), (2, .ref (Ad 5)), (3, .ref (Ad 0)), (4, .int (nI q))]) hx hb dL_law_921 hl (by decide) rfl (fun ls hl => ?_)
      refine lv_aload_n hx hb dL_law_923 rfl (lv_at hl 3 rfl) ?_
      refine lv_aload_n hx hb dL_law_924 rfl (lv_at hl 1 rfl) ?_
      refine lv_iload hx hb dL_law_925 (lv_at hl 5 rfl) ?_
      refine lv_iconst (v := 1) hx hb dL_law_927 (by decide) ?_
      refine lv_iadd hx hb dL_law_928 ?_
      refine gtop (y := nI (q + 1)) (nI_add q 1) ?_
      refine gsld hx hb hX hbl hbA hS (j := q + 1) (by omega) (by omega) e0 dL_law_929 ?_
      refine lv_aload_n hx hb dL_law_930 rfl (lv_at hl 1 rfl) ?_
      refine lv_iload hx hb dL_law_931 (lv_at hl 5 rfl) ?_
      refine lv_iconst (v := 2) hx hb dL_law_933 (by decide) ?_
      refine lv_iadd hx hb dL_law_934 ?_
      refine gtop (y := nI (q + 2)) (nI_add q 2) ?_
      refine gsld hx hb hX hbl hbA hS (j := q + 2) (by omega) (by omega) e1 dL_law_935 ?_
      refine lv_if_eq (tgt := 943) hx hb dL_law_936 (by decide) (fun _ => ?_) (fun c9 => absurd ez c9)
      refine lv_iconst (v := 0) hx hb dL_law_943 (by decide) ?_
      refine gciT (X := wX T Ad AF ho D mny N f g rk rf rg rh) (va_runV (As := [.int p0, .int 0]) (rest := []) ⟨hx, hb, hml, hown, hts⟩ (kX3_decide l G T (Ad 5) (AF 8) I1 F j p0 0 _ hj) (cwV 2 hts gL_law_X3_decide rfl rfl rfl (by decide +kernel) ⟨Nat.le_of_ble_eq_true rfl, Nat.le_of_ble_eq_true rfl⟩) ⟨gblind, va_recv hK hP (ci := 3) (q0 := 68) rfl (wL_m (ho1 := ho) (D1 := D) (m1 := mny)), gpreT (X := wX T Ad AF ho D mny N f g rk rf rg rh) hE hK hP hD hS hA⟩ rfl rfl hl.1 rfl (lv_room (Nat.le_of_ble_eq_true rfl)) dL_law_944 ⟨Nat.le_trans (by omega) hcl, Nat.le_trans (by omega) hsl⟩) hP hD hS hA cM_fst (fun r9 H locs hw hP hD hS => ?_)
      have hc : ¬ (cDecide F j p0) = 0 := fun z => hk (hkc.trans z)
      rw [if_neg hc, if_neg hc] at hP hD
      rw [if_neg hc] at hw
      subst hw
      have hP : va_P G vwCl (wX T Ad AF ho D mny N f g rk rf rg rh ++ cM T (Ad 5) (AF 8) (upd I1 17 (w13 ((cDecide F j p0)))) F) H := hP
      have hD : va_D (gA s) (wX T Ad AF ho D mny N f g rk rf rg rh ++ cM T (Ad 5) (AF 8) (upd I1 17 (w13 ((cDecide F j p0)))) F) := hD
      refine lv_istore (lv' := [(6, .int (0)), (5, .int (w13 ((kDecide (N j) p0)))), (0, .ref b), (1, .ref (Ad 1)), (2, .ref (Ad 5)), (3, .ref (Ad 0)), (4, .int (nI q))]) hx hb dL_law_947 hl (by decide) rfl (fun ls hl => ?_)
      refine lv_aload_n hx hb dL_law_949 rfl (lv_at hl 4 rfl) ?_
      refine gciT (X := wX T Ad AF ho D mny N f g rk rf rg rh) (va_runV (As := []) (rest := []) ⟨hx, hb, hml, hown, hts⟩ (kX3_thrown l G T (Ad 5) (AF 8) (upd I1 17 (w13 ((cDecide F j p0)))) F _) (cwV 0 hts gL_law_X3_thrown rfl rfl rfl (by decide +kernel) ⟨Nat.le_of_ble_eq_true rfl, Nat.le_of_ble_eq_true rfl⟩) ⟨gblind, va_recv hK hP (ci := 3) (q0 := 68) rfl (wL_m (ho1 := ho) (D1 := D) (m1 := mny)), gpreT (X := wX T Ad AF ho D mny N f g rk rf rg rh) hE hK hP hD hS hA⟩ rfl rfl hl.1 rfl (lv_room (Nat.le_of_ble_eq_true rfl)) dL_law_950 ⟨Nat.le_trans (by omega) hcl, Nat.le_trans (by omega) hsl⟩) hP hD hS hA cM_fst (fun r9 H locs hw hP hD hS => ?_)
      refine gtop (y := w13 ((kDecide (N j) p0))) (hw.trans (show w13 ((cDecide F j p0)) = w13 ((kDecide (N j) p0)) by rw [hkc])) ?_
      refine lv_iload hx hb dL_law_953 (lv_at hl 1 rfl) ?_
      refine lv_icmp_eq (tgt := 960) hx hb dL_law_955 (by decide) (fun _ => ?_) (fun c9 => absurd rfl c9)
      refine lv_iload hx hb dL_law_960 (lv_at hl 1 rfl) ?_
      refine lv_if_ne (tgt := 977) hx hb dL_law_962 (by decide) (fun _ => ?_) (fun c9 => absurd c9 (w13_ne _ hk))
      refine lv_goto (tgt := 1261) hx hb dL_law_977 (by decide) ?_
      refine W.widen (k := cells + 5) (n := slots + 30) (by omega) (by omega) ?_
      exact kk _ _ _ ⟨_, _, _, _, _, _, _, _, _, _, _, _, hR.idle _, hP, hD, hS⟩ (lv_sub hl [2, 3, 4, 5, 6] rfl)
  · skip
    refine lv_aload_n hx hb dL_law_896 rfl (lv_at hl 1 rfl) ?_
    refine lv_aload_n hx hb dL_law_897 rfl (lv_at hl 0 rfl) ?_
    refine lv_iload hx hb dL_law_898 (lv_at hl 4 rfl) ?_
    refine lv_iconst (v := 1) hx hb dL_law_900 (by decide) ?_
    refine lv_iadd hx hb dL_law_901 ?_
    refine gtop (y := nI (q + 1)) (nI_add q 1) ?_
    refine gsld hx hb hX hbl hbA hS (j := q + 1) (by omega) (by omega) e0 dL_law_902 ?_
    refine lv_aload_n hx hb dL_law_903 rfl (lv_at hl 0 rfl) ?_
    refine lv_iload hx hb dL_law_904 (lv_at hl 4 rfl) ?_
    refine lv_iconst (v := 2) hx hb dL_law_906 (by decide) ?_
    refine lv_iadd hx hb dL_law_907 ?_
    refine gtop (y := nI (q + 2)) (nI_add q 2) ?_
    refine gsld hx hb hX hbl hbA hS (j := q + 2) (by omega) (by omega) e1 dL_law_908 ?_
    refine lv_if_eq (tgt := 916) hx hb dL_law_909 (by decide) (fun c9 => absurd c9 ez) (fun _ => ?_)
    refine lv_iconst (v := 1) hx hb dL_law_912 (by decide) ?_
    refine lv_goto (tgt := 917) hx hb dL_law_913 (by decide) ?_
    refine lv_aload_n hx hb dL_law_917 rfl (lv_at hl 3 rfl) ?_
    by_cases hk : (kDecide (N j) p0) = 0
    · skip
      refine gci (vx_runSW (As := [.ref (Ad 1), .int p0, .int 1, .ref (Ad 0)]) (rest := []) ⟨hx, hb, hml, hown, hts⟩ (kL_decide_ok l hl0 G T (Ad 1) (Ad 2) (Ad 3) (Ad 4) D mny (AF 0) (AF 3) j (AF 1 j) (AF 2 j) (N j) (f j) (g j) p0 1 (Ad 0) ho _ hj hk) (vx_cwSW 4 hts gL_law_L_decide rfl rfl rfl (by decide +kernel) ⟨Nat.le_of_ble_eq_true rfl, Nat.le_of_ble_eq_true rfl⟩) ⟨gblind, gpre hE hK hP hD hS hA [0, 1, 2, 3, 4, 5 + 3 * j, 6 + 3 * j, 7 + 3 * j] (wL_ndN hj6) (wL_cutN (ho1 := ho) (D1 := D) (m1 := mny) hj6)⟩ rfl rfl hl.1 rfl (lv_room (Nat.le_of_ble_eq_true rfl)) dL_law_918 ⟨Nat.le_trans (by omega) hcl, Nat.le_trans (by omega) hsl⟩) hP hD hS hA [0, 1, 2, 3, 4, 5 + 3 * j, 6 + 3 * j, 7 + 3 * j] (wL_cutN (ho1 := ho) (D1 := D) (m1 := mny) hj6) rfl (fun r9 H locs hw hP hD hS => ?_)
      have hP := gfin hP (wL_repN hj6)
      have hD := gfinD hD (wL_repN hj6)
      try simp only [updA_self] at hP hD
      have hP : va_P G vwCl (wX T Ad AF (vp_updL ho 0 (((sThaw (N j) 1 (D 3) 0)).toInt64)) D mny (updA N j (sThaw (N j) 1 (D 3))) (updA f j (sThawF (N j) (f j))) g rk rf rg rh ++ cM T (Ad 5) (AF 8) I1 F) H := hP
      have hD : va_D (gA s) (wX T Ad AF (vp_updL ho 0 (((sThaw (N j) 1 (D 3) 0)).toInt64)) D mny (updA N j (sThaw (N j) 1 (D 3))) (updA f j (sThawF (N j) (f j))) g rk rf rg rh ++ cM T (Ad 5) (AF 8) I1 F) := hD
      subst hw
      obtain ⟨hkc, hsim⟩ := sim_decide hR (p0 := p0) (p1 := 1) hj6
      refine lv_istore (lv' := [(5, .int 0), (0, .ref b), (1, .ref (Ad 1)), (2, .ref (Ad 5)), (3, .ref (Ad 0)), (4, .int (nI q))]) hx hb dL_law_921 hl (by decide) rfl (fun ls hl => ?_)
      refine lv_aload_n hx hb dL_law_923 rfl (lv_at hl 3 rfl) ?_
      refine lv_aload_n hx hb dL_law_924 rfl (lv_at hl 1 rfl) ?_
      refine lv_iload hx hb dL_law_925 (lv_at hl 5 rfl) ?_
      refine lv_iconst (v := 1) hx hb dL_law_927 (by decide) ?_
      refine lv_iadd hx hb dL_law_928 ?_
      refine gtop (y := nI (q + 1)) (nI_add q 1) ?_
      refine gsld hx hb hX hbl hbA hS (j := q + 1) (by omega) (by omega) e0 dL_law_929 ?_
      refine lv_aload_n hx hb dL_law_930 rfl (lv_at hl 1 rfl) ?_
      refine lv_iload hx hb dL_law_931 (lv_at hl 5 rfl) ?_
      refine lv_iconst (v := 2) hx hb dL_law_933 (by decide) ?_
      refine lv_iadd hx hb dL_law_934 ?_
      refine gtop (y := nI (q + 2)) (nI_add q 2) ?_
      refine gsld hx hb hX hbl hbA hS (j := q + 2) (by omega) (by omega) e1 dL_law_935 ?_
      refine lv_if_eq (tgt := 943) hx hb dL_law_936 (by decide) (fun c9 => absurd c9 ez) (fun _ => ?_)
      refine lv_iconst (v := 1) hx hb dL_law_939 (by decide) ?_
      refine lv_goto (tgt := 944) hx hb dL_law_940 (by decide) ?_
      refine gciT (X := wX T Ad AF (vp_updL ho 0 (((sThaw (N j) 1 (D 3) 0)).toInt64)) D mny (updA N j (sThaw (N j) 1 (D 3))) (updA f j (sThawF (N j) (f j))) g rk rf rg rh) (va_runV (As := [.int p0, .int 1]) (rest := []) ⟨hx, hb, hml, hown, hts⟩ (kX3_decide l G T (Ad 5) (AF 8) I1 F j p0 1 _ hj) (cwV 2 hts gL_law_X3_decide rfl rfl rfl (by decide +kernel) ⟨Nat.le_of_ble_eq_true rfl, Nat.le_of_ble_eq_true rfl⟩) ⟨gblind, va_recv hK hP (ci := 3) (q0 := 68) rfl (wL_m (ho1 := ho) (D1 := D) (m1 := mny)), gpreT (X := wX T Ad AF (vp_updL ho 0 (((sThaw (N j) 1 (D 3) 0)).toInt64)) D mny (updA N j (sThaw (N j) 1 (D 3))) (updA f j (sThawF (N j) (f j))) g rk rf rg rh) hE hK hP hD hS hA⟩ rfl rfl hl.1 rfl (lv_room (Nat.le_of_ble_eq_true rfl)) dL_law_944 ⟨Nat.le_trans (by omega) hcl, Nat.le_trans (by omega) hsl⟩) hP hD hS hA cM_fst (fun r9 H locs hw hP hD hS => ?_)
      have hc : (cDecide F j p0) = 0 := hkc.symm.trans hk
      rw [if_pos hc, if_pos hc] at hP hD
      rw [if_pos hc] at hw
      subst hw
      have hP : va_P G vwCl (wX T Ad AF (vp_updL ho 0 (((sThaw (N j) 1 (D 3) 0)).toInt64)) D mny (updA N j (sThaw (N j) 1 (D 3))) (updA f j (sThawF (N j) (f j))) g rk rf rg rh ++ cM T (Ad 5) (AF 8) (upd I1 17 0) (mDecF I1 F j 1)) H := hP
      have hD : va_D (gA s) (wX T Ad AF (vp_updL ho 0 (((sThaw (N j) 1 (D 3) 0)).toInt64)) D mny (updA N j (sThaw (N j) 1 (D 3))) (updA f j (sThawF (N j) (f j))) g rk rf rg rh ++ cM T (Ad 5) (AF 8) (upd I1 17 0) (mDecF I1 F j 1)) := hD
      refine lv_istore (lv' := [(6, .int ((mDecF I1 F j 1 3 j))), (5, .int 0), (0, .ref b), (1, .ref (Ad 1)), (2, .ref (Ad 5)), (3, .ref (Ad 0)), (4, .int (nI q))]) hx hb dL_law_947 hl (by decide) rfl (fun ls hl => ?_)
      refine lv_aload_n hx hb dL_law_949 rfl (lv_at hl 4 rfl) ?_
      refine gciT (X := wX T Ad AF (vp_updL ho 0 (((sThaw (N j) 1 (D 3) 0)).toInt64)) D mny (updA N j (sThaw (N j) 1 (D 3))) (updA f j (sThawF (N j) (f j))) g rk rf rg rh) (va_runV (As := []) (rest := []) ⟨hx, hb, hml, hown, hts⟩ (kX3_thrown l G T (Ad 5) (AF 8) (upd I1 17 0) (mDecF I1 F j 1) _) (cwV 0 hts gL_law_X3_thrown rfl rfl rfl (by decide +kernel) ⟨Nat.le_of_ble_eq_true rfl, Nat.le_of_ble_eq_true rfl⟩) ⟨gblind, va_recv hK hP (ci := 3) (q0 := 68) rfl (wL_m (ho1 := ho) (D1 := D) (m1 := mny)), gpreT (X := wX T Ad AF (vp_updL ho 0 (((sThaw (N j) 1 (D 3) 0)).toInt64)) D mny (updA N j (sThaw (N j) 1 (D 3))) (updA f j (sThawF (N j) (f j))) g rk rf rg rh) hE hK hP hD hS hA⟩ rfl rfl hl.1 rfl (lv_room (Nat.le_of_ble_eq_true rfl)) dL_law_950 ⟨Nat.le_trans (by omega) hcl, Nat.le_trans (by omega) hsl⟩) hP hD hS hA cM_fst (fun r9 H locs hw hP hD hS => ?_)
      refine gtop (y := 0) hw ?_
      refine lv_iload hx hb dL_law_953 (lv_at hl 1 rfl) ?_
      refine lv_icmp_eq (tgt := 960) hx hb dL_law_955 (by decide) (fun _ => ?_) (fun c9 => absurd rfl c9)
      refine lv_iload hx hb dL_law_960 (lv_at hl 1 rfl) ?_
      refine lv_if_ne (tgt := 977) hx hb dL_law_962 (by decide) (fun c9 => absurd rfl c9) (fun _ => ?_)
      refine lv_aload_n hx hb dL_law_965 rfl (lv_at hl 5 rfl) ?_
      refine lv_iconst (v := 0) hx hb dL_law_966 (by decide) ?_
      refine glald (j := 0) hx hb hK hP 0 4 (wL_0 (ho1 := ho) (D1 := D) (m1 := mny)) rfl (show (0 : Int32) = nI 0 from rfl) (by omega) (by decide) dL_law_967 ?_
      obtain ⟨ea, hrel⟩ := hsim hk
      refine lv_iload hx hb dL_law_968 (lv_at hl 0 rfl) ?_
      refine lv_i2l (v := ((mDecF I1 F j 1 3 j)).toInt64) hx hb dL_law_970 rfl ?_
      refine W.lcmp hx hb dL_law_971 ?_
      refine gtop (y := 0) (lcmp0 (show ((sThaw (N j) 1 (D 3) 0)).toInt64 = ((mDecF I1 F j 1 3 j)).toInt64 from congrArg Int32.toInt64 ea)) ?_
      refine lv_if_eq (tgt := 977) hx hb dL_law_972 (by decide) (fun _ => ?_) (fun c9 => absurd rfl c9)
      refine lv_goto (tgt := 1261) hx hb dL_law_977 (by decide) ?_
      refine W.widen (k := cells + 5) (n := slots + 30) (by omega) (by omega) ?_
      exact kk _ _ _ ⟨_, _, _, _, _, _, _, _, _, _, _, _, hrel, hP, hD, hS⟩ (lv_sub hl [2, 3, 4, 5, 6] rfl)
    · skip
      refine gci (vx_runSW (As := [.ref (Ad 1), .int p0, .int 1, .ref (Ad 0)]) (rest := []) ⟨hx, hb, hml, hown, hts⟩ (kL_decide_no l hl0 G T (Ad 1) (Ad 2) (Ad 3) (Ad 4) D mny (AF 0) (AF 3) j (AF 1 j) (AF 2 j) (N j) (f j) (g j) p0 1 (Ad 0) ho _ hj hk) (vx_cwSW 4 hts gL_law_L_decide rfl rfl rfl (by decide +kernel) ⟨Nat.le_of_ble_eq_true rfl, Nat.le_of_ble_eq_true rfl⟩) ⟨gblind, gpre hE hK hP hD hS hA [0, 1, 2, 3, 4, 5 + 3 * j, 6 + 3 * j, 7 + 3 * j] (wL_ndN hj6) (wL_cutN (ho1 := ho) (D1 := D) (m1 := mny) hj6)⟩ rfl rfl hl.1 rfl (lv_room (Nat.le_of_ble_eq_true rfl)) dL_law_918 ⟨Nat.le_trans (by omega) hcl, Nat.le_trans (by omega) hsl⟩) hP hD hS hA [0, 1, 2, 3, 4, 5 + 3 * j, 6 + 3 * j, 7 + 3 * j] (wL_cutN (ho1 := ho) (D1 := D) (m1 := mny) hj6) rfl (fun r9 H locs hw hP hD hS => ?_)
      have hP := gfin hP (wL_repN hj6)
      have hD := gfinD hD (wL_repN hj6)
      try simp only [updA_self] at hP hD
      have hP : va_P G vwCl (wX T Ad AF ho D mny N f g rk rf rg rh ++ cM T (Ad 5) (AF 8) I1 F) H := hP
      have hD : va_D (gA s) (wX T Ad AF ho D mny N f g rk rf rg rh ++ cM T (Ad 5) (AF 8) I1 F) := hD
      subst hw
      obtain ⟨hkc, hsim⟩ := sim_decide hR (p0 := p0) (p1 := 1) hj6
      refine lv_istore (lv' := [(5, .int (w13 ((kDecide (N j) p0)))), (0, .ref b), (1, .ref (Ad 1)), (2, .ref (Ad 5)), (3, .ref (Ad 0)), (4, .int (nI q))]) hx hb dL_law_921 hl (by decide) rfl (fun ls hl => ?_)
      refine lv_aload_n hx hb dL_law_923 rfl (lv_at hl 3 rfl) ?_
      refine lv_aload_n hx hb dL_law_924 rfl (lv_at hl 1 rfl) ?_
      refine lv_iload hx hb dL_law_925 (lv_at hl 5 rfl) ?_
      refine lv_iconst (v := 1) hx hb dL_law_927 (by decide) ?_
      refine lv_iadd hx hb dL_law_928 ?_
      refine gtop (y := nI (q + 1)) (nI_add q 1) ?_
      refine gsld hx hb hX hbl hbA hS (j := q + 1) (by omega) (by omega) e0 dL_law_929 ?_
      refine lv_aload_n hx hb dL_law_930 rfl (lv_at hl 1 rfl) ?_
      refine lv_iload hx hb dL_law_931 (lv_at hl 5 rfl) ?_
      refine lv_iconst (v := 2) hx hb dL_law_933 (by decide) ?_
      refine lv_iadd hx hb dL_law_934 ?_
      refine gtop (y := nI (q + 2)) (nI_add q 2) ?_
      refine gsld hx hb hX hbl hbA hS (j := q + 2) (by omega) (by omega) e1 dL_law_935 ?_
      refine lv_if_eq (tgt := 943) hx hb dL_law_936 (by decide) (fun c9 => absurd c9 ez) (fun _ => ?_)
      refine lv_iconst (v := 1) hx hb dL_law_939 (by decide) ?_
      refine lv_goto (tgt := 944) hx hb dL_law_940 (by decide) ?_
      refine gciT (X := wX T Ad AF ho D mny N f g rk rf rg rh) (va_runV (As := [.int p0, .int 1]) (rest := []) ⟨hx, hb, hml, hown, hts⟩ (kX3_decide l G T (Ad 5) (AF 8) I1 F j p0 1 _ hj) (cwV 2 hts gL_law_X3_decide rfl rfl rfl (by decide +kernel) ⟨Nat.le_of_ble_eq_true rfl, Nat.le_of_ble_eq_true rfl⟩) ⟨gblind, va_recv hK hP (ci := 3) (q0 := 68) rfl (wL_m (ho1 := ho) (D1 := D) (m1 := mny)), gpreT (X := wX T Ad AF ho D mny N f g rk rf rg rh) hE hK hP hD hS hA⟩ rfl rfl hl.1 rfl (lv_room (Nat.le_of_ble_eq_true rfl)) dL_law_944 ⟨Nat.le_trans (by omega) hcl, Nat.le_trans (by omega) hsl⟩) hP hD hS hA cM_fst (fun r9 H locs hw hP hD hS => ?_)
      have hc : ¬ (cDecide F j p0) = 0 := fun z => hk (hkc.trans z)
      rw [if_neg hc, if_neg hc] at hP hD
      rw [if_neg hc] at hw
      subst hw
      have hP : va_P G vwCl (wX T Ad AF ho D mny N f g rk rf rg rh ++ cM T (Ad 5) (AF 8) (upd I1 17 (w13 ((cDecide F j p0)))) F) H := hP
      have hD : va_D (gA s) (wX T Ad AF ho D mny N f g rk rf rg rh ++ cM T (Ad 5) (AF 8) (upd I1 17 (w13 ((cDecide F j p0)))) F) := hD
      refine lv_istore (lv' := [(6, .int (0)), (5, .int (w13 ((kDecide (N j) p0)))), (0, .ref b), (1, .ref (Ad 1)), (2, .ref (Ad 5)), (3, .ref (Ad 0)), (4, .int (nI q))]) hx hb dL_law_947 hl (by decide) rfl (fun ls hl => ?_)
      refine lv_aload_n hx hb dL_law_949 rfl (lv_at hl 4 rfl) ?_
      refine gciT (X := wX T Ad AF ho D mny N f g rk rf rg rh) (va_runV (As := []) (rest := []) ⟨hx, hb, hml, hown, hts⟩ (kX3_thrown l G T (Ad 5) (AF 8) (upd I1 17 (w13 ((cDecide F j p0)))) F _) (cwV 0 hts gL_law_X3_thrown rfl rfl rfl (by decide +kernel) ⟨Nat.le_of_ble_eq_true rfl, Nat.le_of_ble_eq_true rfl⟩) ⟨gblind, va_recv hK hP (ci := 3) (q0 := 68) rfl (wL_m (ho1 := ho) (D1 := D) (m1 := mny)), gpreT (X := wX T Ad AF ho D mny N f g rk rf rg rh) hE hK hP hD hS hA⟩ rfl rfl hl.1 rfl (lv_room (Nat.le_of_ble_eq_true rfl)) dL_law_950 ⟨Nat.le_trans (by omega) hcl, Nat.le_trans (by omega) hsl⟩) hP hD hS hA cM_fst (fun r9 H locs hw hP hD hS => ?_)
      refine gtop (y := w13 ((kDecide (N j) p0))) (hw.trans (show w13 ((cDecide F j p0)) = w13 ((kDecide (N j) p0)) by rw [hkc])) ?_
      refine lv_iload hx hb dL_law_953 (lv_at hl 1 rfl) ?_
      refine lv_icmp_eq (tgt := 960) hx hb dL_law_955 (by decide) (fun _ => ?_) (fun c9 => absurd rfl c9)
      refine lv_iload hx hb dL_law_960 (lv_at hl 1 rfl) ?_
      refine lv_if_ne (tgt := 977) hx hb dL_law_962 (by decide) (fun _ => ?_) (fun c9 => absurd c9 (w13_ne _ hk))
      refine lv_goto (tgt := 1261) hx hb dL_law_977 (by decide) ?_
      refine W.widen (k := cells + 5) (n := slots + 30) (by omega) (by omega) ?_
      exact kk _ _ _ ⟨_, _, _, _, _, _, _, _, _, _, _, _, hR.idle _, hP, hD, hS⟩ (lv_sub hl [2, 3, 4, 5, 6] rfl)
end LAWOPS
