/-! THE LAW'S CALLS: pass, lookUp, isStale, flush -/
theorem mGoI_17 (I1 : Nat → Int32) (F : Nat → Nat → Int32) (j : Nat) : mGoI I1 F j 17 = I1 17 := by
  unfold mGoI
  split
  · split
    · rw [mClI]
      cases mBest F j (-1) 6 with
      | none => rfl
      | some w => rfl
    · rfl
  · rfl
theorem mChg_17 (i : Nat) (S : MS) : (mChg i S).1 17 = S.1 17 := by
  induction i with
  | zero => rfl
  | succ i ih =>
    rw [mChg]
    generalize mChg i S = S2 at ih
    obtain ⟨I2, F2, n2⟩ := S2
    dsimp only at ih ⊢
    rw [mGoI_17]; exact ih
theorem mDays_17 (k : Nat) (S : MS) : (mDays k S).1 17 = S.1 17 := by
  induction k with
  | zero => rfl
  | succ k ih =>
    rw [mDays, mDay1, mChg_17]
    exact ih
section LAWOPS
variable {p : Program} {l : Launch} {e : Env} {s : State} {m : MethodId} {below : List Frame} {meth : Method} {c : Code} {b L : Nat} {xs : Nat → Int32} {G : va_G} {T : Nat → ClassId} {aK aV : Nat → Nat} {Ad : Nat → Nat} {AF : Nat → Nat → Nat} {H : Heap} {locs : List Loc} {ls : Array Slot} {cells slots n q : Nat} {Q : State → Prop}
set_option maxHeartbeats 8000000 in
set_option maxRecDepth 100000 in
theorem op_pass (C : gLC p s m c b L xs G T aK aV) (hl0 : l.stackTraces = false) (hcl : cells + 5 ≤ 631168) (hsl : slots + 30 ≤ 7202601) (hn : n < 512) (hq : q + 4 ≤ L) (h : gLS n G T Ad AF s H locs) (hl : lv_has ls 7 [(0, .ref b), (1, .ref (Ad 1)), (2, .ref (Ad 5)), (3, .ref (Ad 0)), (4, .int (nI q))])
    (kk : ∀ (H : Heap) (locs : List Loc) (ls : Array Slot), gLS (n + 1) G T Ad AF s H locs → lv_has ls 7 [(0, .ref b), (1, .ref (Ad 1)), (2, .ref (Ad 5)), (3, .ref (Ad 0)), (4, .int (nI q))] → W p l e room_1 s m #[Value.ref b] below meth c H locs (cells + 5) (slots + 30) Q (F0 m 1261 ls [])) : W p l e room_1 s m #[Value.ref b] below meth c H locs cells slots Q (F0 m 980 ls []) := by
  obtain ⟨hx, hb, hml, hown, hts, hX, hbl, hK, hE, hWs, hL⟩ := id C
  have hA : ∀ q : Nat, s.heap.size ≤ q → gA s q := fun _ h => h
  have hbA : ¬ gA s b := Nat.not_le.mpr hbl
  obtain ⟨D, mny, N, f, g, rk, rf, rg, rh, I1, F, ho, hR, hP, hD, hS⟩ := h
  obtain ⟨p0, e0⟩ : ∃ y : Int32, y = xs (q + 1) := ⟨_, rfl⟩
  refine lv_aload_n hx hb dL_law_980 rfl (lv_at hl 1 rfl) ?_
  refine lv_aload_n hx hb dL_law_981 rfl (lv_at hl 0 rfl) ?_
  refine lv_iload hx hb dL_law_982 (lv_at hl 4 rfl) ?_
  refine lv_iconst (v := 1) hx hb dL_law_984 (by decide) ?_
  refine lv_iadd hx hb dL_law_985 ?_
  refine gtop (y := nI (q + 1)) (nI_add q 1) ?_
  refine gsld hx hb hX hbl hbA hS (j := q + 1) (by omega) (by omega) e0 dL_law_986 ?_
  refine lv_aload_n hx hb dL_law_987 rfl (lv_at hl 3 rfl) ?_
  by_cases hk : (kDays p0) = 0
  · skip
    have hP : va_P G vwCl ((cRs T (AF 3) (AF 4) (AF 5) (AF 6) (AF 7) rk rf rg rh ++ cM T (Ad 5) (AF 8) I1 F) ++ (([(Ad 0, .inl (T 4, 1, .inr (.inl ho)))] : va_W) ++ cA T (Ad 1) (Ad 2) (Ad 3) (Ad 4) D mny (AF 0) (AF 3) ++ cNs T (AF 0) (AF 1) (AF 2) N f g)) H := gswapP (X := ([(Ad 0, .inl (T 4, 1, .inr (.inl ho)))] : va_W) ++ cA T (Ad 1) (Ad 2) (Ad 3) (Ad 4) D mny (AF 0) (AF 3) ++ cNs T (AF 0) (AF 1) (AF 2) N f g) (Y := cRs T (AF 3) (AF 4) (AF 5) (AF 6) (AF 7) rk rf rg rh ++ cM T (Ad 5) (AF 8) I1 F) (gfin hP wL_pass)
    have hD : va_D (gA s) ((cRs T (AF 3) (AF 4) (AF 5) (AF 6) (AF 7) rk rf rg rh ++ cM T (Ad 5) (AF 8) I1 F) ++ (([(Ad 0, .inl (T 4, 1, .inr (.inl ho)))] : va_W) ++ cA T (Ad 1) (Ad 2) (Ad 3) (Ad 4) D mny (AF 0) (AF 3) ++ cNs T (AF 0) (AF 1) (AF 2) N f g)) := gswapD (X := ([(Ad 0, .inl (T 4, 1, .inr (.inl ho)))] : va_W) ++ cA T (Ad 1) (Ad 2) (Ad 3) (Ad 4) D mny (AF 0) (AF 3) ++ cNs T (AF 0) (AF 1) (AF 2) N f g) (Y := cRs T (AF 3) (AF 4) (AF 5) (AF 6) (AF 7) rk rf rg rh ++ cM T (Ad 5) (AF 8) I1 F) (gfinD hD wL_pass)
    refine gciT (X := cRs T (AF 3) (AF 4) (AF 5) (AF 6) (AF 7) rk rf rg rh ++ cM T (Ad 5) (AF 8) I1 F) (vx_runSW (As := [.ref (Ad 1), .int p0, .ref (Ad 0)]) (rest := []) ⟨hx, hb, hml, hown, hts⟩ (kL_pass_ok l hl0 G T (Ad 1) (Ad 2) (Ad 3) (Ad 4) D mny (AF 3) (AF 0) (AF 1) (AF 2) N f g p0 (Ad 0) ho _  hk) (vx_cwSW 3 hts gL_law_L_pass rfl rfl rfl (by decide +kernel) ⟨Nat.le_of_ble_eq_true rfl, Nat.le_of_ble_eq_true rfl⟩) ⟨gblind, gpreT (X := cRs T (AF 3) (AF 4) (AF 5) (AF 6) (AF 7) rk rf rg rh ++ cM T (Ad 5) (AF 8) I1 F) hE hK hP hD hS hA⟩ rfl rfl hl.1 rfl (lv_room (Nat.le_of_ble_eq_true rfl)) dL_law_988 ⟨Nat.le_trans (by omega) hcl, Nat.le_trans (by omega) hsl⟩) hP hD hS hA rfl (fun r9 H locs hw hP hD hS => ?_)
    have hP : va_P G vwCl (wX T Ad AF (vp_updL ho 0 ((((sDays g p0.toNatClampNeg (D, mny, N, f, 0)).2.2.2.2)).toInt64)) ((sDays g p0.toNatClampNeg (D, mny, N, f, 0)).1) ((sDays g p0.toNatClampNeg (D, mny, N, f, 0)).2.1) ((sDays g p0.toNatClampNeg (D, mny, N, f, 0)).2.2.1) ((sDays g p0.toNatClampNeg (D, mny, N, f, 0)).2.2.2.1) g rk rf rg rh ++ cM T (Ad 5) (AF 8) I1 F) H := gfin (gswapP hP) wL_pass.symm
    have hD : va_D (gA s) (wX T Ad AF (vp_updL ho 0 ((((sDays g p0.toNatClampNeg (D, mny, N, f, 0)).2.2.2.2)).toInt64)) ((sDays g p0.toNatClampNeg (D, mny, N, f, 0)).1) ((sDays g p0.toNatClampNeg (D, mny, N, f, 0)).2.1) ((sDays g p0.toNatClampNeg (D, mny, N, f, 0)).2.2.1) ((sDays g p0.toNatClampNeg (D, mny, N, f, 0)).2.2.2.1) g rk rf rg rh ++ cM T (Ad 5) (AF 8) I1 F) := gfinD (gswapD hD) wL_pass.symm
    subst hw
    have hkc : (kDays p0) = (kDays p0) := rfl
    have hsim := fun hk : kDays p0 = 0 => sim_pass hR hn hk
    refine lv_istore (lv' := [(5, .int 0), (0, .ref b), (1, .ref (Ad 1)), (2, .ref (Ad 5)), (3, .ref (Ad 0)), (4, .int (nI q))]) hx hb dL_law_991 hl (by decide) rfl (fun ls hl => ?_)
    refine lv_aload_n hx hb dL_law_993 rfl (lv_at hl 3 rfl) ?_
    refine lv_aload_n hx hb dL_law_994 rfl (lv_at hl 1 rfl) ?_
    refine lv_iload hx hb dL_law_995 (lv_at hl 5 rfl) ?_
    refine lv_iconst (v := 1) hx hb dL_law_997 (by decide) ?_
    refine lv_iadd hx hb dL_law_998 ?_
    refine gtop (y := nI (q + 1)) (nI_add q 1) ?_
    refine gsld hx hb hX hbl hbA hS (j := q + 1) (by omega) (by omega) e0 dL_law_999 ?_
    refine gciT (X := wX T Ad AF (vp_updL ho 0 ((((sDays g p0.toNatClampNeg (D, mny, N, f, 0)).2.2.2.2)).toInt64)) ((sDays g p0.toNatClampNeg (D, mny, N, f, 0)).1) ((sDays g p0.toNatClampNeg (D, mny, N, f, 0)).2.1) ((sDays g p0.toNatClampNeg (D, mny, N, f, 0)).2.2.1) ((sDays g p0.toNatClampNeg (D, mny, N, f, 0)).2.2.2.1) g rk rf rg rh) (va_runV (As := [.int p0]) (rest := []) ⟨hx, hb, hml, hown, hts⟩ (kX3_pass l G T (Ad 5) (AF 8) I1 F p0 _ ) (cwV 1 hts gL_law_X3_pass rfl rfl rfl (by decide +kernel) ⟨Nat.le_of_ble_eq_true rfl, Nat.le_of_ble_eq_true rfl⟩) ⟨gblind, va_recv hK hP (ci := 3) (q0 := 68) rfl (wL_m (ho1 := ho) (D1 := D) (m1 := mny)), gpreT (X := wX T Ad AF (vp_updL ho 0 ((((sDays g p0.toNatClampNeg (D, mny, N, f, 0)).2.2.2.2)).toInt64)) ((sDays g p0.toNatClampNeg (D, mny, N, f, 0)).1) ((sDays g p0.toNatClampNeg (D, mny, N, f, 0)).2.1) ((sDays g p0.toNatClampNeg (D, mny, N, f, 0)).2.2.1) ((sDays g p0.toNatClampNeg (D, mny, N, f, 0)).2.2.2.1) g rk rf rg rh) hE hK hP hD hS hA⟩ rfl rfl hl.1 rfl (lv_room (Nat.le_of_ble_eq_true rfl)) dL_law_1000 ⟨Nat.le_trans (by omega) hcl, Nat.le_trans (by omega) hsl⟩) hP hD hS hA cM_fst (fun r9 H locs hw hP hD hS => ?_)
    have hc : (kDays p0) = 0 := hkc.symm.trans hk
    rw [if_pos hc, if_pos hc] at hP hD
    rw [if_pos hc] at hw
    subst hw
    have hP : va_P G vwCl (wX T Ad AF (vp_updL ho 0 ((((sDays g p0.toNatClampNeg (D, mny, N, f, 0)).2.2.2.2)).toInt64)) ((sDays g p0.toNatClampNeg (D, mny, N, f, 0)).1) ((sDays g p0.toNatClampNeg (D, mny, N, f, 0)).2.1) ((sDays g p0.toNatClampNeg (D, mny, N, f, 0)).2.2.1) ((sDays g p0.toNatClampNeg (D, mny, N, f, 0)).2.2.2.1) g rk rf rg rh ++ cM T (Ad 5) (AF 8) ((mDays p0.toNatClampNeg ((upd I1 17 0), F, 0)).1) ((mDays p0.toNatClampNeg ((upd I1 17 0), F, 0)).2.1)) H := hP
    have hD : va_D (gA s) (wX T Ad AF (vp_updL ho 0 ((((sDays g p0.toNatClampNeg (D, mny, N, f, 0)).2.2.2.2)).toInt64)) ((sDays g p0.toNatClampNeg (D, mny, N, f, 0)).1) ((sDays g p0.toNatClampNeg (D, mny, N, f, 0)).2.1) ((sDays g p0.toNatClampNeg (D, mny, N, f, 0)).2.2.1) ((sDays g p0.toNatClampNeg (D, mny, N, f, 0)).2.2.2.1) g rk rf rg rh ++ cM T (Ad 5) (AF 8) ((mDays p0.toNatClampNeg ((upd I1 17 0), F, 0)).1) ((mDays p0.toNatClampNeg ((upd I1 17 0), F, 0)).2.1)) := hD
    refine lv_istore (lv' := [(6, .int (((mDays p0.toNatClampNeg ((upd I1 17 0), F, 0)).2.2))), (5, .int 0), (0, .ref b), (1, .ref (Ad 1)), (2, .ref (Ad 5)), (3, .ref (Ad 0)), (4, .int (nI q))]) hx hb dL_law_1003 hl (by decide) rfl (fun ls hl => ?_)
    refine lv_aload_n hx hb dL_law_1005 rfl (lv_at hl 4 rfl) ?_
    refine gciT (X := wX T Ad AF (vp_updL ho 0 ((((sDays g p0.toNatClampNeg (D, mny, N, f, 0)).2.2.2.2)).toInt64)) ((sDays g p0.toNatClampNeg (D, mny, N, f, 0)).1) ((sDays g p0.toNatClampNeg (D, mny, N, f, 0)).2.1) ((sDays g p0.toNatClampNeg (D, mny, N, f, 0)).2.2.1) ((sDays g p0.toNatClampNeg (D, mny, N, f, 0)).2.2.2.1) g rk rf rg rh) (va_runV (As := []) (rest := []) ⟨hx, hb, hml, hown, hts⟩ (kX3_thrown l G T (Ad 5) (AF 8) ((mDays p0.toNatClampNeg ((upd I1 17 0), F, 0)).1) ((mDays p0.toNatClampNeg ((upd I1 17 0), F, 0)).2.1) _) (cwV 0 hts gL_law_X3_thrown rfl rfl rfl (by decide +kernel) ⟨Nat.le_of_ble_eq_true rfl, Nat.le_of_ble_eq_true rfl⟩) ⟨gblind, va_recv hK hP (ci := 3) (q0 := 68) rfl (wL_m (ho1 := ho) (D1 := D) (m1 := mny)), gpreT (X := wX T Ad AF (vp_updL ho 0 ((((sDays g p0.toNatClampNeg (D, mny, N, f, 0)).2.2.2.2)).toInt64)) ((sDays g p0.toNatClampNeg (D, mny, N, f, 0)).1) ((sDays g p0.toNatClampNeg (D, mny, N, f, 0)).2.1) ((sDays g p0.toNatClampNeg (D, mny, N, f, 0)).2.2.1) ((sDays g p0.toNatClampNeg (D, mny, N, f, 0)).2.2.2.1) g rk rf rg rh) hE hK hP hD hS hA⟩ rfl rfl hl.1 rfl (lv_room (Nat.le_of_ble_eq_true rfl)) dL_law_1006 ⟨Nat.le_trans (by omega) hcl, Nat.le_trans (by omega) hsl⟩) hP hD hS hA cM_fst (fun r9 H locs hw hP hD hS => ?_)
    refine gtop (y := 0) (hw.trans ((mDays_17 _ _).trans rfl)) ?_
    refine lv_iload hx hb dL_law_1009 (lv_at hl 1 rfl) ?_
    refine lv_icmp_eq (tgt := 1016) hx hb dL_law_1011 (by decide) (fun _ => ?_) (fun c9 => absurd rfl c9)
    refine lv_iload hx hb dL_law_1016 (lv_at hl 1 rfl) ?_
    refine lv_if_ne (tgt := 1033) hx hb dL_law_1018 (by decide) (fun c9 => absurd rfl c9) (fun _ => ?_)
    refine lv_aload_n hx hb dL_law_1021 rfl (lv_at hl 5 rfl) ?_
    refine lv_iconst (v := 0) hx hb dL_law_1022 (by decide) ?_
    refine glald (j := 0) hx hb hK hP 0 4 (wL_0 (ho1 := ho) (D1 := D) (m1 := mny)) rfl (show (0 : Int32) = nI 0 from rfl) (by omega) (by decide) dL_law_1023 ?_
    obtain ⟨ea, hrel⟩ := hsim hk
    refine lv_iload hx hb dL_law_1024 (lv_at hl 0 rfl) ?_
    refine lv_i2l (v := (((mDays p0.toNatClampNeg ((upd I1 17 0), F, 0)).2.2)).toInt64) hx hb dL_law_1026 rfl ?_
    refine W.lcmp hx hb dL_law_1027 ?_
    refine gtop (y := 0) (lcmp0 (show (((sDays g p0.toNatClampNeg (D, mny, N, f, 0)).2.2.2.2)).toInt64 = (((mDays p0.toNatClampNeg ((upd I1 17 0), F, 0)).2.2)).toInt64 from congrArg Int32.toInt64 ea)) ?_
    refine lv_if_eq (tgt := 1033) hx hb dL_law_1028 (by decide) (fun _ => ?_) (fun c9 => absurd rfl c9)
    refine lv_goto (tgt := 1261) hx hb dL_law_1033 (by decide) ?_
    refine W.widen (k := cells + 5) (n := slots + 30) (by omega) (by omega) ?_
    exact kk _ _ _ ⟨_, _, _, _, _, _, _, _, _, _, _, _, hrel, hP, hD, hS⟩ (lv_sub hl [2, 3, 4, 5, 6] rfl)
  · skip
    have hP : va_P G vwCl ((cRs T (AF 3) (AF 4) (AF 5) (AF 6) (AF 7) rk rf rg rh ++ cM T (Ad 5) (AF 8) I1 F) ++ (([(Ad 0, .inl (T 4, 1, .inr (.inl ho)))] : va_W) ++ cA T (Ad 1) (Ad 2) (Ad 3) (Ad 4) D mny (AF 0) (AF 3) ++ cNs T (AF 0) (AF 1) (AF 2) N f g)) H := gswapP (X := ([(Ad 0, .inl (T 4, 1, .inr (.inl ho)))] : va_W) ++ cA T (Ad 1) (Ad 2) (Ad 3) (Ad 4) D mny (AF 0) (AF 3) ++ cNs T (AF 0) (AF 1) (AF 2) N f g) (Y := cRs T (AF 3) (AF 4) (AF 5) (AF 6) (AF 7) rk rf rg rh ++ cM T (Ad 5) (AF 8) I1 F) (gfin hP wL_pass)
    have hD : va_D (gA s) ((cRs T (AF 3) (AF 4) (AF 5) (AF 6) (AF 7) rk rf rg rh ++ cM T (Ad 5) (AF 8) I1 F) ++ (([(Ad 0, .inl (T 4, 1, .inr (.inl ho)))] : va_W) ++ cA T (Ad 1) (Ad 2) (Ad 3) (Ad 4) D mny (AF 0) (AF 3) ++ cNs T (AF 0) (AF 1) (AF 2) N f g)) := gswapD (X := ([(Ad 0, .inl (T 4, 1, .inr (.inl ho)))] : va_W) ++ cA T (Ad 1) (Ad 2) (Ad 3) (Ad 4) D mny (AF 0) (AF 3) ++ cNs T (AF 0) (AF 1) (AF 2) N f g) (Y := cRs T (AF 3) (AF 4) (AF 5) (AF 6) (AF 7) rk rf rg rh ++ cM T (Ad 5) (AF 8) I1 F) (gfinD hD wL_pass)
    refine gciT (X := cRs T (AF 3) (AF 4) (AF 5) (AF 6) (AF 7) rk rf rg rh ++ cM T (Ad 5) (AF 8) I1 F) (vx_runSW (As := [.ref (Ad 1), .int p0, .ref (Ad 0)]) (rest := []) ⟨hx, hb, hml, hown, hts⟩ (kL_pass_no l hl0 G T (Ad 1) (Ad 2) (Ad 3) (Ad 4) D mny (AF 3) (AF 0) (AF 1) (AF 2) N f g p0 (Ad 0) ho _  hk) (vx_cwSW 3 hts gL_law_L_pass rfl rfl rfl (by decide +kernel) ⟨Nat.le_of_ble_eq_true rfl, Nat.le_of_ble_eq_true rfl⟩) ⟨gblind, gpreT (X := cRs T (AF 3) (AF 4) (AF 5) (AF 6) (AF 7) rk rf rg rh ++ cM T (Ad 5) (AF 8) I1 F) hE hK hP hD hS hA⟩ rfl rfl hl.1 rfl (lv_room (Nat.le_of_ble_eq_true rfl)) dL_law_988 ⟨Nat.le_trans (by omega) hcl, Nat.le_trans (by omega) hsl⟩) hP hD hS hA rfl (fun r9 H locs hw hP hD hS => ?_)
    have hP : va_P G vwCl (wX T Ad AF ho D mny N f g rk rf rg rh ++ cM T (Ad 5) (AF 8) I1 F) H := gfin (gswapP hP) wL_pass.symm
    have hD : va_D (gA s) (wX T Ad AF ho D mny N f g rk rf rg rh ++ cM T (Ad 5) (AF 8) I1 F) := gfinD (gswapD hD) wL_pass.symm
    subst hw
    have hkc : (kDays p0) = (kDays p0) := rfl
    have hsim := fun hk : kDays p0 = 0 => sim_pass hR hn hk
    refine lv_istore (lv' := [(5, .int (w1 ((kDays p0)))), (0, .ref b), (1, .ref (Ad 1)), (2, .ref (Ad 5)), (3, .ref (Ad 0)), (4, .int (nI q))]) hx hb dL_law_991 hl (by decide) rfl (fun ls hl => ?_)
    refine lv_aload_n hx hb dL_law_993 rfl (lv_at hl 3 rfl) ?_
    refine lv_aload_n hx hb dL_law_994 rfl (lv_at hl 1 rfl) ?_
    refine lv_iload hx hb dL_law_995 (lv_at hl 5 rfl) ?_
    refine lv_iconst (v := 1) hx hb dL_law_997 (by decide) ?_
    refine lv_iadd hx hb dL_law_998 ?_
    refine gtop (y := nI (q + 1)) (nI_add q 1) ?_
    refine gsld hx hb hX hbl hbA hS (j := q + 1) (by omega) (by omega) e0 dL_law_999 ?_
    refine gciT (X := wX T Ad AF ho D mny N f g rk rf rg rh) (va_runV (As := [.int p0]) (rest := []) ⟨hx, hb, hml, hown, hts⟩ (kX3_pass l G T (Ad 5) (AF 8) I1 F p0 _ ) (cwV 1 hts gL_law_X3_pass rfl rfl rfl (by decide +kernel) ⟨Nat.le_of_ble_eq_true rfl, Nat.le_of_ble_eq_true rfl⟩) ⟨gblind, va_recv hK hP (ci := 3) (q0 := 68) rfl (wL_m (ho1 := ho) (D1 := D) (m1 := mny)), gpreT (X := wX T Ad AF ho D mny N f g rk rf rg rh) hE hK hP hD hS hA⟩ rfl rfl hl.1 rfl (lv_room (Nat.le_of_ble_eq_true rfl)) dL_law_1000 ⟨Nat.le_trans (by omega) hcl, Nat.le_trans (by omega) hsl⟩) hP hD hS hA cM_fst (fun r9 H locs hw hP hD hS => ?_)
    have hc : ¬ (kDays p0) = 0 := fun z => hk (hkc.trans z)
    rw [if_neg hc, if_neg hc] at hP hD
    rw [if_neg hc] at hw
    subst hw
    have hP : va_P G vwCl (wX T Ad AF ho D mny N f g rk rf rg rh ++ cM T (Ad 5) (AF 8) (upd I1 17 (w1 ((kDays p0)))) F) H := hP
    have hD : va_D (gA s) (wX T Ad AF ho D mny N f g rk rf rg rh ++ cM T (Ad 5) (AF 8) (upd I1 17 (w1 ((kDays p0)))) F) := hD
    refine lv_istore (lv' := [(6, .int (0)), (5, .int (w1 ((kDays p0)))), (0, .ref b), (1, .ref (Ad 1)), (2, .ref (Ad 5)), (3, .ref (Ad 0)), (4, .int (nI q))]) hx hb dL_law_1003 hl (by decide) rfl (fun ls hl => ?_)
    refine lv_aload_n hx hb dL_law_1005 rfl (lv_at hl 4 rfl) ?_
    refine gciT (X := wX T Ad AF ho D mny N f g rk rf rg rh) (va_runV (As := []) (rest := []) ⟨hx, hb, hml, hown, hts⟩ (kX3_thrown l G T (Ad 5) (AF 8) (upd I1 17 (w1 ((kDays p0)))) F _) (cwV 0 hts gL_law_X3_thrown rfl rfl rfl (by decide +kernel) ⟨Nat.le_of_ble_eq_true rfl, Nat.le_of_ble_eq_true rfl⟩) ⟨gblind, va_recv hK hP (ci := 3) (q0 := 68) rfl (wL_m (ho1 := ho) (D1 := D) (m1 := mny)), gpreT (X := wX T Ad AF ho D mny N f g rk rf rg rh) hE hK hP hD hS hA⟩ rfl rfl hl.1 rfl (lv_room (Nat.le_of_ble_eq_true rfl)) dL_law_1006 ⟨Nat.le_trans (by omega) hcl, Nat.le_trans (by omega) hsl⟩) hP hD hS hA cM_fst (fun r9 H locs hw hP hD hS => ?_)
    refine gtop (y := w1 ((kDays p0))) (hw.trans (show w1 ((kDays p0)) = w1 ((kDays p0)) by rw [hkc])) ?_
    refine lv_iload hx hb dL_law_1009 (lv_at hl 1 rfl) ?_
    refine lv_icmp_eq (tgt := 1016) hx hb dL_law_1011 (by decide) (fun _ => ?_) (fun c9 => absurd rfl c9)
    refine lv_iload hx hb dL_law_1016 (lv_at hl 1 rfl) ?_
    refine lv_if_ne (tgt := 1033) hx hb dL_law_1018 (by decide) (fun _ => ?_) (fun c9 => absurd c9 (w1_ne _ hk))
    refine lv_goto (tgt := 1261) hx hb dL_law_1033 (by decide) ?_
    refine W.widen (k := cells + 5) (n := slots + 30) (by omega) (by omega) ?_
    exact kk _ _ _ ⟨_, _, _, _, _, _, _, _, _, _, _, _, hR.idle _, hP, hD, hS⟩ (lv_sub hl [2, 3, 4, 5, 6] rfl)
set_option maxHeartbeats 8000000 in
set_option maxRecDepth 100000 in
theorem op_lookUp (C : gLC p s m c b L xs G T aK aV) (hl0 : l.stackTraces = false) (hcl : cells + 5 ≤ 631168) (hsl : slots + 30 ≤ 7202601) (hn : n < 512) (hq : q + 4 ≤ L) (h : gLS n G T Ad AF s H locs) (hl : lv_has ls 7 [(0, .ref b), (1, .ref (Ad 1)), (2, .ref (Ad 5)), (3, .ref (Ad 0)), (4, .int (nI q))])
    (kk : ∀ (H : Heap) (locs : List Loc) (ls : Array Slot), gLS (n + 1) G T Ad AF s H locs → lv_has ls 7 [(0, .ref b), (1, .ref (Ad 1)), (2, .ref (Ad 5)), (3, .ref (Ad 0)), (4, .int (nI q))] → W p l e room_1 s m #[Value.ref b] below meth c H locs (cells + 5) (slots + 30) Q (F0 m 1261 ls [])) : W p l e room_1 s m #[Value.ref b] below meth c H locs cells slots Q (F0 m 1062 ls []) := by
  obtain ⟨hx, hb, hml, hown, hts, hX, hbl, hK, hE, hWs, hL⟩ := id C
  have hA : ∀ q : Nat, s.heap.size ≤ q → gA s q := fun _ h => h
  have hbA : ¬ gA s b := Nat.not_le.mpr hbl
  obtain ⟨D, mny, N, f, g, rk, rf, rg, rh, I1, F, ho, hR, hP, hD, hS⟩ := h
  obtain ⟨p0, e0⟩ : ∃ y : Int32, y = xs (q + 1) := ⟨_, rfl⟩
  obtain ⟨p1, e1⟩ : ∃ y : Int32, y = xs (q + 2) := ⟨_, rfl⟩
  obtain ⟨r, hr3, hr9⟩ := ixR p0
  obtain ⟨j, hj6, hj⟩ := ixN p1
  refine lv_aload_n hx hb dL_law_1062 rfl (lv_at hl 1 rfl) ?_
  refine lv_aload_n hx hb dL_law_1063 rfl (lv_at hl 0 rfl) ?_
  refine lv_iload hx hb dL_law_1064 (lv_at hl 4 rfl) ?_
  refine lv_iconst (v := 1) hx hb dL_law_1066 (by decide) ?_
  refine lv_iadd hx hb dL_law_1067 ?_
  refine gtop (y := nI (q + 1)) (nI_add q 1) ?_
  refine gsld hx hb hX hbl hbA hS (j := q + 1) (by omega) (by omega) e0 dL_law_1068 ?_
  refine lv_aload_n hx hb dL_law_1069 rfl (lv_at hl 0 rfl) ?_
  refine lv_iload hx hb dL_law_1070 (lv_at hl 4 rfl) ?_
  refine lv_iconst (v := 2) hx hb dL_law_1072 (by decide) ?_
  refine lv_iadd hx hb dL_law_1073 ?_
  refine gtop (y := nI (q + 2)) (nI_add q 2) ?_
  refine gsld hx hb hX hbl hbA hS (j := q + 2) (by omega) (by omega) e1 dL_law_1074 ?_
  refine lv_aload_n hx hb dL_law_1075 rfl (lv_at hl 3 rfl) ?_
  by_cases hk : (kRN p0 p1) = 0
  · skip
    refine gci (vx_runSW (As := [.ref (Ad 1), .int p0, .int p1, .ref (Ad 0)]) (rest := []) ⟨hx, hb, hml, hown, hts⟩ (kL_lookUp_ok l hl0 G T (Ad 1) (Ad 2) (Ad 3) (Ad 4) D mny (AF 0) (AF 3) j (AF 1 j) (AF 2 j) (N j) (f j) (g j) r (AF 4 r) (AF 5 r) (AF 6 r) (AF 7 r) (rk r) (rf r) (rg r) (rh r) p0 p1 (Ad 0) ho _ hr9 hj hk) (vx_cwSW 4 hts gL_law_L_lookUp rfl rfl rfl (by decide +kernel) ⟨Nat.le_of_ble_eq_true rfl, Nat.le_of_ble_eq_true rfl⟩) ⟨gblind, gpre hE hK hP hD hS hA [0, 1, 2, 3, 4, 5 + 3 * j, 6 + 3 * j, 7 + 3 * j, 53 + 5 * r, 54 + 5 * r, 55 + 5 * r, 56 + 5 * r, 57 + 5 * r] (wL_ndNR hj6 hr3) (wL_cutNR (ho1 := ho) (D1 := D) (m1 := mny) hj6 hr3)⟩ rfl rfl hl.1 rfl (lv_room (Nat.le_of_ble_eq_true rfl)) dL_law_1076 ⟨Nat.le_trans (by omega) hcl, Nat.le_trans (by omega) hsl⟩) hP hD hS hA [0, 1, 2, 3, 4, 5 + 3 * j, 6 + 3 * j, 7 + 3 * j, 53 + 5 * r, 54 + 5 * r, 55 + 5 * r, 56 + 5 * r, 57 + 5 * r] (wL_cutNR (ho1 := ho) (D1 := D) (m1 := mny) hj6 hr3) rfl (fun r9 H locs hw hP hD hS => ?_)
    have hP := gfin hP (wL_repNR hj6 hr3)
    have hD := gfinD hD (wL_repNR hj6 hr3)
    try simp only [updA_self] at hP hD
    have hP : va_P G vwCl (wX T Ad AF (vp_updL ho 0 (((sLook (sFresh (rk r) (rg r) (rh r) j (D 3)) (rf r) j (sAns (N j)) j)).toInt64)) D mny N f g (updA rk r (sLook (sFresh (rk r) (rg r) (rh r) j (D 3)) (rk r) j 1)) (updA rf r (sLook (sFresh (rk r) (rg r) (rh r) j (D 3)) (rf r) j (sAns (N j)))) (updA rg r (sLook (sFresh (rk r) (rg r) (rh r) j (D 3)) (rg r) j (sLife (N j)))) (updA rh r (sLook (sFresh (rk r) (rg r) (rh r) j (D 3)) (rh r) j (D 3))) ++ cM T (Ad 5) (AF 8) I1 F) H := hP
    have hD : va_D (gA s) (wX T Ad AF (vp_updL ho 0 (((sLook (sFresh (rk r) (rg r) (rh r) j (D 3)) (rf r) j (sAns (N j)) j)).toInt64)) D mny N f g (updA rk r (sLook (sFresh (rk r) (rg r) (rh r) j (D 3)) (rk r) j 1)) (updA rf r (sLook (sFresh (rk r) (rg r) (rh r) j (D 3)) (rf r) j (sAns (N j)))) (updA rg r (sLook (sFresh (rk r) (rg r) (rh r) j (D 3)) (rg r) j (sLife (N j)))) (updA rh r (sLook (sFresh (rk r) (rg r) (rh r) j (D 3)) (rh r) j (D 3))) ++ cM T (Ad 5) (AF 8) I1 F) := hD
    subst hw
    have hkc : (kRN p0 p1) = (kRN p0 p1) := rfl
    have hsim := fun _ : kRN p0 p1 = 0 => sim_lookUp hR hn hr3 hj6
    refine lv_istore (lv' := [(5, .int 0), (0, .ref b), (1, .ref (Ad 1)), (2, .ref (Ad 5)), (3, .ref (Ad 0)), (4, .int (nI q))]) hx hb dL_law_1079 hl (by decide) rfl (fun ls hl => ?_)
    refine lv_aload_n hx hb dL_law_1081 rfl (lv_at hl 3 rfl) ?_
    refine lv_aload_n hx hb dL_law_1082 rfl (lv_at hl 1 rfl) ?_
    refine lv_iload hx hb dL_law_1083 (lv_at hl 5 rfl) ?_
    refine lv_iconst (v := 1) hx hb dL_law_1085 (by decide) ?_
    refine lv_iadd hx hb dL_law_1086 ?_
    refine gtop (y := nI (q + 1)) (nI_add q 1) ?_
    refine gsld hx hb hX hbl hbA hS (j := q + 1) (by omega) (by omega) e0 dL_law_1087 ?_
    refine lv_aload_n hx hb dL_law_1088 rfl (lv_at hl 1 rfl) ?_
    refine lv_iload hx hb dL_law_1089 (lv_at hl 5 rfl) ?_
    refine lv_iconst (v := 2) hx hb dL_law_1091 (by decide) ?_
    refine lv_iadd hx hb dL_law_1092 ?_
    refine gtop (y := nI (q + 2)) (nI_add q 2) ?_
    refine gsld hx hb hX hbl hbA hS (j := q + 2) (by omega) (by omega) e1 dL_law_1093 ?_
    refine gciT (X := wX T Ad AF (vp_updL ho 0 (((sLook (sFresh (rk r) (rg r) (rh r) j (D 3)) (rf r) j (sAns (N j)) j)).toInt64)) D mny N f g (updA rk r (sLook (sFresh (rk r) (rg r) (rh r) j (D 3)) (rk r) j 1)) (updA rf r (sLook (sFresh (rk r) (rg r) (rh r) j (D 3)) (rf r) j (sAns (N j)))) (updA rg r (sLook (sFresh (rk r) (rg r) (rh r) j (D 3)) (rg r) j (sLife (N j)))) (updA rh r (sLook (sFresh (rk r) (rg r) (rh r) j (D 3)) (rh r) j (D 3)))) (va_runV (As := [.int p0, .int p1]) (rest := []) ⟨hx, hb, hml, hown, hts⟩ (kX3_lookUp l G T (Ad 5) (AF 8) I1 F r j p0 p1 _ hr9 hj) (cwV 2 hts gL_law_X3_lookUp rfl rfl rfl (by decide +kernel) ⟨Nat.le_of_ble_eq_true rfl, Nat.le_of_ble_eq_true rfl⟩) ⟨gblind, va_recv hK hP (ci := 3) (q0 := 68) rfl (wL_m (ho1 := ho) (D1 := D) (m1 := mny)), gpreT (X := wX T Ad AF (vp_updL ho 0 (((sLook (sFresh (rk r) (rg r) (rh r) j (D 3)) (rf r) j (sAns (N j)) j)).toInt64)) D mny N f g (updA rk r (sLook (sFresh (rk r) (rg r) (rh r) j (D 3)) (rk r) j 1)) (updA rf r (sLook (sFresh (rk r) (rg r) (rh r) j (D 3)) (rf r) j (sAns (N j)))) (updA rg r (sLook (sFresh (rk r) (rg r) (rh r) j (D 3)) (rg r) j (sLife (N j)))) (updA rh r (sLook (sFresh (rk r) (rg r) (rh r) j (D 3)) (rh r) j (D 3)))) hE hK hP hD hS hA⟩ rfl rfl hl.1 rfl (lv_room (Nat.le_of_ble_eq_true rfl)) dL_law_1094 ⟨Nat.le_trans (by omega) hcl, Nat.le_trans (by omega) hsl⟩) hP hD hS hA cM_fst (fun r9 H locs hw hP hD hS => ?_)
    have hc : (kRN p0 p1) = 0 := hkc.symm.trans hk
    rw [if_pos hc, if_pos hc] at hP hD
    rw [if_pos hc] at hw
    subst hw
    have hP : va_P G vwCl (wX T Ad AF (vp_updL ho 0 (((sLook (sFresh (rk r) (rg r) (rh r) j (D 3)) (rf r) j (sAns (N j)) j)).toInt64)) D mny N f g (updA rk r (sLook (sFresh (rk r) (rg r) (rh r) j (D 3)) (rk r) j 1)) (updA rf r (sLook (sFresh (rk r) (rg r) (rh r) j (D 3)) (rf r) j (sAns (N j)))) (updA rg r (sLook (sFresh (rk r) (rg r) (rh r) j (D 3)) (rg r) j (sLife (N j)))) (updA rh r (sLook (sFresh (rk r) (rg r) (rh r) j (D 3)) (rh r) j (D 3))) ++ cM T (Ad 5) (AF 8) (upd I1 17 0) (mLookF I1 F (16 * r + j) j)) H := hP
    have hD : va_D (gA s) (wX T Ad AF (vp_updL ho 0 (((sLook (sFresh (rk r) (rg r) (rh r) j (D 3)) (rf r) j (sAns (N j)) j)).toInt64)) D mny N f g (updA rk r (sLook (sFresh (rk r) (rg r) (rh r) j (D 3)) (rk r) j 1)) (updA rf r (sLook (sFresh (rk r) (rg r) (rh r) j (D 3)) (rf r) j (sAns (N j)))) (updA rg r (sLook (sFresh (rk r) (rg r) (rh r) j (D 3)) (rg r) j (sLife (N j)))) (updA rh r (sLook (sFresh (rk r) (rg r) (rh r) j (D 3)) (rh r) j (D 3))) ++ cM T (Ad 5) (AF 8) (upd I1 17 0) (mLookF I1 F (16 * r + j) j)) := hD
    refine lv_istore (lv' := [(6, .int ((mLookF I1 F (16 * r + j) j 15 (16 * r + j)))), (5, .int 0), (0, .ref b), (1, .ref (Ad 1)), (2, .ref (Ad 5)), (3, .ref (Ad 0)), (4, .int (nI q))]) hx hb dL_law_1097 hl (by decide) rfl (fun ls hl => ?_)
    refine lv_aload_n hx hb dL_law_1099 rfl (lv_at hl 4 rfl) ?_
    refine gciT (X := wX T Ad AF (vp_updL ho 0 (((sLook (sFresh (rk r) (rg r) (rh r) j (D 3)) (rf r) j (sAns (N j)) j)).toInt64)) D mny N f g (updA rk r (sLook (sFresh (rk r) (rg r) (rh r) j (D 3)) (rk r) j 1)) (updA rf r (sLook (sFresh (rk r) (rg r) (rh r) j (D 3)) (rf r) j (sAns (N j)))) (updA rg r (sLook (sFresh (rk r) (rg r) (rh r) j (D 3)) (rg r) j (sLife (N j)))) (updA rh r (sLook (sFresh (rk r) (rg r) (rh r) j (D 3)) (rh r) j (D 3)))) (va_runV (As := []) (rest := []) ⟨hx, hb, hml, hown, hts⟩ (kX3_thrown l G T (Ad 5) (AF 8) (upd I1 17 0) (mLookF I1 F (16 * r + j) j) _) (cwV 0 hts gL_law_X3_thrown rfl rfl rfl (by decide +kernel) ⟨Nat.le_of_ble_eq_true rfl, Nat.le_of_ble_eq_true rfl⟩) ⟨gblind, va_recv hK hP (ci := 3) (q0 := 68) rfl (wL_m (ho1 := ho) (D1 := D) (m1 := mny)), gpreT (X := wX T Ad AF (vp_updL ho 0 (((sLook (sFresh (rk r) (rg r) (rh r) j (D 3)) (rf r) j (sAns (N j)) j)).toInt64)) D mny N f g (updA rk r (sLook (sFresh (rk r) (rg r) (rh r) j (D 3)) (rk r) j 1)) (updA rf r (sLook (sFresh (rk r) (rg r) (rh r) j (D 3)) (rf r) j (sAns (N j)))) (updA rg r (sLook (sFresh (rk r) (rg r) (rh r) j (D 3)) (rg r) j (sLife (N j)))) (updA rh r (sLook (sFresh (rk r) (rg r) (rh r) j (D 3)) (rh r) j (D 3)))) hE hK hP hD hS hA⟩ rfl rfl hl.1 rfl (lv_room (Nat.le_of_ble_eq_true rfl)) dL_law_1100 ⟨Nat.le_trans (by omega) hcl, Nat.le_trans (by omega) hsl⟩) hP hD hS hA cM_fst (fun r9 H locs hw hP hD hS => ?_)
    refine gtop (y := 0) hw ?_
    refine lv_iload hx hb dL_law_1103 (lv_at hl 1 rfl) ?_
    refine lv_icmp_eq (tgt := 1110) hx hb dL_law_1105 (by decide) (fun _ => ?_) (fun c9 => absurd rfl c9)
    refine lv_iload hx hb dL_law_1110 (lv_at hl 1 rfl) ?_
    refine lv_if_ne (tgt := 1127) hx hb dL_law_1112 (by decide) (fun c9 => absurd rfl c9) (fun _ => ?_)
    refine lv_aload_n hx hb dL_law_1115 rfl (lv_at hl 5 rfl) ?_
    refine lv_iconst (v := 0) hx hb dL_law_1116 (by decide) ?_
    refine glald (j := 0) hx hb hK hP 0 4 (wL_0 (ho1 := ho) (D1 := D) (m1 := mny)) rfl (show (0 : Int32) = nI 0 from rfl) (by omega) (by decide) dL_law_1117 ?_
    obtain ⟨ea, hrel⟩ := hsim hk
    refine lv_iload hx hb dL_law_1118 (lv_at hl 0 rfl) ?_
    refine lv_i2l (v := ((mLookF I1 F (16 * r + j) j 15 (16 * r + j))).toInt64) hx hb dL_law_1120 rfl ?_
    refine W.lcmp hx hb dL_law_1121 ?_
    refine gtop (y := 0) (lcmp0 (show ((sLook (sFresh (rk r) (rg r) (rh r) j (D 3)) (rf r) j (sAns (N j)) j)).toInt64 = ((mLookF I1 F (16 * r + j) j 15 (16 * r + j))).toInt64 from congrArg Int32.toInt64 ea)) ?_
    refine lv_if_eq (tgt := 1127) hx hb dL_law_1122 (by decide) (fun _ => ?_) (fun c9 => absurd rfl c9)
    refine lv_goto (tgt := 1261) hx hb dL_law_1127 (by decide) ?_
    refine W.widen (k := cells + 5) (n := slots + 30) (by omega) (by omega) ?_
    exact kk _ _ _ ⟨_, _, _, _, _, _, _, _, _, _, _, _, hrel, hP, hD, hS⟩ (lv_sub hl [2, 3, 4, 5, 6] rfl)
  · skip
    refine gci (vx_runSW (As := [.ref (Ad 1), .int p0, .int p1, .ref (Ad 0)]) (rest := []) ⟨hx, hb, hml, hown, hts⟩ (kL_lookUp_no l hl0 G T (Ad 1) (Ad 2) (Ad 3) (Ad 4) D mny (AF 0) (AF 3) j (AF 1 j) (AF 2 j) (N j) (f j) (g j) r (AF 4 r) (AF 5 r) (AF 6 r) (AF 7 r) (rk r) (rf r) (rg r) (rh r) p0 p1 (Ad 0) ho _ hr9 hj hk) (vx_cwSW 4 hts gL_law_L_lookUp rfl rfl rfl (by decide +kernel) ⟨Nat.le_of_ble_eq_true rfl, Nat.le_of_ble_eq_true rfl⟩) ⟨gblind, gpre hE hK hP hD hS hA [0, 1, 2, 3, 4, 5 + 3 * j, 6 + 3 * j, 7 + 3 * j, 53 + 5 * r, 54 + 5 * r, 55 + 5 * r, 56 + 5 * r, 57 + 5 * r] (wL_ndNR hj6 hr3) (wL_cutNR (ho1 := ho) (D1 := D) (m1 := mny) hj6 hr3)⟩ rfl rfl hl.1 rfl (lv_room (Nat.le_of_ble_eq_true rfl)) dL_law_1076 ⟨Nat.le_trans (by omega) hcl, Nat.le_trans (by omega) hsl⟩) hP hD hS hA [0, 1, 2, 3, 4, 5 + 3 * j, 6 + 3 * j, 7 + 3 * j, 53 + 5 * r, 54 + 5 * r, 55 + 5 * r, 56 + 5 * r, 57 + 5 * r] (wL_cutNR (ho1 := ho) (D1 := D) (m1 := mny) hj6 hr3) rfl (fun r9 H locs hw hP hD hS => ?_)
    have hP := gfin hP (wL_repNR hj6 hr3)
    have hD := gfinD hD (wL_repNR hj6 hr3)
    try simp only [updA_self] at hP hD
    have hP : va_P G vwCl (wX T Ad AF ho D mny N f g rk rf rg rh ++ cM T (Ad 5) (AF 8) I1 F) H := hP
    have hD : va_D (gA s) (wX T Ad AF ho D mny N f g rk rf rg rh ++ cM T (Ad 5) (AF 8) I1 F) := hD
    subst hw
    have hkc : (kRN p0 p1) = (kRN p0 p1) := rfl
    have hsim := fun _ : kRN p0 p1 = 0 => sim_lookUp hR hn hr3 hj6
    refine lv_istore (lv' := [(5, .int (w3 ((kRN p0 p1)))), (0, .ref b), (1, .ref (Ad 1)), (2, .ref (Ad 5)), (3, .ref (Ad 0)), (4, .int (nI q))]) hx hb dL_law_1079 hl (by decide) rfl (fun ls hl => ?_)
    refine lv_aload_n hx hb dL_law_1081 rfl (lv_at hl 3 rfl) ?_
    refine lv_aload_n hx hb dL_law_1082 rfl (lv_at hl 1 rfl) ?_
    refine lv_iload hx hb dL_law_1083 (lv_at hl 5 rfl) ?_
    refine lv_iconst (v := 1) hx hb dL_law_1085 (by decide) ?_
    refine lv_iadd hx hb dL_law_1086 ?_
    refine gtop (y := nI (q + 1)) (nI_add q 1) ?_
    refine gsld hx hb hX hbl hbA hS (j := q + 1) (by omega) (by omega) e0 dL_law_1087 ?_
    refine lv_aload_n hx hb dL_law_1088 rfl (lv_at hl 1 rfl) ?_
    refine lv_iload hx hb dL_law_1089 (lv_at hl 5 rfl) ?_
    refine lv_iconst (v := 2) hx hb dL_law_1091 (by decide) ?_
    refine lv_iadd hx hb dL_law_1092 ?_
    refine gtop (y := nI (q + 2)) (nI_add q 2) ?_
    refine gsld hx hb hX hbl hbA hS (j := q + 2) (by omega) (by omega) e1 dL_law_1093 ?_
    refine gciT (X := wX T Ad AF ho D mny N f g rk rf rg rh) (va_runV (As := [.int p0, .int p1]) (rest := []) ⟨hx, hb, hml, hown, hts⟩ (kX3_lookUp l G T (Ad 5) (AF 8) I1 F r j p0 p1 _ hr9 hj) (cwV 2 hts gL_law_X3_lookUp rfl rfl rfl (by decide +kernel) ⟨Nat.le_of_ble_eq_true rfl, Nat.le_of_ble_eq_true rfl⟩) ⟨gblind, va_recv hK hP (ci := 3) (q0 := 68) rfl (wL_m (ho1 := ho) (D1 := D) (m1 := mny)), gpreT (X := wX T Ad AF ho D mny N f g rk rf rg rh) hE hK hP hD hS hA⟩ rfl rfl hl.1 rfl (lv_room (Nat.le_of_ble_eq_true rfl)) dL_law_1094 ⟨Nat.le_trans (by omega) hcl, Nat.le_trans (by omega) hsl⟩) hP hD hS hA cM_fst (fun r9 H locs hw hP hD hS => ?_)
    have hc : ¬ (kRN p0 p1) = 0 := fun z => hk (hkc.trans z)
    rw [if_neg hc, if_neg hc] at hP hD
    rw [if_neg hc] at hw
    subst hw
    have hP : va_P G vwCl (wX T Ad AF ho D mny N f g rk rf rg rh ++ cM T (Ad 5) (AF 8) (upd I1 17 (w3 ((kRN p0 p1)))) F) H := hP
    have hD : va_D (gA s) (wX T Ad AF ho D mny N f g rk rf rg rh ++ cM T (Ad 5) (AF 8) (upd I1 17 (w3 ((kRN p0 p1)))) F) := hD
    refine lv_istore (lv' := [(6, .int (0)), (5, .int (w3 ((kRN p0 p1)))), (0, .ref b), (1, .ref (Ad 1)), (2, .ref (Ad 5)), (3, .ref (Ad 0)), (4, .int (nI q))]) hx hb dL_law_1097 hl (by decide) rfl (fun ls hl => ?_)
    refine lv_aload_n hx hb dL_law_1099 rfl (lv_at hl 4 rfl) ?_
    refine gciT (X := wX T Ad AF ho D mny N f g rk rf rg rh) (va_runV (As := []) (rest := []) ⟨hx, hb, hml, hown, hts⟩ (kX3_thrown l G T (Ad 5) (AF 8) (upd I1 17 (w3 ((kRN p0 p1)))) F _) (cwV 0 hts gL_law_X3_thrown rfl rfl rfl (by decide +kernel) ⟨Nat.le_of_ble_eq_true rfl, Nat.le_of_ble_eq_true rfl⟩) ⟨gblind, va_recv hK hP (ci := 3) (q0 := 68) rfl (wL_m (ho1 := ho) (D1 := D) (m1 := mny)), gpreT (X := wX T Ad AF ho D mny N f g rk rf rg rh) hE hK hP hD hS hA⟩ rfl rfl hl.1 rfl (lv_room (Nat.le_of_ble_eq_true rfl)) dL_law_1100 ⟨Nat.le_trans (by omega) hcl, Nat.le_trans (by omega) hsl⟩) hP hD hS hA cM_fst (fun r9 H locs hw hP hD hS => ?_)
    refine gtop (y := w3 ((kRN p0 p1))) (hw.trans (show w3 ((kRN p0 p1)) = w3 ((kRN p0 p1)) by rw [hkc])) ?_
    refine lv_iload hx hb dL_law_1103 (lv_at hl 1 rfl) ?_
    refine lv_icmp_eq (tgt := 1110) hx hb dL_law_1105 (by decide) (fun _ => ?_) (fun c9 => absurd rfl c9)
    refine lv_iload hx hb dL_law_1110 (lv_at hl 1 rfl) ?_
    refine lv_if_ne (tgt := 1127) hx hb dL_law_1112 (by decide) (fun _ => ?_) (fun c9 => absurd c9 (w3_ne _ hk))
    refine lv_goto (tgt := 1261) hx hb dL_law_1127 (by decide) ?_
    refine W.widen (k := cells + 5) (n := slots + 30) (by omega) (by omega) ?_
    exact kk _ _ _ ⟨_, _, _, _, _, _, _, _, _, _, _, _, hR.idle _, hP, hD, hS⟩ (lv_sub hl [2, 3, 4, 5, 6] rfl)
set_option maxHeartbeats 8000000 in
set_option maxRecDepth 100000 in
theorem op_isStale (C : gLC p s m c b L xs G T aK aV) (hl0 : l.stackTraces = false) (hcl : cells + 5 ≤ 631168) (hsl : slots + 30 ≤ 7202601) (hn : n < 512) (hq : q + 4 ≤ L) (h : gLS n G T Ad AF s H locs) (hl : lv_has ls 7 [(0, .ref b), (1, .ref (Ad 1)), (2, .ref (Ad 5)), (3, .ref (Ad 0)), (4, .int (nI q))])
    (kk : ∀ (H : Heap) (locs : List Loc) (ls : Array Slot), gLS (n + 1) G T Ad AF s H locs → lv_has ls 7 [(0, .ref b), (1, .ref (Ad 1)), (2, .ref (Ad 5)), (3, .ref (Ad 0)), (4, .int (nI q))] → W p l e room_1 s m #[Value.ref b] below meth c H locs (cells + 5) (slots + 30) Q (F0 m 1261 ls [])) : W p l e room_1 s m #[Value.ref b] below meth c H locs cells slots Q (F0 m 1130 ls []) := by
  obtain ⟨hx, hb, hml, hown, hts, hX, hbl, hK, hE, hWs, hL⟩ := id C
  have hA : ∀ q : Nat, s.heap.size ≤ q → gA s q := fun _ h => h
  have hbA : ¬ gA s b := Nat.not_le.mpr hbl
  obtain ⟨D, mny, N, f, g, rk, rf, rg, rh, I1, F, ho, hR, hP, hD, hS⟩ := h
  obtain ⟨p0, e0⟩ : ∃ y : Int32, y = xs (q + 1) := ⟨_, rfl⟩
  obtain ⟨p1, e1⟩ : ∃ y : Int32, y = xs (q + 2) := ⟨_, rfl⟩
  obtain ⟨r, hr3, hr9⟩ := ixR p0
  obtain ⟨j, hj6, hj⟩ := ixN p1
  refine lv_aload_n hx hb dL_law_1130 rfl (lv_at hl 1 rfl) ?_
  refine lv_aload_n hx hb dL_law_1131 rfl (lv_at hl 0 rfl) ?_
  refine lv_iload hx hb dL_law_1132 (lv_at hl 4 rfl) ?_
  refine lv_iconst (v := 1) hx hb dL_law_1134 (by decide) ?_
  refine lv_iadd hx hb dL_law_1135 ?_
  refine gtop (y := nI (q + 1)) (nI_add q 1) ?_
  refine gsld hx hb hX hbl hbA hS (j := q + 1) (by omega) (by omega) e0 dL_law_1136 ?_
  refine lv_aload_n hx hb dL_law_1137 rfl (lv_at hl 0 rfl) ?_
  refine lv_iload hx hb dL_law_1138 (lv_at hl 4 rfl) ?_
  refine lv_iconst (v := 2) hx hb dL_law_1140 (by decide) ?_
  refine lv_iadd hx hb dL_law_1141 ?_
  refine gtop (y := nI (q + 2)) (nI_add q 2) ?_
  refine gsld hx hb hX hbl hbA hS (j := q + 2) (by omega) (by omega) e1 dL_law_1142 ?_
  refine lv_aload_n hx hb dL_law_1143 rfl (lv_at hl 3 rfl) ?_
  by_cases hk : (kRN p0 p1) = 0
  · skip
    refine gci (vx_runSW (As := [.ref (Ad 1), .int p0, .int p1, .ref (Ad 0)]) (rest := []) ⟨hx, hb, hml, hown, hts⟩ (kL_isStale_ok l hl0 G T (Ad 1) (Ad 2) (Ad 3) (Ad 4) D mny (AF 0) (AF 3) j (AF 1 j) (AF 2 j) (N j) (f j) (g j) r (AF 4 r) (AF 5 r) (AF 6 r) (AF 7 r) (rk r) (rf r) (rg r) (rh r) p0 p1 (Ad 0) ho _ hr9 hj hk) (vx_cwSW 4 hts gL_law_L_isStale rfl rfl rfl (by decide +kernel) ⟨Nat.le_of_ble_eq_true rfl, Nat.le_of_ble_eq_true rfl⟩) ⟨gblind, gpre hE hK hP hD hS hA [0, 1, 2, 3, 4, 5 + 3 * j, 6 + 3 * j, 7 + 3 * j, 53 + 5 * r, 54 + 5 * r, 55 + 5 * r, 56 + 5 * r, 57 + 5 * r] (wL_ndNR hj6 hr3) (wL_cutNR (ho1 := ho) (D1 := D) (m1 := mny) hj6 hr3)⟩ rfl rfl hl.1 rfl (lv_room (Nat.le_of_ble_eq_true rfl)) dL_law_1144 ⟨Nat.le_trans (by omega) hcl, Nat.le_trans (by omega) hsl⟩) hP hD hS hA [0, 1, 2, 3, 4, 5 + 3 * j, 6 + 3 * j, 7 + 3 * j, 53 + 5 * r, 54 + 5 * r, 55 + 5 * r, 56 + 5 * r, 57 + 5 * r] (wL_cutNR (ho1 := ho) (D1 := D) (m1 := mny) hj6 hr3) rfl (fun r9 H locs hw hP hD hS => ?_)
    have hP := gfin hP (wL_repNR hj6 hr3)
    have hD := gfinD hD (wL_repNR hj6 hr3)
    try simp only [updA_self] at hP hD
    have hP : va_P G vwCl (wX T Ad AF (vp_updL ho 0 (if (sStale (sFresh (rk r) (rg r) (rh r) j (D 3)) (rf r j) (sAns (N j))) = 0 then 0 else 1)) D mny N f g rk rf rg rh ++ cM T (Ad 5) (AF 8) I1 F) H := hP
    have hD : va_D (gA s) (wX T Ad AF (vp_updL ho 0 (if (sStale (sFresh (rk r) (rg r) (rh r) j (D 3)) (rf r j) (sAns (N j))) = 0 then 0 else 1)) D mny N f g rk rf rg rh ++ cM T (Ad 5) (AF 8) I1 F) := hD
    subst hw
    have hkc : (kRN p0 p1) = (kRN p0 p1) := rfl
    have hsim := fun _ : kRN p0 p1 = 0 => (⟨sim_isStale hR hn hr3 hj6, hR.idle 0⟩ : (sStale (sFresh (rk r) (rg r) (rh r) j (D 3)) (rf r j) (sAns (N j))) = mStale I1 F r j ∧ REL (n + 1) D mny N f g rk rf rg rh (upd I1 17 0) F)
    refine lv_istore (lv' := [(5, .int 0), (0, .ref b), (1, .ref (Ad 1)), (2, .ref (Ad 5)), (3, .ref (Ad 0)), (4, .int (nI q))]) hx hb dL_law_1147 hl (by decide) rfl (fun ls hl => ?_)
    refine lv_aload_n hx hb dL_law_1149 rfl (lv_at hl 3 rfl) ?_
    refine lv_aload_n hx hb dL_law_1150 rfl (lv_at hl 1 rfl) ?_
    refine lv_iload hx hb dL_law_1151 (lv_at hl 5 rfl) ?_
    refine lv_iconst (v := 1) hx hb dL_law_1153 (by decide) ?_
    refine lv_iadd hx hb dL_law_1154 ?_
    refine gtop (y := nI (q + 1)) (nI_add q 1) ?_
    refine gsld hx hb hX hbl hbA hS (j := q + 1) (by omega) (by omega) e0 dL_law_1155 ?_
    refine lv_aload_n hx hb dL_law_1156 rfl (lv_at hl 1 rfl) ?_
    refine lv_iload hx hb dL_law_1157 (lv_at hl 5 rfl) ?_
    refine lv_iconst (v := 2) hx hb dL_law_1159 (by decide) ?_
    refine lv_iadd hx hb dL_law_1160 ?_
    refine gtop (y := nI (q + 2)) (nI_add q 2) ?_
    refine gsld hx hb hX hbl hbA hS (j := q + 2) (by omega) (by omega) e1 dL_law_1161 ?_
    refine gciT (X := wX T Ad AF (vp_updL ho 0 (if (sStale (sFresh (rk r) (rg r) (rh r) j (D 3)) (rf r j) (sAns (N j))) = 0 then 0 else 1)) D mny N f g rk rf rg rh) (va_runV (As := [.int p0, .int p1]) (rest := []) ⟨hx, hb, hml, hown, hts⟩ (kX3_isStale l G T (Ad 5) (AF 8) I1 F r j p0 p1 _ hr9 hj) (cwV 2 hts gL_law_X3_isStale rfl rfl rfl (by decide +kernel) ⟨Nat.le_of_ble_eq_true rfl, Nat.le_of_ble_eq_true rfl⟩) ⟨gblind, va_recv hK hP (ci := 3) (q0 := 68) rfl (wL_m (ho1 := ho) (D1 := D) (m1 := mny)), gpreT (X := wX T Ad AF (vp_updL ho 0 (if (sStale (sFresh (rk r) (rg r) (rh r) j (D 3)) (rf r j) (sAns (N j))) = 0 then 0 else 1)) D mny N f g rk rf rg rh) hE hK hP hD hS hA⟩ rfl rfl hl.1 rfl (lv_room (Nat.le_of_ble_eq_true rfl)) dL_law_1162 ⟨Nat.le_trans (by omega) hcl, Nat.le_trans (by omega) hsl⟩) hP hD hS hA cM_fst (fun r9 H locs hw hP hD hS => ?_)
    have hc : (kRN p0 p1) = 0 := hkc.symm.trans hk
    rw [if_pos hc, if_pos hc] at hP hD
    rw [if_pos hc] at hw
    subst hw
    have hP : va_P G vwCl (wX T Ad AF (vp_updL ho 0 (if (sStale (sFresh (rk r) (rg r) (rh r) j (D 3)) (rf r j) (sAns (N j))) = 0 then 0 else 1)) D mny N f g rk rf rg rh ++ cM T (Ad 5) (AF 8) (upd I1 17 0) F) H := hP
    have hD : va_D (gA s) (wX T Ad AF (vp_updL ho 0 (if (sStale (sFresh (rk r) (rg r) (rh r) j (D 3)) (rf r j) (sAns (N j))) = 0 then 0 else 1)) D mny N f g rk rf rg rh ++ cM T (Ad 5) (AF 8) (upd I1 17 0) F) := hD
    refine lv_istore (lv' := [(6, .int ((mStale I1 F r j))), (5, .int 0), (0, .ref b), (1, .ref (Ad 1)), (2, .ref (Ad 5)), (3, .ref (Ad 0)), (4, .int (nI q))]) hx hb dL_law_1165 hl (by decide) rfl (fun ls hl => ?_)
    refine lv_aload_n hx hb dL_law_1167 rfl (lv_at hl 4 rfl) ?_
    refine gciT (X := wX T Ad AF (vp_updL ho 0 (if (sStale (sFresh (rk r) (rg r) (rh r) j (D 3)) (rf r j) (sAns (N j))) = 0 then 0 else 1)) D mny N f g rk rf rg rh) (va_runV (As := []) (rest := []) ⟨hx, hb, hml, hown, hts⟩ (kX3_thrown l G T (Ad 5) (AF 8) (upd I1 17 0) F _) (cwV 0 hts gL_law_X3_thrown rfl rfl rfl (by decide +kernel) ⟨Nat.le_of_ble_eq_true rfl, Nat.le_of_ble_eq_true rfl⟩) ⟨gblind, va_recv hK hP (ci := 3) (q0 := 68) rfl (wL_m (ho1 := ho) (D1 := D) (m1 := mny)), gpreT (X := wX T Ad AF (vp_updL ho 0 (if (sStale (sFresh (rk r) (rg r) (rh r) j (D 3)) (rf r j) (sAns (N j))) = 0 then 0 else 1)) D mny N f g rk rf rg rh) hE hK hP hD hS hA⟩ rfl rfl hl.1 rfl (lv_room (Nat.le_of_ble_eq_true rfl)) dL_law_1168 ⟨Nat.le_trans (by omega) hcl, Nat.le_trans (by omega) hsl⟩) hP hD hS hA cM_fst (fun r9 H locs hw hP hD hS => ?_)
    refine gtop (y := 0) hw ?_
    refine lv_iload hx hb dL_law_1171 (lv_at hl 1 rfl) ?_
    refine lv_icmp_eq (tgt := 1178) hx hb dL_law_1173 (by decide) (fun _ => ?_) (fun c9 => absurd rfl c9)
    refine lv_iload hx hb dL_law_1178 (lv_at hl 1 rfl) ?_
    refine lv_if_ne (tgt := 1202) hx hb dL_law_1180 (by decide) (fun c9 => absurd rfl c9) (fun _ => ?_)
    refine lv_aload_n hx hb dL_law_1183 rfl (lv_at hl 5 rfl) ?_
    refine lv_iconst (v := 0) hx hb dL_law_1184 (by decide) ?_
    refine glald (j := 0) hx hb hK hP 0 4 (wL_0 (ho1 := ho) (D1 := D) (m1 := mny)) rfl (show (0 : Int32) = nI 0 from rfl) (by omega) (by decide) dL_law_1185 ?_
    obtain ⟨ea, hrel⟩ := hsim hk
    refine lv_iload hx hb dL_law_1186 (lv_at hl 0 rfl) ?_
    by_cases hz : ((mStale I1 F r j)) = 0
    · skip
      refine lv_if_eq (tgt := 1195) hx hb dL_law_1188 (by decide) (fun _ => ?_) (fun c9 => absurd hz c9)
      refine lv_lconst (v := 0) hx hb dL_law_1195 (by decide) ?_
      refine W.lcmp hx hb dL_law_1196 ?_
      refine gtop (y := 0) (lcmp0 (show (if ((sStale (sFresh (rk r) (rg r) (rh r) j (D 3)) (rf r j) (sAns (N j)))) = 0 then (0 : Int64) else 1) = 0 by rw [ea]; exact if_pos hz)) ?_
      refine lv_if_eq (tgt := 1202) hx hb dL_law_1197 (by decide) (fun _ => ?_) (fun c9 => absurd rfl c9)
      refine lv_goto (tgt := 1261) hx hb dL_law_1202 (by decide) ?_
      refine W.widen (k := cells + 5) (n := slots + 30) (by omega) (by omega) ?_
      exact kk _ _ _ ⟨_, _, _, _, _, _, _, _, _, _, _, _, hrel, hP, hD, hS⟩ (lv_sub hl [2, 3, 4, 5, 6] rfl)
    · skip
      refine lv_if_eq (tgt := 1195) hx hb dL_law_1188 (by decide) (fun c9 => absurd c9 hz) (fun _ => ?_)
      refine lv_lconst (v := 1) hx hb dL_law_1191 (by decide) ?_
      refine lv_goto (tgt := 1196) hx hb dL_law_1192 (by decide) ?_
      refine W.lcmp hx hb dL_law_1196 ?_
      refine gtop (y := 0) (lcmp0 (show (if ((sStale (sFresh (rk r) (rg r) (rh r) j (D 3)) (rf r j) (sAns (N j)))) = 0 then (0 : Int64) else 1) = 1 by rw [ea]; exact if_neg hz)) ?_
      refine lv_if_eq (tgt := 1202) hx hb dL_law_1197 (by decide) (fun _ => ?_) (fun c9 => absurd rfl c9)
      refine lv_goto (tgt := 1261) hx hb dL_law_1202 (by decide) ?_
      refine W.widen (k := cells + 5) (n := slots + 30) (by omega) (by omega) ?_
      exact kk _ _ _ ⟨_, _, _, _, _, _, _, _, _, _, _, _, hrel, hP, hD, hS⟩ (lv_sub hl [2, 3, 4, 5, 6] rfl)
  · skip
    refine gci (vx_runSW (As := [.ref (Ad 1), .int p0, .int p1, .ref (Ad 0)]) (rest := []) ⟨hx, hb, hml, hown, hts⟩ (kL_isStale_no l hl0 G T (Ad 1) (Ad 2) (Ad 3) (Ad 4) D mny (AF 0) (AF 3) j (AF 1 j) (AF 2 j) (N j) (f j) (g j) r (AF 4 r) (AF 5 r) (AF 6 r) (AF 7 r) (rk r) (rf r) (rg r) (rh r) p0 p1 (Ad 0) ho _ hr9 hj hk) (vx_cwSW 4 hts gL_law_L_isStale rfl rfl rfl (by decide +kernel) ⟨Nat.le_of_ble_eq_true rfl, Nat.le_of_ble_eq_true rfl⟩) ⟨gblind, gpre hE hK hP hD hS hA [0, 1, 2, 3, 4, 5 + 3 * j, 6 + 3 * j, 7 + 3 * j, 53 + 5 * r, 54 + 5 * r, 55 + 5 * r, 56 + 5 * r, 57 + 5 * r] (wL_ndNR hj6 hr3) (wL_cutNR (ho1 := ho) (D1 := D) (m1 := mny) hj6 hr3)⟩ rfl rfl hl.1 rfl (lv_room (Nat.le_of_ble_eq_true rfl)) dL_law_1144 ⟨Nat.le_trans (by omega) hcl, Nat.le_trans (by omega) hsl⟩) hP hD hS hA [0, 1, 2, 3, 4, 5 + 3 * j, 6 + 3 * j, 7 + 3 * j, 53 + 5 * r, 54 + 5 * r, 55 + 5 * r, 56 + 5 * r, 57 + 5 * r] (wL_cutNR (ho1 := ho) (D1 := D) (m1 := mny) hj6 hr3) rfl (fun r9 H locs hw hP hD hS => ?_)
    have hP := gfin hP (wL_repNR hj6 hr3)
    have hD := gfinD hD (wL_repNR hj6 hr3)
    try simp only [updA_self] at hP hD
    have hP : va_P G vwCl (wX T Ad AF ho D mny N f g rk rf rg rh ++ cM T (Ad 5) (AF 8) I1 F) H := hP
    have hD : va_D (gA s) (wX T Ad AF ho D mny N f g rk rf rg rh ++ cM T (Ad 5) (AF 8) I1 F) := hD
    subst hw
    have hkc : (kRN p0 p1) = (kRN p0 p1) := rfl
    have hsim := fun _ : kRN p0 p1 = 0 => (⟨sim_isStale hR hn hr3 hj6, hR.idle 0⟩ : (sStale (sFresh (rk r) (rg r) (rh r) j (D 3)) (rf r j) (sAns (N j))) = mStale I1 F r j ∧ REL (n + 1) D mny N f g rk rf rg rh (upd I1 17 0) F)
    refine lv_istore (lv' := [(5, .int (w3 ((kRN p0 p1)))), (0, .ref b), (1, .ref (Ad 1)), (2, .ref (Ad 5)), (3, .ref (Ad 0)), (4, .int (nI q))]) hx hb dL_law_1147 hl (by decide) rfl (fun ls hl => ?_)
    refine lv_aload_n hx hb dL_law_1149 rfl (lv_at hl 3 rfl) ?_
    refine lv_aload_n hx hb dL_law_1150 rfl (lv_at hl 1 rfl) ?_
    refine lv_iload hx hb dL_law_1151 (lv_at hl 5 rfl) ?_
    refine lv_iconst (v := 1) hx hb dL_law_1153 (by decide) ?_
    refine lv_iadd hx hb dL_law_1154 ?_
    refine gtop (y := nI (q + 1)) (nI_add q 1) ?_
    refine gsld hx hb hX hbl hbA hS (j := q + 1) (by omega) (by omega) e0 dL_law_1155 ?_
    refine lv_aload_n hx hb dL_law_1156 rfl (lv_at hl 1 rfl) ?_
    refine lv_iload hx hb dL_law_1157 (lv_at hl 5 rfl) ?_
    refine lv_iconst (v := 2) hx hb dL_law_1159 (by decide) ?_
    refine lv_iadd hx hb dL_law_1160 ?_
    refine gtop (y := nI (q + 2)) (nI_add q 2) ?_
    refine gsld hx hb hX hbl hbA hS (j := q + 2) (by omega) (by omega) e1 dL_law_1161 ?_
    refine gciT (X := wX T Ad AF ho D mny N f g rk rf rg rh) (va_runV (As := [.int p0, .int p1]) (rest := []) ⟨hx, hb, hml, hown, hts⟩ (kX3_isStale l G T (Ad 5) (AF 8) I1 F r j p0 p1 _ hr9 hj) (cwV 2 hts gL_law_X3_isStale rfl rfl rfl (by decide +kernel) ⟨Nat.le_of_ble_eq_true rfl, Nat.le_of_ble_eq_true rfl⟩) ⟨gblind, va_recv hK hP (ci := 3) (q0 := 68) rfl (wL_m (ho1 := ho) (D1 := D) (m1 := mny)), gpreT (X := wX T Ad AF ho D mny N f g rk rf rg rh) hE hK hP hD hS hA⟩ rfl rfl hl.1 rfl (lv_room (Nat.le_of_ble_eq_true rfl)) dL_law_1162 ⟨Nat.le_trans (by omega) hcl, Nat.le_trans (by omega) hsl⟩) hP hD hS hA cM_fst (fun r9 H locs hw hP hD hS => ?_)
    have hc : ¬ (kRN p0 p1) = 0 := fun z => hk (hkc.trans z)
    rw [if_neg hc, if_neg hc] at hP hD
    rw [if_neg hc] at hw
    subst hw
    have hP : va_P G vwCl (wX T Ad AF ho D mny N f g rk rf rg rh ++ cM T (Ad 5) (AF 8) (upd I1 17 (w3 ((kRN p0 p1)))) F) H := hP
    have hD : va_D (gA s) (wX T Ad AF ho D mny N f g rk rf rg rh ++ cM T (Ad 5) (AF 8) (upd I1 17 (w3 ((kRN p0 p1)))) F) := hD
    refine lv_istore (lv' := [(6, .int (0)), (5, .int (w3 ((kRN p0 p1)))), (0, .ref b), (1, .ref (Ad 1)), (2, .ref (Ad 5)), (3, .ref (Ad 0)), (4, .int (nI q))]) hx hb dL_law_1165 hl (by decide) rfl (fun ls hl => ?_)
    refine lv_aload_n hx hb dL_law_1167 rfl (lv_at hl 4 rfl) ?_
    refine gciT (X := wX T Ad AF ho D mny N f g rk rf rg rh) (va_runV (As := []) (rest := []) ⟨hx, hb, hml, hown, hts⟩ (kX3_thrown l G T (Ad 5) (AF 8) (upd I1 17 (w3 ((kRN p0 p1)))) F _) (cwV 0 hts gL_law_X3_thrown rfl rfl rfl (by decide +kernel) ⟨Nat.le_of_ble_eq_true rfl, Nat.le_of_ble_eq_true rfl⟩) ⟨gblind, va_recv hK hP (ci := 3) (q0 := 68) rfl (wL_m (ho1 := ho) (D1 := D) (m1 := mny)), gpreT (X := wX T Ad AF ho D mny N f g rk rf rg rh) hE hK hP hD hS hA⟩ rfl rfl hl.1 rfl (lv_room (Nat.le_of_ble_eq_true rfl)) dL_law_1168 ⟨Nat.le_trans (by omega) hcl, Nat.le_trans (by omega) hsl⟩) hP hD hS hA cM_fst (fun r9 H locs hw hP hD hS => ?_)
    refine gtop (y := w3 ((kRN p0 p1))) (hw.trans (show w3 ((kRN p0 p1)) = w3 ((kRN p0 p1)) by rw [hkc])) ?_
    refine lv_iload hx hb dL_law_1171 (lv_at hl 1 rfl) ?_
    refine lv_icmp_eq (tgt := 1178) hx hb dL_law_1173 (by decide) (fun _ => ?_) (fun c9 => absurd rfl c9)
    refine lv_iload hx hb dL_law_1178 (lv_at hl 1 rfl) ?_
    refine lv_if_ne (tgt := 1202) hx hb dL_law_1180 (by decide) (fun _ => ?_) (fun c9 => absurd c9 (w3_ne _ hk))
    refine lv_goto (tgt := 1261) hx hb dL_law_1202 (by decide) ?_
    refine W.widen (k := cells + 5) (n := slots + 30) (by omega) (by omega) ?_
    exact kk _ _ _ ⟨_, _, _, _, _, _, _, _, _, _, _, _, hR.idle _, hP, hD, hS⟩ (lv_sub hl [2, 3, 4, 5, 6] rfl)
set_option maxHeartbeats 8000000 in
set_option maxRecDepth 100000 in
theorem op_flush (C : gLC p s m c b L xs G T aK aV) (hl0 : l.stackTraces = false) (hcl : cells + 5 ≤ 631168) (hsl : slots + 30 ≤ 7202601) (hn : n < 512) (hq : q + 4 ≤ L) (h : gLS n G T Ad AF s H locs) (hl : lv_has ls 7 [(0, .ref b), (1, .ref (Ad 1)), (2, .ref (Ad 5)), (3, .ref (Ad 0)), (4, .int (nI q))])
    (kk : ∀ (H : Heap) (locs : List Loc) (ls : Array Slot), gLS (n + 1) G T Ad AF s H locs → lv_has ls 7 [(0, .ref b), (1, .ref (Ad 1)), (2, .ref (Ad 5)), (3, .ref (Ad 0)), (4, .int (nI q))] → W p l e room_1 s m #[Value.ref b] below meth c H locs (cells + 5) (slots + 30) Q (F0 m 1261 ls [])) : W p l e room_1 s m #[Value.ref b] below meth c H locs cells slots Q (F0 m 1205 ls []) := by
  obtain ⟨hx, hb, hml, hown, hts, hX, hbl, hK, hE, hWs, hL⟩ := id C
  have hA : ∀ q : Nat, s.heap.size ≤ q → gA s q := fun _ h => h
  have hbA : ¬ gA s b := Nat.not_le.mpr hbl
  obtain ⟨D, mny, N, f, g, rk, rf, rg, rh, I1, F, ho, hR, hP, hD, hS⟩ := h
  obtain ⟨p0, e0⟩ : ∃ y : Int32, y = xs (q + 1) := ⟨_, rfl⟩
  obtain ⟨r, hr3, hr9⟩ := ixR p0
  refine lv_aload_n hx hb dL_law_1205 rfl (lv_at hl 1 rfl) ?_
  refine lv_aload_n hx hb dL_law_1206 rfl (lv_at hl 0 rfl) ?_
  refine lv_iload hx hb dL_law_1207 (lv_at hl 4 rfl) ?_
  refine lv_iconst (v := 1) hx hb dL_law_1209 (by decide) ?_
  refine lv_iadd hx hb dL_law_1210 ?_
  refine gtop (y := nI (q + 1)) (nI_add q 1) ?_
  refine gsld hx hb hX hbl hbA hS (j := q + 1) (by omega) (by omega) e0 dL_law_1211 ?_
  refine lv_aload_n hx hb dL_law_1212 rfl (lv_at hl 3 rfl) ?_
  by_cases hk : (kRes p0) = 0
  · skip
    refine gci (vx_runSW (As := [.ref (Ad 1), .int p0, .ref (Ad 0)]) (rest := []) ⟨hx, hb, hml, hown, hts⟩ (kL_flush_ok l hl0 G T (Ad 1) (Ad 2) (Ad 3) (Ad 4) D mny (AF 0) (AF 3) r (AF 4 r) (AF 5 r) (AF 6 r) (AF 7 r) (rk r) (rf r) (rg r) (rh r) p0 (Ad 0) ho _ hr9 hk) (vx_cwSW 3 hts gL_law_L_flush rfl rfl rfl (by decide +kernel) ⟨Nat.le_of_ble_eq_true rfl, Nat.le_of_ble_eq_true rfl⟩) ⟨gblind, gpre hE hK hP hD hS hA [0, 1, 2, 3, 4, 53 + 5 * r, 54 + 5 * r, 55 + 5 * r, 56 + 5 * r, 57 + 5 * r] (wL_ndR hr3) (wL_cutR (ho1 := ho) (D1 := D) (m1 := mny) hr3)⟩ rfl rfl hl.1 rfl (lv_room (Nat.le_of_ble_eq_true rfl)) dL_law_1213 ⟨Nat.le_trans (by omega) hcl, Nat.le_trans (by omega) hsl⟩) hP hD hS hA [0, 1, 2, 3, 4, 53 + 5 * r, 54 + 5 * r, 55 + 5 * r, 56 + 5 * r, 57 + 5 * r] (wL_cutR (ho1 := ho) (D1 := D) (m1 := mny) hr3) rfl (fun r9 H locs hw hP hD hS => ?_)
    have hP := gfin hP (wL_repR hr3)
    have hD := gfinD hD (wL_repR hr3)
    try simp only [updA_self] at hP hD
    have hP : va_P G vwCl (wX T Ad AF (vp_updL ho 0 (((sKept (rk r) 16)).toInt64)) D mny N f g (updA rk r (fun _ => 0)) rf rg rh ++ cM T (Ad 5) (AF 8) I1 F) H := hP
    have hD : va_D (gA s) (wX T Ad AF (vp_updL ho 0 (((sKept (rk r) 16)).toInt64)) D mny N f g (updA rk r (fun _ => 0)) rf rg rh ++ cM T (Ad 5) (AF 8) I1 F) := hD
    subst hw
    have hkc : (kRes p0) = (kRes p0) := rfl
    have hsim := fun _ : kRes p0 = 0 => sim_flush hR hn hr3
    refine lv_istore (lv' := [(5, .int 0), (0, .ref b), (1, .ref (Ad 1)), (2, .ref (Ad 5)), (3, .ref (Ad 0)), (4, .int (nI q))]) hx hb dL_law_1216 hl (by decide) rfl (fun ls hl => ?_)
    refine lv_aload_n hx hb dL_law_1218 rfl (lv_at hl 3 rfl) ?_
    refine lv_aload_n hx hb dL_law_1219 rfl (lv_at hl 1 rfl) ?_
    refine lv_iload hx hb dL_law_1220 (lv_at hl 5 rfl) ?_
    refine lv_iconst (v := 1) hx hb dL_law_1222 (by decide) ?_
    refine lv_iadd hx hb dL_law_1223 ?_
    refine gtop (y := nI (q + 1)) (nI_add q 1) ?_
    refine gsld hx hb hX hbl hbA hS (j := q + 1) (by omega) (by omega) e0 dL_law_1224 ?_
    refine gciT (X := wX T Ad AF (vp_updL ho 0 (((sKept (rk r) 16)).toInt64)) D mny N f g (updA rk r (fun _ => 0)) rf rg rh) (va_runV (As := [.int p0]) (rest := []) ⟨hx, hb, hml, hown, hts⟩ (kX3_flush l G T (Ad 5) (AF 8) I1 F r p0 _ hr9) (cwV 1 hts gL_law_X3_flush rfl rfl rfl (by decide +kernel) ⟨Nat.le_of_ble_eq_true rfl, Nat.le_of_ble_eq_true rfl⟩) ⟨gblind, va_recv hK hP (ci := 3) (q0 := 68) rfl (wL_m (ho1 := ho) (D1 := D) (m1 := mny)), gpreT (X := wX T Ad AF (vp_updL ho 0 (((sKept (rk r) 16)).toInt64)) D mny N f g (updA rk r (fun _ => 0)) rf rg rh) hE hK hP hD hS hA⟩ rfl rfl hl.1 rfl (lv_room (Nat.le_of_ble_eq_true rfl)) dL_law_1225 ⟨Nat.le_trans (by omega) hcl, Nat.le_trans (by omega) hsl⟩) hP hD hS hA cM_fst (fun r9 H locs hw hP hD hS => ?_)
    have hc : (kRes p0) = 0 := hkc.symm.trans hk
    rw [if_pos hc, if_pos hc] at hP hD
    rw [if_pos hc] at hw
    subst hw
    have hP : va_P G vwCl (wX T Ad AF (vp_updL ho 0 (((sKept (rk r) 16)).toInt64)) D mny N f g (updA rk r (fun _ => 0)) rf rg rh ++ cM T (Ad 5) (AF 8) (upd I1 17 0) (updA F 14 (mFls (F 14) r 16))) H := hP
    have hD : va_D (gA s) (wX T Ad AF (vp_updL ho 0 (((sKept (rk r) 16)).toInt64)) D mny N f g (updA rk r (fun _ => 0)) rf rg rh ++ cM T (Ad 5) (AF 8) (upd I1 17 0) (updA F 14 (mFls (F 14) r 16))) := hD
    refine lv_istore (lv' := [(6, .int ((mKept (F 14) r 16))), (5, .int 0), (0, .ref b), (1, .ref (Ad 1)), (2, .ref (Ad 5)), (3, .ref (Ad 0)), (4, .int (nI q))]) hx hb dL_law_1228 hl (by decide) rfl (fun ls hl => ?_)
    refine lv_aload_n hx hb dL_law_1230 rfl (lv_at hl 4 rfl) ?_
    refine gciT (X := wX T Ad AF (vp_updL ho 0 (((sKept (rk r) 16)).toInt64)) D mny N f g (updA rk r (fun _ => 0)) rf rg rh) (va_runV (As := []) (rest := []) ⟨hx, hb, hml, hown, hts⟩ (kX3_thrown l G T (Ad 5) (AF 8) (upd I1 17 0) (updA F 14 (mFls (F 14) r 16)) _) (cwV 0 hts gL_law_X3_thrown rfl rfl rfl (by decide +kernel) ⟨Nat.le_of_ble_eq_true rfl, Nat.le_of_ble_eq_true rfl⟩) ⟨gblind, va_recv hK hP (ci := 3) (q0 := 68) rfl (wL_m (ho1 := ho) (D1 := D) (m1 := mny)), gpreT (X := wX T Ad AF (vp_updL ho 0 (((sKept (rk r) 16)).toInt64)) D mny N f g (updA rk r (fun _ => 0)) rf rg rh) hE hK hP hD hS hA⟩ rfl rfl hl.1 rfl (lv_room (Nat.le_of_ble_eq_true rfl)) dL_law_1231 ⟨Nat.le_trans (by omega) hcl, Nat.le_trans (by omega) hsl⟩) hP hD hS hA cM_fst (fun r9 H locs hw hP hD hS => ?_)
    refine gtop (y := 0) hw ?_
    refine lv_iload hx hb dL_law_1234 (lv_at hl 1 rfl) ?_
    refine lv_icmp_eq (tgt := 1241) hx hb dL_law_1236 (by decide) (fun _ => ?_) (fun c9 => absurd rfl c9)
    refine lv_iload hx hb dL_law_1241 (lv_at hl 1 rfl) ?_
    refine lv_if_ne (tgt := 1258) hx hb dL_law_1243 (by decide) (fun c9 => absurd rfl c9) (fun _ => ?_)
    refine lv_aload_n hx hb dL_law_1246 rfl (lv_at hl 5 rfl) ?_
    refine lv_iconst (v := 0) hx hb dL_law_1247 (by decide) ?_
    refine glald (j := 0) hx hb hK hP 0 4 (wL_0 (ho1 := ho) (D1 := D) (m1 := mny)) rfl (show (0 : Int32) = nI 0 from rfl) (by omega) (by decide) dL_law_1248 ?_
    obtain ⟨ea, hrel⟩ := hsim hk
    refine lv_iload hx hb dL_law_1249 (lv_at hl 0 rfl) ?_
    refine lv_i2l (v := ((mKept (F 14) r 16)).toInt64) hx hb dL_law_1251 rfl ?_
    refine W.lcmp hx hb dL_law_1252 ?_
    refine gtop (y := 0) (lcmp0 (show ((sKept (rk r) 16)).toInt64 = ((mKept (F 14) r 16)).toInt64 from congrArg Int32.toInt64 ea)) ?_
    refine lv_if_eq (tgt := 1258) hx hb dL_law_1253 (by decide) (fun _ => ?_) (fun c9 => absurd rfl c9)
    refine lv_goto (tgt := 1261) hx hb dL_law_1258 (by decide) ?_
    refine W.widen (k := cells + 5) (n := slots + 30) (by omega) (by omega) ?_
    exact kk _ _ _ ⟨_, _, _, _, _, _, _, _, _, _, _, _, hrel, hP, hD, hS⟩ (lv_sub hl [2, 3, 4, 5, 6] rfl)
  · skip
    refine gci (vx_runSW (As := [.ref (Ad 1), .int p0, .ref (Ad 0)]) (rest := []) ⟨hx, hb, hml, hown, hts⟩ (kL_flush_no l hl0 G T (Ad 1) (Ad 2) (Ad 3) (Ad 4) D mny (AF 0) (AF 3) r (AF 4 r) (AF 5 r) (AF 6 r) (AF 7 r) (rk r) (rf r) (rg r) (rh r) p0 (Ad 0) ho _ hr9 hk) (vx_cwSW 3 hts gL_law_L_flush rfl rfl rfl (by decide +kernel) ⟨Nat.le_of_ble_eq_true rfl, Nat.le_of_ble_eq_true rfl⟩) ⟨gblind, gpre hE hK hP hD hS hA [0, 1, 2, 3, 4, 53 + 5 * r, 54 + 5 * r, 55 + 5 * r, 56 + 5 * r, 57 + 5 * r] (wL_ndR hr3) (wL_cutR (ho1 := ho) (D1 := D) (m1 := mny) hr3)⟩ rfl rfl hl.1 rfl (lv_room (Nat.le_of_ble_eq_true rfl)) dL_law_1213 ⟨Nat.le_trans (by omega) hcl, Nat.le_trans (by omega) hsl⟩) hP hD hS hA [0, 1, 2, 3, 4, 53 + 5 * r, 54 + 5 * r, 55 + 5 * r, 56 + 5 * r, 57 + 5 * r] (wL_cutR (ho1 := ho) (D1 := D) (m1 := mny) hr3) rfl (fun r9 H locs hw hP hD hS => ?_)
    have hP := gfin hP (wL_repR hr3)
    have hD := gfinD hD (wL_repR hr3)
    try simp only [updA_self] at hP hD
    have hP : va_P G vwCl (wX T Ad AF ho D mny N f g rk rf rg rh ++ cM T (Ad 5) (AF 8) I1 F) H := hP
    have hD : va_D (gA s) (wX T Ad AF ho D mny N f g rk rf rg rh ++ cM T (Ad 5) (AF 8) I1 F) := hD
    subst hw
    have hkc : (kRes p0) = (kRes p0) := rfl
    have hsim := fun _ : kRes p0 = 0 => sim_flush hR hn hr3
    refine lv_istore (lv' := [(5, .int (w3 ((kRes p0)))), (0, .ref b), (1, .ref (Ad 1)), (2, .ref (Ad 5)), (3, .ref (Ad 0)), (4, .int (nI q))]) hx hb dL_law_1216 hl (by decide) rfl (fun ls hl => ?_)
    refine lv_aload_n hx hb dL_law_1218 rfl (lv_at hl 3 rfl) ?_
    refine lv_aload_n hx hb dL_law_1219 rfl (lv_at hl 1 rfl) ?_
    refine lv_iload hx hb dL_law_1220 (lv_at hl 5 rfl) ?_
    refine lv_iconst (v := 1) hx hb dL_law_1222 (by decide) ?_
    refine lv_iadd hx hb dL_law_1223 ?_
    refine gtop (y := nI (q + 1)) (nI_add q 1) ?_
    refine gsld hx hb hX hbl hbA hS (j := q + 1) (by omega) (by omega) e0 dL_law_1224 ?_
    refine gciT (X := wX T Ad AF ho D mny N f g rk rf rg rh) (va_runV (As := [.int p0]) (rest := []) ⟨hx, hb, hml, hown, hts⟩ (kX3_flush l G T (Ad 5) (AF 8) I1 F r p0 _ hr9) (cwV 1 hts gL_law_X3_flush rfl rfl rfl (by decide +kernel) ⟨Nat.le_of_ble_eq_true rfl, Nat.le_of_ble_eq_true rfl⟩) ⟨gblind, va_recv hK hP (ci := 3) (q0 := 68) rfl (wL_m (ho1 := ho) (D1 := D) (m1 := mny)), gpreT (X := wX T Ad AF ho D mny N f g rk rf rg rh) hE hK hP hD hS hA⟩ rfl rfl hl.1 rfl (lv_room (Nat.le_of_ble_eq_true rfl)) dL_law_1225 ⟨Nat.le_trans (by omega) hcl, Nat.le_trans (by omega) hsl⟩) hP hD hS hA cM_fst (fun r9 H locs hw hP hD hS => ?_)
    have hc : ¬ (kRes p0) = 0 := fun z => hk (hkc.trans z)
    rw [if_neg hc, if_neg hc] at hP hD
    rw [if_neg hc] at hw
    subst hw
    have hP : va_P G vwCl (wX T Ad AF ho D mny N f g rk rf rg rh ++ cM T (Ad 5) (AF 8) (upd I1 17 (w3 ((kRes p0)))) F) H := hP
    have hD : va_D (gA s) (wX T Ad AF ho D mny N f g rk rf rg rh ++ cM T (Ad 5) (AF 8) (upd I1 17 (w3 ((kRes p0)))) F) := hD
    refine lv_istore (lv' := [(6, .int (0)), (5, .int (w3 ((kRes p0)))), (0, .ref b), (1, .ref (Ad 1)), (2, .ref (Ad 5)), (3, .ref (Ad 0)), (4, .int (nI q))]) hx hb dL_law_1228 hl (by decide) rfl (fun ls hl => ?_)
    refine lv_aload_n hx hb dL_law_1230 rfl (lv_at hl 4 rfl) ?_
    refine gciT (X := wX T Ad AF ho D mny N f g rk rf rg rh) (va_runV (As := []) (rest := []) ⟨hx, hb, hml, hown, hts⟩ (kX3_thrown l G T (Ad 5) (AF 8) (upd I1 17 (w3 ((kRes p0)))) F _) (cwV 0 hts gL_law_X3_thrown rfl rfl rfl (by decide +kernel) ⟨Nat.le_of_ble_eq_true rfl, Nat.le_of_ble_eq_true rfl⟩) ⟨gblind, va_recv hK hP (ci := 3) (q0 := 68) rfl (wL_m (ho1 := ho) (D1 := D) (m1 := mny)), gpreT (X := wX T Ad AF ho D mny N f g rk rf rg rh) hE hK hP hD hS hA⟩ rfl rfl hl.1 rfl (lv_room (Nat.le_of_ble_eq_true rfl)) dL_law_1231 ⟨Nat.le_trans (by omega) hcl, Nat.le_trans (by omega) hsl⟩) hP hD hS hA cM_fst (fun r9 H locs hw hP hD hS => ?_)
    refine gtop (y := w3 ((kRes p0))) (hw.trans (show w3 ((kRes p0)) = w3 ((kRes p0)) by rw [hkc])) ?_
    refine lv_iload hx hb dL_law_1234 (lv_at hl 1 rfl) ?_
    refine lv_icmp_eq (tgt := 1241) hx hb dL_law_1236 (by decide) (fun _ => ?_) (fun c9 => absurd rfl c9)
    refine lv_iload hx hb dL_law_1241 (lv_at hl 1 rfl) ?_
    refine lv_if_ne (tgt := 1258) hx hb dL_law_1243 (by decide) (fun _ => ?_) (fun c9 => absurd c9 (w3_ne _ hk))
    refine lv_goto (tgt := 1261) hx hb dL_law_1258 (by decide) ?_
    refine W.widen (k := cells + 5) (n := slots + 30) (by omega) (by omega) ?_
    exact kk _ _ _ ⟨_, _, _, _, _, _, _, _, _, _, _, _, hR.idle _, hP, hD, hS⟩ (lv_sub hl [2, 3, 4, 5, 6] rfl)
end LAWOPS
