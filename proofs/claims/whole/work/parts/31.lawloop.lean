/-! THE LAW'S LOOP -/
set_option maxHeartbeats 8000000 in
set_option maxRecDepth 100000 in
theorem law_case {p : Program} {l : Launch} {e : Env} {s : State} {m : MethodId} {below : List Frame} {meth : Method} {c : Code} {b L : Nat} {xs : Nat → Int32} {G : va_G} {T : Nat → ClassId} {aK aV : Nat → Nat} {Ad : Nat → Nat} {AF : Nat → Nat → Nat} {H : Heap} {locs : List Loc} {ls : Array Slot} {cells slots n q : Nat} {Q : State → Prop}
    (C : gLC p s m c b L xs G T aK aV) (hl0 : l.stackTraces = false) (hcl : cells + 5 ≤ 631168) (hsl : slots + 30 ≤ 7202601) (hn : n < 512) (hq : q + 4 ≤ L) (h : gLS n G T Ad AF s H locs) (hl : lv_has ls 7 [(0, .ref b), (1, .ref (Ad 1)), (2, .ref (Ad 5)), (3, .ref (Ad 0)), (4, .int (nI q))])
    (kk : ∀ (H : Heap) (locs : List Loc) (ls : Array Slot), gLS (n + 1) G T Ad AF s H locs → lv_has ls 7 [(0, .ref b), (1, .ref (Ad 1)), (2, .ref (Ad 5)), (3, .ref (Ad 0)), (4, .int (nI q))] → W p l e room_1 s m #[Value.ref b] below meth c H locs (cells + 5) (slots + 30) Q (F0 m 1261 ls [])) : W p l e room_1 s m #[Value.ref b] below meth c H locs cells slots Q (F0 m 32 ls []) := by
  obtain ⟨hx, hb, hml, hown, hts, hX, hbl, hK, hE, hWs, hL⟩ := id C
  have hbA : ¬ gA s b := Nat.not_le.mpr hbl
  have hS : va_S (gA s) s.heap H locs := by
    obtain ⟨D, mny, N, f, g, rk, rf, rg, rh, I1, F, ho, hR, hP, hD, hS⟩ := h
    exact hS
  refine lv_aload_n hx hb dL_law_32 rfl (lv_at hl 0 rfl) ?_
  refine lv_iload hx hb dL_law_33 (lv_at hl 4 rfl) ?_
  refine gsld hx hb hX hbl hbA hS (j := q) (by omega) (by omega) (v := xs q) rfl dL_law_35 ?_
  refine lv_bipush (v := 31) hx hb dL_law_36 (by decide) ?_
  refine lv_iand hx hb dL_law_38 ?_
  generalize xs q &&& 31 = x
  by_cases c_0 : x = 0
  · refine lv_tableIn (off := 89) (tgt := 128) hx hb dL_law_39 (by rw [c_0]; decide) (by rw [c_0]; decide) (by rw [c_0]; decide) (by decide) ?_
    exact op_deposit C hl0 hcl hsl hn hq h hl kk
  by_cases c_1 : x = 1
  · refine lv_tableIn (off := 157) (tgt := 196) hx hb dL_law_39 (by rw [c_1]; decide) (by rw [c_1]; decide) (by rw [c_1]; decide) (by decide) ?_
    exact op_funds C hl0 hcl hsl hn hq h hl kk
  by_cases c_2 : x = 2
  · refine lv_tableIn (off := 213) (tgt := 252) hx hb dL_law_39 (by rw [c_2]; decide) (by rw [c_2]; decide) (by rw [c_2]; decide) (by decide) ?_
    exact op_bid C hl0 hcl hsl hn hq h hl kk
  by_cases c_3 : x = 3
  · refine lv_tableIn (off := 293) (tgt := 332) hx hb dL_law_39 (by rw [c_3]; decide) (by rw [c_3]; decide) (by rw [c_3]; decide) (by decide) ?_
    exact op_bids C hl0 hcl hsl hn hq h hl kk
  by_cases c_4 : x = 4
  · refine lv_tableIn (off := 349) (tgt := 388) hx hb dL_law_39 (by rw [c_4]; decide) (by rw [c_4]; decide) (by rw [c_4]; decide) (by decide) ?_
    exact op_renew C hl0 hcl hsl hn hq h hl kk
  by_cases c_5 : x = 5
  · refine lv_tableIn (off := 417) (tgt := 456) hx hb dL_law_39 (by rw [c_5]; decide) (by rw [c_5]; decide) (by rw [c_5]; decide) (by decide) ?_
    exact op_redeem C hl0 hcl hsl hn hq h hl kk
  by_cases c_6 : x = 6
  · refine lv_tableIn (off := 473) (tgt := 512) hx hb dL_law_39 (by rw [c_6]; decide) (by rw [c_6]; decide) (by rw [c_6]; decide) (by decide) ?_
    exact op_setRecord C hl0 hcl hsl hn hq h hl kk
  by_cases c_7 : x = 7
  · refine lv_tableIn (off := 553) (tgt := 592) hx hb dL_law_39 (by rw [c_7]; decide) (by rw [c_7]; decide) (by rw [c_7]; decide) (by decide) ?_
    exact op_state C hl0 hcl hsl hn hq h hl kk
  by_cases c_8 : x = 8
  · refine lv_tableIn (off := 609) (tgt := 648) hx hb dL_law_39 (by rw [c_8]; decide) (by rw [c_8]; decide) (by rw [c_8]; decide) (by decide) ?_
    exact op_sign C hl0 hcl hsl hn hq h hl kk
  by_cases c_9 : x = 9
  · refine lv_tableIn (off := 677) (tgt := 716) hx hb dL_law_39 (by rw [c_9]; decide) (by rw [c_9]; decide) (by rw [c_9]; decide) (by decide) ?_
    exact op_owner C hl0 hcl hsl hn hq h hl kk
  by_cases c_10 : x = 10
  · refine lv_tableIn (off := 733) (tgt := 772) hx hb dL_law_39 (by rw [c_10]; decide) (by rw [c_10]; decide) (by rw [c_10]; decide) (by decide) ?_
    exact op_next C hl0 hcl hsl hn hq h hl kk
  by_cases c_11 : x = 11
  · refine lv_tableIn (off := 789) (tgt := 828) hx hb dL_law_39 (by rw [c_11]; decide) (by rw [c_11]; decide) (by rw [c_11]; decide) (by decide) ?_
    exact op_dispute C hl0 hcl hsl hn hq h hl kk
  by_cases c_12 : x = 12
  · refine lv_tableIn (off := 857) (tgt := 896) hx hb dL_law_39 (by rw [c_12]; decide) (by rw [c_12]; decide) (by rw [c_12]; decide) (by decide) ?_
    exact op_decide C hl0 hcl hsl hn hq h hl kk
  by_cases c_13 : x = 13
  · refine lv_tableIn (off := 941) (tgt := 980) hx hb dL_law_39 (by rw [c_13]; decide) (by rw [c_13]; decide) (by rw [c_13]; decide) (by decide) ?_
    exact op_pass C hl0 hcl hsl hn hq h hl kk
  by_cases c_14 : x = 14
  · refine lv_tableIn (off := 997) (tgt := 1036) hx hb dL_law_39 (by rw [c_14]; decide) (by rw [c_14]; decide) (by rw [c_14]; decide) (by decide) ?_
    exact op_today C hl0 hcl hsl hn hq h hl kk
  by_cases c_15 : x = 15
  · refine lv_tableIn (off := 1010) (tgt := 1049) hx hb dL_law_39 (by rw [c_15]; decide) (by rw [c_15]; decide) (by rw [c_15]; decide) (by decide) ?_
    exact op_takings C hl0 hcl hsl hn hq h hl kk
  by_cases c_16 : x = 16
  · refine lv_tableIn (off := 1023) (tgt := 1062) hx hb dL_law_39 (by rw [c_16]; decide) (by rw [c_16]; decide) (by rw [c_16]; decide) (by decide) ?_
    exact op_lookUp C hl0 hcl hsl hn hq h hl kk
  by_cases c_17 : x = 17
  · refine lv_tableIn (off := 1091) (tgt := 1130) hx hb dL_law_39 (by rw [c_17]; decide) (by rw [c_17]; decide) (by rw [c_17]; decide) (by decide) ?_
    exact op_isStale C hl0 hcl hsl hn hq h hl kk
  by_cases c_18 : x = 18
  · refine lv_tableIn (off := 1166) (tgt := 1205) hx hb dL_law_39 (by rw [c_18]; decide) (by rw [c_18]; decide) (by rw [c_18]; decide) (by decide) ?_
    exact op_flush C hl0 hcl hsl hn hq h hl kk
  have e_0 : x.toInt ≠ 0 := fun z => c_0 (Int32.toInt_inj.mp z)
  have e_1 : x.toInt ≠ 1 := fun z => c_1 (Int32.toInt_inj.mp z)
  have e_2 : x.toInt ≠ 2 := fun z => c_2 (Int32.toInt_inj.mp z)
  have e_3 : x.toInt ≠ 3 := fun z => c_3 (Int32.toInt_inj.mp z)
  have e_4 : x.toInt ≠ 4 := fun z => c_4 (Int32.toInt_inj.mp z)
  have e_5 : x.toInt ≠ 5 := fun z => c_5 (Int32.toInt_inj.mp z)
  have e_6 : x.toInt ≠ 6 := fun z => c_6 (Int32.toInt_inj.mp z)
  have e_7 : x.toInt ≠ 7 := fun z => c_7 (Int32.toInt_inj.mp z)
  have e_8 : x.toInt ≠ 8 := fun z => c_8 (Int32.toInt_inj.mp z)
  have e_9 : x.toInt ≠ 9 := fun z => c_9 (Int32.toInt_inj.mp z)
  have e_10 : x.toInt ≠ 10 := fun z => c_10 (Int32.toInt_inj.mp z)
  have e_11 : x.toInt ≠ 11 := fun z => c_11 (Int32.toInt_inj.mp z)
  have e_12 : x.toInt ≠ 12 := fun z => c_12 (Int32.toInt_inj.mp z)
  have e_13 : x.toInt ≠ 13 := fun z => c_13 (Int32.toInt_inj.mp z)
  have e_14 : x.toInt ≠ 14 := fun z => c_14 (Int32.toInt_inj.mp z)
  have e_15 : x.toInt ≠ 15 := fun z => c_15 (Int32.toInt_inj.mp z)
  have e_16 : x.toInt ≠ 16 := fun z => c_16 (Int32.toInt_inj.mp z)
  have e_17 : x.toInt ≠ 17 := fun z => c_17 (Int32.toInt_inj.mp z)
  have e_18 : x.toInt ≠ 18 := fun z => c_18 (Int32.toInt_inj.mp z)
  refine lv_tableOut (tgt := 1261) hx hb dL_law_39 (by omega) (by decide) ?_
  refine W.widen (k := cells + 5) (n := slots + 30) (by omega) (by omega) ?_
  obtain ⟨D, mny, N, f, g, rk, rf, rg, rh, I1, F, ho, hR, hP, hD, hS⟩ := h
  exact kk _ _ _ ⟨D, mny, N, f, g, rk, rf, rg, rh, I1, F, ho, hR.up, hP, hD, hS⟩ hl
set_option maxHeartbeats 8000000 in
set_option maxRecDepth 100000 in
theorem law_loop {p : Program} {l : Launch} {e : Env} {s : State} {m : MethodId} {below : List Frame} {meth : Method} {c : Code} {b L : Nat} {xs : Nat → Int32} {G : va_G} {T : Nat → ClassId} {aK aV : Nat → Nat} {Ad : Nat → Nat} {AF : Nat → Nat → Nat}
    (C : gLC p s m c b L xs G T aK aV) (hl0 : l.stackTraces = false) (hr : meth.sig.returnType = ret) (hlocks : meth.locks = false) :
    ∀ (k n q : Nat) (H : Heap) (locs : List Loc) (ls : Array Slot) (cells slots : Nat), q ≤ L → q = 4 * n → L + 4 ≤ q + 4 * k → cells ≤ 100 + 5 * n → slots ≤ 1200 + 30 * n → gLS n G T Ad AF s H locs → lv_has ls 7 [(0, .ref b), (1, .ref (Ad 1)), (2, .ref (Ad 5)), (3, .ref (Ad 0)), (4, .int (nI q))] → W p l e room_1 s m #[Value.ref b] below meth c H locs cells slots (lw_Z below #[Value.ref b] s) (F0 m 23 ls []) := by
  obtain ⟨hx, hb, hml, hown, hts, hX, hbl, hK, hE, hWs, hL⟩ := id C
  have hbA : ¬ gA s b := Nat.not_le.mpr hbl
  intro k
  induction k with
  | zero =>
    intro n q H locs ls cells slots h1 h2 h3
    exact absurd h3 (by omega)
  | succ k ih =>
    intro n q H locs ls cells slots h1 h2 h3 h4 h5 h hl
    have hS : va_S (gA s) s.heap H locs := by
      obtain ⟨D, mny, N, f, g, rk, rf, rg, rh, I1, F, ho, hR, hP, hD, hS⟩ := h
      exact hS
    refine lv_iload hx hb dL_law_23 (lv_at hl 4 rfl) ?_
    refine lv_aload_n hx hb dL_law_25 rfl (lv_at hl 0 rfl) ?_
    refine va_slen hx hb hX hbl hbA hS dL_law_26 ?_
    refine lv_iconst (v := 4) hx hb dL_law_27 (by decide) ?_
    refine lv_isub hx hb dL_law_28 ?_
    have e1 : (Int32.ofNat L - 4).toInt = (L : Int) - 4 := pk_sub_toInt (a := L) (b := 4) (by omega) (by omega)
    have e2 : (nI q).toInt = (q : Int) := nI_toInt (by omega)
    refine lv_icmp_gt (tgt := 1267) hx hb dL_law_29 (by decide) (fun c9 => ?_) (fun c9 => ?_)
    · refine lv_iconst (v := 1) hx hb dL_law_1267 (by decide) ?_
      refine va_forget (fun q hq => hS.2.2 q hq) ?_
      refine W.widen (k := 631168) (n := 7202601) (by omega) (by omega) ?_
      exact lw_ret hx hb hr hlocks dL_law_1268
    · have hlt : q + 4 ≤ L := by
        have c8 : ¬ (Int32.ofNat L - 4).toInt < (nI q).toInt := fun z => c9 (Int32.lt_iff_toInt_lt.mpr z)
        omega
      refine law_case C hl0 (by omega) (by omega) (show n < 512 by omega) hlt h hl (fun H locs ls h hl => ?_)
      refine lv_iinc (v := nI (q + 4)) (lv' := [(4, .int (nI (q + 4))), (0, .ref b), (1, .ref (Ad 1)), (2, .ref (Ad 5)), (3, .ref (Ad 0))]) hx hb dL_law_1261 hl (k := 4) rfl (by first | rfl | exact (nI_add q 4)) (by decide) rfl (fun ls hl => ?_)
      refine lv_goto (tgt := 23) hx hb dL_law_1264 (by decide) ?_
      exact ih (n + 1) (q + 4) H locs ls (cells + 5) (slots + 30) hlt (by omega) (by omega) (by omega) (by omega) h (lv_sub hl [1, 2, 3, 4, 0] rfl)
