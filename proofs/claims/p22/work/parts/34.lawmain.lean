
/-! THE LAW: from its entry -/
theorem fill_row {t f : Nat → Int32} {i j : Nat} (hi : i < 16) (h : ∀ j, j < i → t (16 + j) = -1 ∧ t (32 + j) = -1 ∧ f j = -1) (hj : j < i + 1) : upd (upd t (16 + i) (-1)) (32 + i) (-1) (16 + j) = -1 ∧ upd (upd t (16 + i) (-1)) (32 + i) (-1) (32 + j) = -1 ∧ upd f i (-1) j = -1 := by
  by_cases q : j = i
  · subst q
    exact ⟨by rw [upd_no (by omega), upd_at], upd_at _ _ _, upd_at _ _ _⟩
  · obtain ⟨h1, h2, h3⟩ := h j (by omega)
    exact ⟨by rw [upd_no (by omega), upd_no (by omega), h1], by rw [upd_no (by omega), upd_no (by omega), h2], by rw [upd_no q, h3]⟩
set_option maxRecDepth 100000 in
set_option maxHeartbeats 8000000 in
theorem law_from {p : Program} {l : Launch} {e : Env} {s : State} {m : MethodId} {below : List Frame} {meth : Method} {c : Code} {b L : Nat} {xs : Nat → Int32} {G : va_G} {T : Nat → ClassId} {aK aV : Nat → Nat} {Ad : Nat → Nat} {AF : Nat → Nat → Nat} {vD : Nat → Int32} {vm : Nat → Int32} {vN : Nat → Nat → Int32} {vf : Nat → Nat → Int32} {vg : Nat → Nat → Int32} {vk : Nat → Nat → Int32} {vr : Nat → Nat → Int32} {vx : Nat → Nat → Int32} {vh : Nat → Nat → Int32} {vt : Nat → Int32} {vc : Nat → Int32} {vy : Nat → Int32} {vz : Nat → Int32} {H : Heap} {locs : List Loc} {ls : Array Slot} (C : gLC p s m c b L xs G T aK aV) (hl0 : l.stackTraces = false) (hr : meth.sig.returnType = ret) (hlocks : meth.locks = false) (hI0 : INV 0 0 vD vm vN vf vk vr vx vh vt vc vy vz) (hP : va_P G vwCl (wW T Ad AF vt vc vy vz vD vm vN vf vg vk vr vx vh) H) (hD : va_D (gA s) (wW T Ad AF vt vc vy vz vD vm vN vf vg vk vr vx vh)) (hS : va_S (gA s) s.heap H locs) (hl : lv_has ls 8 [(0, .ref b), (1, .ref (Ad 1)), (2, .ref (Ad 5)), (3, .ref (Ad 6)), (4, .ref (Ad 7)), (5, .ref (Ad 8))]) : W p l e room_1 s m #[Value.ref b] below meth c H locs (71) (750) (lw_Z below #[Value.ref b] s) (F0 m 67 ls []) := by
  obtain ⟨hx, hb, hml, hown, hts, hX, hbl, hK, hE, hWs, hL⟩ := id C
  have hbA : ¬ gA s b := Nat.not_le.mpr hbl
  have hA : ∀ q : Nat, s.heap.size ≤ q → gA s q := fun _ h => h
  refine lv_aload_n hx hb dL_law_67 rfl (lv_at hl 1 rfl) ?_
  refine lv_aload_n hx hb dL_law_68 rfl (lv_at hl 2 rfl) ?_
  refine lv_aload_n hx hb dL_law_69 rfl (lv_at hl 3 rfl) ?_
  refine lv_aload hx hb dL_law_70 (lv_at hl 5 rfl) ?_
  refine gciT (X := ([] : va_W)) (va_runS (As := [.ref (Ad 1), .ref (Ad 5), .ref (Ad 6), .ref (Ad 8)]) (rest := []) ⟨hx, hb, hml, hown, hts⟩ (kL_areNames l hl0 G T aK aV Ad AF vD vm vN vf vg vk vr vx vh vt vc vy vz 0 0 _ hI0 (by omega) (by omega)) (va_cwS 4 hts gL_law_L_areNames rfl rfl rfl (by decide +kernel) ⟨Nat.le_of_ble_eq_true rfl, Nat.le_of_ble_eq_true rfl⟩) ⟨gblindW, gpreWT (X := ([] : va_W)) hWs hE hK hP hD hS hA⟩ rfl rfl hl.1 rfl (lv_room (Nat.le_of_ble_eq_true rfl)) dL_law_72 ⟨Nat.le_of_ble_eq_true rfl, Nat.le_of_ble_eq_true rfl⟩) hP hD hS hA wW_fst (fun r9 H locs hw hP hD hS => ?_)
  have hP : va_P G vwCl (wW T Ad AF vt vc vy vz vD vm vN vf vg vk vr vx vh) H := hP
  have hD : va_D (gA s) (wW T Ad AF vt vc vy vz vD vm vN vf vg vk vr vx vh) := hD
  subst hw
  refine lv_istore (lv' := [(6, .int 1), (0, .ref b), (1, .ref (Ad 1)), (2, .ref (Ad 5)), (3, .ref (Ad 6)), (4, .ref (Ad 7)), (5, .ref (Ad 8))]) hx hb dL_law_75 hl (by decide) rfl (fun ls hl => ?_)
  refine lv_iconst (v := 0) hx hb dL_law_77 (by decide) ?_
  refine lv_istore (lv' := [(7, .int 0), (6, .int 1), (0, .ref b), (1, .ref (Ad 1)), (2, .ref (Ad 5)), (3, .ref (Ad 6)), (4, .ref (Ad 7)), (5, .ref (Ad 8))]) hx hb dL_law_78 hl (by decide) rfl (fun ls hl => ?_)
  exact law_loop C hl0 hr hlocks 61 0 0 0 vD vm vN vf vg vk vr vx vh vt vc vy vz _ _ _ _ _ (by omega) (by omega) (by omega) (by omega) (by omega) (by omega) hI0 hP hD hS (lv_sub hl [2, 3, 4, 5, 6, 7, 1, 0] rfl)
set_option maxRecDepth 100000 in
set_option maxHeartbeats 8000000 in
theorem law_fill {p : Program} {l : Launch} {e : Env} {s : State} {m : MethodId} {below : List Frame} {meth : Method} {c : Code} {b L : Nat} {xs : Nat → Int32} {G : va_G} {T : Nat → ClassId} {aK aV : Nat → Nat} {x q5 q6 q7 q8 : Nat} {u : UA} {H : Heap} {locs : List Loc} {ls : Array Slot} (C : gLC p s m c b L xs G T aK aV) (hl0 : l.stackTraces = false) (hr : meth.sig.returnType = ret) (hlocks : meth.locks = false) (hP : va_P G vwCl ((cX T q5 48 (fun _ => 0)) ++ (cX T q6 48 (fun _ => 0)) ++ (cX T q7 48 (fun _ => 0)) ++ (cX T q8 3 (fun _ => 0)) ++ (wNA T x u)) H) (hD : va_D (gA s) ((cX T q5 48 (fun _ => 0)) ++ (cX T q6 48 (fun _ => 0)) ++ (cX T q7 48 (fun _ => 0)) ++ (cX T q8 3 (fun _ => 0)) ++ (wNA T x u))) (hS : va_S (gA s) s.heap H locs) (hl : lv_has ls 8 [(0, .ref b), (1, .ref x), (2, .ref q5), (3, .ref q6), (4, .ref q7), (5, .ref q8), (6, .int 0)]) : W p l e room_1 s m #[Value.ref b] below meth c H locs (71) (750) (lw_Z below #[Value.ref b] s) (F0 m 32 ls []) := by
  obtain ⟨hx, hb, hml, hown, hts, hX, hbl, hK, hE, hWs, hL⟩ := id C
  have hbA : ¬ gA s b := Nat.not_le.mpr hbl
  have hA : ∀ q : Nat, s.heap.size ≤ q → gA s q := fun _ h => h
  have J32 : ∀ n7 : Nat, ∀ (i : Nat) (t1 : Nat → Int32) (f1 : Nat → Int32) (H : Heap) (locs : List Loc) (ls : Array Slot), (i ≤ 16) → (17 ≤ i + n7) → (∀ j, j < 16 → t1 j = 0) → (∀ j, j < i → t1 (16 + j) = -1 ∧ t1 (32 + j) = -1 ∧ f1 j = -1) → va_P G vwCl ((cX T q5 48 t1) ++ (cX T q6 48 (fun _ => 0)) ++ (cX T q7 48 f1) ++ (cX T q8 3 (fun _ => 0)) ++ (wNA T x u)) H → va_D (gA s) ((cX T q5 48 t1) ++ (cX T q6 48 (fun _ => 0)) ++ (cX T q7 48 f1) ++ (cX T q8 3 (fun _ => 0)) ++ (wNA T x u)) → va_S (gA s) s.heap H locs → lv_has ls 8 [(0, .ref b), (1, .ref x), (2, .ref q5), (3, .ref q6), (4, .ref q7), (5, .ref q8), (6, .int (nI i))] → W p l e room_1 s m #[Value.ref b] below meth c H locs (71) (750) (lw_Z below #[Value.ref b] s) (F0 m 32 ls []) := by
    intro n7
    induction n7 with
    | zero => intro i t1 f1 H locs ls hi hm ht0 ht1 hP hD hS hl; exact absurd (hm) (by omega)
    | succ n7 ih32 =>
      intro i t1 f1 H locs ls hi hm ht0 ht1 hP hD hS hl
      refine lv_iload hx hb dL_law_32 (lv_at hl 6 rfl) ?_
      refine lv_bipush (v := 16) hx hb dL_law_34 (by decide) ?_
      refine lv_icmp_ge (tgt := 67) hx hb dL_law_36 (by decide) (fun c36 => ?_) (fun c36 => ?_)
      · skip
        have hge : i = 16 := by
          rcases Nat.lt_or_ge i 16 with q | q
          · exact absurd c36 (nI_ge (b := 16) q (by omega))
          · omega
        have hI0 := INV.init (t := t1) (F := f1) ht0 (fun j hj => ht1 j (by omega))
        have hP : va_P G vwCl (([(((fun k => if k = 1 then x else if k = 2 then u.1.1 else if k = 3 then u.1.2.1 else if k = 4 then u.1.2.2 else if k = 5 then q5 else if k = 6 then q6 else if k = 7 then q7 else q8) : Nat → Nat) 5, .inl (T 0, 48, .inl t1))]) ++ ([(((fun k => if k = 1 then x else if k = 2 then u.1.1 else if k = 3 then u.1.2.1 else if k = 4 then u.1.2.2 else if k = 5 then q5 else if k = 6 then q6 else if k = 7 then q7 else q8) : Nat → Nat) 6, .inl (T 0, 48, .inl (fun _ => 0)))]) ++ ([(((fun k => if k = 1 then x else if k = 2 then u.1.1 else if k = 3 then u.1.2.1 else if k = 4 then u.1.2.2 else if k = 5 then q5 else if k = 6 then q6 else if k = 7 then q7 else q8) : Nat → Nat) 7, .inl (T 0, 48, .inl f1))]) ++ ([(((fun k => if k = 1 then x else if k = 2 then u.1.1 else if k = 3 then u.1.2.1 else if k = 4 then u.1.2.2 else if k = 5 then q5 else if k = 6 then q6 else if k = 7 then q7 else q8) : Nat → Nat) 8, .inl (T 0, 3, .inl (fun _ => 0)))]) ++ (wC T (fun k => if k = 1 then x else if k = 2 then u.1.1 else if k = 3 then u.1.2.1 else if k = 4 then u.1.2.2 else if k = 5 then q5 else if k = 6 then q6 else if k = 7 then q7 else q8) (fun k => if k = 0 then u.2.1 else if k = 1 then u.2.2.1 else if k = 2 then u.2.2.2.1 else if k = 3 then u.2.2.2.2.1 else if k = 4 then u.2.2.2.2.2.1 else if k = 5 then u.2.2.2.2.2.2.1 else if k = 6 then u.2.2.2.2.2.2.2.1 else u.2.2.2.2.2.2.2.2) (fun _ => 0) (fun _ => 0) (fun _ => nI0) (fun _ _ => 0) (fun _ _ => 0) (fun _ _ => 0) (fun _ _ => 0) (fun _ _ => 0) (fun _ _ => 0))) H := hP
        have hD : va_D (gA s) (([(((fun k => if k = 1 then x else if k = 2 then u.1.1 else if k = 3 then u.1.2.1 else if k = 4 then u.1.2.2 else if k = 5 then q5 else if k = 6 then q6 else if k = 7 then q7 else q8) : Nat → Nat) 5, .inl (T 0, 48, .inl t1))]) ++ ([(((fun k => if k = 1 then x else if k = 2 then u.1.1 else if k = 3 then u.1.2.1 else if k = 4 then u.1.2.2 else if k = 5 then q5 else if k = 6 then q6 else if k = 7 then q7 else q8) : Nat → Nat) 6, .inl (T 0, 48, .inl (fun _ => 0)))]) ++ ([(((fun k => if k = 1 then x else if k = 2 then u.1.1 else if k = 3 then u.1.2.1 else if k = 4 then u.1.2.2 else if k = 5 then q5 else if k = 6 then q6 else if k = 7 then q7 else q8) : Nat → Nat) 7, .inl (T 0, 48, .inl f1))]) ++ ([(((fun k => if k = 1 then x else if k = 2 then u.1.1 else if k = 3 then u.1.2.1 else if k = 4 then u.1.2.2 else if k = 5 then q5 else if k = 6 then q6 else if k = 7 then q7 else q8) : Nat → Nat) 8, .inl (T 0, 3, .inl (fun _ => 0)))]) ++ (wC T (fun k => if k = 1 then x else if k = 2 then u.1.1 else if k = 3 then u.1.2.1 else if k = 4 then u.1.2.2 else if k = 5 then q5 else if k = 6 then q6 else if k = 7 then q7 else q8) (fun k => if k = 0 then u.2.1 else if k = 1 then u.2.2.1 else if k = 2 then u.2.2.2.1 else if k = 3 then u.2.2.2.2.1 else if k = 4 then u.2.2.2.2.2.1 else if k = 5 then u.2.2.2.2.2.2.1 else if k = 6 then u.2.2.2.2.2.2.2.1 else u.2.2.2.2.2.2.2.2) (fun _ => 0) (fun _ => 0) (fun _ => nI0) (fun _ _ => 0) (fun _ _ => 0) (fun _ _ => 0) (fun _ _ => 0) (fun _ _ => 0) (fun _ _ => 0))) := hD
        exact law_from (Ad := (fun k => if k = 1 then x else if k = 2 then u.1.1 else if k = 3 then u.1.2.1 else if k = 4 then u.1.2.2 else if k = 5 then q5 else if k = 6 then q6 else if k = 7 then q7 else q8)) (AF := (fun k => if k = 0 then u.2.1 else if k = 1 then u.2.2.1 else if k = 2 then u.2.2.2.1 else if k = 3 then u.2.2.2.2.1 else if k = 4 then u.2.2.2.2.2.1 else if k = 5 then u.2.2.2.2.2.2.1 else if k = 6 then u.2.2.2.2.2.2.2.1 else u.2.2.2.2.2.2.2.2)) C hl0 hr hlocks hI0 hP hD hS (lv_sub hl [0, 1, 2, 3, 4, 5] rfl)
      · skip
        have hlt : i < 16 := by
          rcases Nat.lt_or_ge i 16 with q | q
          · exact q
          · exact absurd (show (16 : Int32) ≤ nI i from nI_le (a := 16) q (by omega)) c36
        refine lv_aload_n hx hb dL_law_39 rfl (lv_at hl 2 rfl) ?_
        refine lv_bipush (v := 16) hx hb dL_law_40 (by decide) ?_
        refine lv_iload hx hb dL_law_42 (lv_at hl 6 rfl) ?_
        refine lv_iadd hx hb dL_law_44 ?_
        refine gtop (y := nI (16 + i)) (nI_add 16 i) ?_
        refine lv_iconst (v := (-1)) hx hb dL_law_45 (by decide) ?_
        refine giast (j := (16 + i)) hx hb hK hP hD hS 0 0 rfl rfl (show (nI (16 + i) : Int32) = nI (16 + i) from rfl) (by omega) (by decide) dL_law_46 (fun H locs hP hD hS => ?_)
        have hP : va_P G vwCl ((cX T q5 48 (upd t1 (16 + i) (-1))) ++ (cX T q6 48 (fun _ => 0)) ++ (cX T q7 48 f1) ++ (cX T q8 3 (fun _ => 0)) ++ (wNA T x u)) H := hP
        have hD : va_D (gA s) ((cX T q5 48 (upd t1 (16 + i) (-1))) ++ (cX T q6 48 (fun _ => 0)) ++ (cX T q7 48 f1) ++ (cX T q8 3 (fun _ => 0)) ++ (wNA T x u)) := hD
        refine lv_aload_n hx hb dL_law_47 rfl (lv_at hl 2 rfl) ?_
        refine lv_bipush (v := 32) hx hb dL_law_48 (by decide) ?_
        refine lv_iload hx hb dL_law_50 (lv_at hl 6 rfl) ?_
        refine lv_iadd hx hb dL_law_52 ?_
        refine gtop (y := nI (32 + i)) (nI_add 32 i) ?_
        refine lv_iconst (v := (-1)) hx hb dL_law_53 (by decide) ?_
        refine giast (j := (32 + i)) hx hb hK hP hD hS 0 0 rfl rfl (show (nI (32 + i) : Int32) = nI (32 + i) from rfl) (by omega) (by decide) dL_law_54 (fun H locs hP hD hS => ?_)
        have hP : va_P G vwCl ((cX T q5 48 (upd (upd t1 (16 + i) (-1)) (32 + i) (-1))) ++ (cX T q6 48 (fun _ => 0)) ++ (cX T q7 48 f1) ++ (cX T q8 3 (fun _ => 0)) ++ (wNA T x u)) H := hP
        have hD : va_D (gA s) ((cX T q5 48 (upd (upd t1 (16 + i) (-1)) (32 + i) (-1))) ++ (cX T q6 48 (fun _ => 0)) ++ (cX T q7 48 f1) ++ (cX T q8 3 (fun _ => 0)) ++ (wNA T x u)) := hD
        refine lv_aload hx hb dL_law_55 (lv_at hl 4 rfl) ?_
        refine lv_iload hx hb dL_law_57 (lv_at hl 6 rfl) ?_
        refine lv_iconst (v := (-1)) hx hb dL_law_59 (by decide) ?_
        refine giast (j := i) hx hb hK hP hD hS 2 0 rfl rfl (show (nI i : Int32) = nI i from rfl) (by omega) (by decide) dL_law_60 (fun H locs hP hD hS => ?_)
        have hP : va_P G vwCl ((cX T q5 48 (upd (upd t1 (16 + i) (-1)) (32 + i) (-1))) ++ (cX T q6 48 (fun _ => 0)) ++ (cX T q7 48 (upd f1 i (-1))) ++ (cX T q8 3 (fun _ => 0)) ++ (wNA T x u)) H := hP
        have hD : va_D (gA s) ((cX T q5 48 (upd (upd t1 (16 + i) (-1)) (32 + i) (-1))) ++ (cX T q6 48 (fun _ => 0)) ++ (cX T q7 48 (upd f1 i (-1))) ++ (cX T q8 3 (fun _ => 0)) ++ (wNA T x u)) := hD
        refine lv_iinc (v := nI (i + 1)) (lv' := [(6, .int (nI (i + 1))), (0, .ref b), (1, .ref x), (2, .ref q5), (3, .ref q6), (4, .ref q7), (5, .ref q8)]) hx hb dL_law_61 hl (k := 6) rfl (by first | rfl | exact (nI_add i 1)) (by decide) rfl (fun ls hl => ?_)
        refine lv_goto (tgt := 32) hx hb dL_law_64 (by decide) ?_
        exact ih32 (i + 1) (upd (upd t1 (16 + i) (-1)) (32 + i) (-1)) (upd f1 i (-1)) _ _ _ (by omega) (by omega) (fun j hj => by rw [upd_no (by omega), upd_no (by omega)]; exact ht0 j hj) (fun j hj => fill_row hlt ht1 hj) hP hD hS (lv_sub hl [1, 2, 3, 4, 5, 6, 0] rfl)
  exact J32 17 0 (fun _ => 0) (fun _ => 0) _ _ _ (by omega) (by omega) (fun _ _ => rfl) (fun j hj => absurd hj (by omega)) hP hD hS (lv_sub hl [0, 1, 2, 3, 4, 5, 6] rfl)
set_option maxRecDepth 100000 in
set_option maxHeartbeats 8000000 in
theorem law_main {p : Program} {l : Launch} {e : Env} {s : State} {m : MethodId} {below : List Frame} {meth : Method} {c : Code} {b L : Nat} {xs : Nat → Int32} {G : va_G} {T : Nat → ClassId} {aK aV : Nat → Nat} (C : gLC p s m c b L xs G T aK aV) (hl0 : l.stackTraces = false) (hr : meth.sig.returnType = ret) (hlocks : meth.locks = false) (hO0 : va_AO RX0 s) (hO1 : va_AO RX1 s) : W p l e room_1 s m #[Value.ref b] below meth c s.heap [] 0 0 (lw_Z below #[Value.ref b] s) (entryFrame m ([Value.ref b] : List Value).toArray 8) := by
  obtain ⟨hx, hb, hml, hown, hts, hX, hbl, hK, hE, hWs, hL⟩ := id C
  have hbA : ¬ gA s b := Nat.not_le.mpr hbl
  have hA : ∀ q : Nat, s.heap.size ≤ q → gA s q := fun _ h => h
  have hS : va_S (gA s) s.heap s.heap [] := va_S.rf
  have hP : va_P G vwCl ([] : va_W) s.heap := fun k q h => by simp at h
  have hD : va_D (gA s) ([] : va_W) := ⟨fun i j p q h => by simp at h, fun k q h => by simp at h⟩
  have hl := lv_entry ([.ref b]) (n := 8) (Nat.le_of_ble_eq_true rfl)
  rw [lg_entry_eq]
  generalize (lg_sl ([.ref b]) ++ List.replicate (8 - (lg_sl ([.ref b])).length) Slot.unset).toArray = ls at hl ⊢
  have hl : lv_has ls 8 [(0, .ref b)] := hl
  refine va_new (ci := 2) (fs := [.null, .null, .null, .int 0, .int 0, .int 0]) (C := RX2) (T := TX2) (N := 6) hx hb hts inlX2 tyX2 tyX2_ok hown (hts (.classLink RL 9 RX2) (by decide +kernel)) (hts (.instantiable RX2 6) (by decide +kernel)) (hts (.initialized RX2) (by decide +kernel)) hK hP hD hS hA rfl (fun j hj => by rcases (show j = 0 ∨ j = 1 ∨ j = 2 ∨ j = 3 ∨ j = 4 ∨ j = 5 by omega) with rfl | rfl | rfl | rfl | rfl | rfl <;> rfl) (Nat.le_of_ble_eq_true rfl) (Nat.le_of_ble_eq_true rfl) dL_law_0 (fun x H hP hD hS => ?_)
  have hP : va_P G vwCl (([] : va_W) ++ [(x, .inr (2, [.null, .null, .null, .int 0, .int 0, .int 0]))]) H := hP
  have hD : va_D (gA s) (([] : va_W) ++ [(x, .inr (2, [.null, .null, .null, .int 0, .int 0, .int 0]))]) := hD
  refine lv_dup hx hb dL_law_3 rfl ?_
  refine gcvN (X := ([] : va_W)) (va_runI (As := []) (rest := [.ref x]) ⟨hx, hb, hml, hown, hts⟩ (kX2_init l G T x _) (cwI 0 hts gL_law_X2_init rfl rfl rfl (hts (.initialized RX2) (by decide +kernel)) (hts (.methodLink RL 134 yX2_init) (by decide +kernel)) (hts (.instanceMethod yX2_init) (by decide +kernel)) rfl (by decide +kernel) ⟨Nat.le_of_ble_eq_true rfl, Nat.le_of_ble_eq_true rfl⟩)
    ⟨fun a U g mk h => by obtain ⟨h0, h1, h2, h3⟩ := h; exact ⟨h0, (gblind (av := [.ref x]) a U g mk ⟨h0, h1⟩).2, va_AO.moved (u := U) (Vm.Alike.refl U.vm) h2, va_AO.moved (u := U) (Vm.Alike.refl U.vm) h3⟩,
      fun U hU hW => ⟨rfl, (gpreT (X := ([] : va_W)) (T := T) (av := [.ref x]) hE hK hP hD hS hA U hU hW).2, va_AO.moved hW.alike hO0, va_AO.moved hW.alike hO1⟩⟩ rfl rfl hl.1 rfl (lv_room (Nat.le_of_ble_eq_true rfl)) dL_law_4 ⟨Nat.le_of_ble_eq_true rfl, Nat.le_of_ble_eq_true rfl⟩) hP hD hS hA (fun u H locs hP hD hS => ?_)
  have hP : va_P G vwCl (wNA T x u) H := hP
  have hD : va_D (gA s) (wNA T x u) := hD
  refine lv_astore_n (lv' := [(1, .ref x), (0, .ref b)]) hx hb dL_law_7 rfl hl (by decide) rfl (fun ls hl => ?_)
  refine lv_bipush (v := 48) hx hb dL_law_8 (by decide) ?_
  refine va_newa (atype := .int) (ty := .int) (a0 := (48, .inl (fun _ => 0))) (N' := 48) hx hb (hts (.arrayClass .int) (by decide +kernel)) rfl hK hP hD hS hA (fun _ => rfl) (by decide) (by decide) (by decide) (Nat.le_of_ble_eq_true rfl) (Nat.le_of_ble_eq_true rfl) dL_law_10 (fun q5 cA9 H hK9 hP hD hS => ?_)
  have eT9 := gT_i hK9
  subst eT9
  have hP : va_P G vwCl ((wNA T x u) ++ (cX T q5 48 (fun _ => 0))) H := hP
  have hD : va_D (gA s) ((wNA T x u) ++ (cX T q5 48 (fun _ => 0))) := hD
  refine lv_astore_n (lv' := [(2, .ref q5), (1, .ref x), (0, .ref b)]) hx hb dL_law_12 rfl hl (by decide) rfl (fun ls hl => ?_)
  refine lv_bipush (v := 48) hx hb dL_law_13 (by decide) ?_
  refine va_newa (atype := .int) (ty := .int) (a0 := (48, .inl (fun _ => 0))) (N' := 48) hx hb (hts (.arrayClass .int) (by decide +kernel)) rfl hK hP hD hS hA (fun _ => rfl) (by decide) (by decide) (by decide) (Nat.le_of_ble_eq_true rfl) (Nat.le_of_ble_eq_true rfl) dL_law_15 (fun q6 cA9 H hK9 hP hD hS => ?_)
  have eT9 := gT_i hK9
  subst eT9
  have hP : va_P G vwCl ((wNA T x u) ++ (cX T q5 48 (fun _ => 0)) ++ (cX T q6 48 (fun _ => 0))) H := hP
  have hD : va_D (gA s) ((wNA T x u) ++ (cX T q5 48 (fun _ => 0)) ++ (cX T q6 48 (fun _ => 0))) := hD
  refine lv_astore_n (lv' := [(3, .ref q6), (2, .ref q5), (1, .ref x), (0, .ref b)]) hx hb dL_law_17 rfl hl (by decide) rfl (fun ls hl => ?_)
  refine lv_bipush (v := 48) hx hb dL_law_18 (by decide) ?_
  refine va_newa (atype := .int) (ty := .int) (a0 := (48, .inl (fun _ => 0))) (N' := 48) hx hb (hts (.arrayClass .int) (by decide +kernel)) rfl hK hP hD hS hA (fun _ => rfl) (by decide) (by decide) (by decide) (Nat.le_of_ble_eq_true rfl) (Nat.le_of_ble_eq_true rfl) dL_law_20 (fun q7 cA9 H hK9 hP hD hS => ?_)
  have eT9 := gT_i hK9
  subst eT9
  have hP : va_P G vwCl ((wNA T x u) ++ (cX T q5 48 (fun _ => 0)) ++ (cX T q6 48 (fun _ => 0)) ++ (cX T q7 48 (fun _ => 0))) H := hP
  have hD : va_D (gA s) ((wNA T x u) ++ (cX T q5 48 (fun _ => 0)) ++ (cX T q6 48 (fun _ => 0)) ++ (cX T q7 48 (fun _ => 0))) := hD
  refine lv_astore (lv' := [(4, .ref q7), (3, .ref q6), (2, .ref q5), (1, .ref x), (0, .ref b)]) hx hb dL_law_22 hl (by decide) rfl (fun ls hl => ?_)
  refine lv_iconst (v := 3) hx hb dL_law_24 (by decide) ?_
  refine va_newa (atype := .int) (ty := .int) (a0 := (3, .inl (fun _ => 0))) (N' := 3) hx hb (hts (.arrayClass .int) (by decide +kernel)) rfl hK hP hD hS hA (fun _ => rfl) (by decide) (by decide) (by decide) (Nat.le_of_ble_eq_true rfl) (Nat.le_of_ble_eq_true rfl) dL_law_25 (fun q8 cA9 H hK9 hP hD hS => ?_)
  have eT9 := gT_i hK9
  subst eT9
  have hP : va_P G vwCl ((wNA T x u) ++ (cX T q5 48 (fun _ => 0)) ++ (cX T q6 48 (fun _ => 0)) ++ (cX T q7 48 (fun _ => 0)) ++ (cX T q8 3 (fun _ => 0))) H := hP
  have hD : va_D (gA s) ((wNA T x u) ++ (cX T q5 48 (fun _ => 0)) ++ (cX T q6 48 (fun _ => 0)) ++ (cX T q7 48 (fun _ => 0)) ++ (cX T q8 3 (fun _ => 0))) := hD
  refine lv_astore (lv' := [(5, .ref q8), (4, .ref q7), (3, .ref q6), (2, .ref q5), (1, .ref x), (0, .ref b)]) hx hb dL_law_27 hl (by decide) rfl (fun ls hl => ?_)
  refine lv_iconst (v := 0) hx hb dL_law_29 (by decide) ?_
  refine lv_istore (lv' := [(6, .int 0), (5, .ref q8), (4, .ref q7), (3, .ref q6), (2, .ref q5), (1, .ref x), (0, .ref b)]) hx hb dL_law_30 hl (by decide) rfl (fun ls hl => ?_)
  have eW : ((wNA T x u) ++ (cX T q5 48 (fun _ => 0)) ++ (cX T q6 48 (fun _ => 0)) ++ (cX T q7 48 (fun _ => 0)) ++ (cX T q8 3 (fun _ => 0)) : va_W) = wNA T x u ++ (([(q5, .inl (T 0, 48, .inl (fun _ => 0)))] : va_W) ++ ([(q6, .inl (T 0, 48, .inl (fun _ => 0)))] : va_W) ++ ([(q7, .inl (T 0, 48, .inl (fun _ => 0)))] : va_W) ++ ([(q8, .inl (T 0, 3, .inl (fun _ => 0)))] : va_W)) := by simp only [List.append_assoc]
  have hP := gswapP (gfin hP eW)
  have hD := gswapD (gfinD hD eW)
  exact law_fill C hl0 hr hlocks hP hD hS (lv_sub hl [6, 5, 4, 3, 2, 1, 0] rfl)
