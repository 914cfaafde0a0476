/-! THE LAW: its loop -/
theorem NI.init {d : Nat} : NI d nI0 (fun _ => 0) := NI.mk0 rfl rfl (fun _ _ => rfl)
theorem LI.init {t : Nat → Int32} {j : Nat} (h0 : t j = 0) (h1 : t (16 + j) = -1) (h2 : t (32 + j) = -1) : LI t (fun _ => 0) j nI0 := by
  refine ⟨h0, h1, h2.trans (sDay_0 rfl).symm, fun z => ?_, fun z => ?_, 0, by omega, rfl⟩
  · exact absurd (sRec_0 (s := 0) (by omega) rfl (by omega)) z
  · exact absurd (show (0 : Int32) = 5 from z) (by decide)
theorem INV.init {t F : Nat → Int32} (ht : ∀ j, j < 16 → t j = 0) (h1 : ∀ j, j < 16 → t (16 + j) = -1 ∧ t (32 + j) = -1 ∧ F j = -1) : INV 0 0 (fun _ => 0) (fun _ => 0) (fun _ => nI0) (fun _ _ => 0) (fun _ _ => 0) (fun _ _ => 0) (fun _ _ => 0) (fun _ _ => 0) t (fun _ => 0) F (fun _ => 0) :=
  ⟨rfl, rfl, ⟨fun _ => 0, 0, rfl, fun _ _ => rfl, rfl⟩, rfl, fun j hj => ⟨NI.init, LI.init (ht j hj) (h1 j hj).1 (h1 j hj).2.1⟩, fun j hj => Or.inl ⟨rfl, (h1 j hj).2.2⟩, (sKept_0 16).symm⟩
set_option maxRecDepth 100000 in
set_option maxHeartbeats 16000000 in
theorem law_loop {p : Program} {l : Launch} {e : Env} {s : State} {m : MethodId} {below : List Frame} {meth : Method} {c : Code} {b L : Nat} {xs : Nat → Int32} {G : va_G} {T : Nat → ClassId} {aK aV : Nat → Nat} {Ad : Nat → Nat} {AF : Nat → Nat → Nat} (C : gLC p s m c b L xs G T aK aV) (hl0 : l.stackTraces = false) (hr : meth.sig.returnType = ret) (hlocks : meth.locks = false) : ∀ n8 : Nat, ∀ (n : Nat) (dk : Nat) (ak : Nat) (vD : Nat → Int32) (vm : Nat → Int32) (vN : Nat → Nat → Int32) (vf : Nat → Nat → Int32) (vg : Nat → Nat → Int32) (vk : Nat → Nat → Int32) (vr : Nat → Nat → Int32) (vx : Nat → Nat → Int32) (vh : Nat → Nat → Int32) (vt : Nat → Int32) (vc : Nat → Int32) (vy : Nat → Int32) (vz : Nat → Int32) (cells : Nat) (slots : Nat) (H : Heap) (locs : List Loc) (ls : Array Slot), (n ≤ 60) → (61 ≤ n + n8) → (dk ≤ 110 * n) → (ak ≤ 400 * n) → (cells ≤ 100 + 60 * n) → (slots ≤ 1000 + 360 * n) → (INV dk ak vD vm vN vf vk vr vx vh vt vc vy vz) → va_P G vwCl (wW T Ad AF vt vc vy vz vD vm vN vf vg vk vr vx vh) H → va_D (gA s) (wW T Ad AF vt vc vy vz vD vm vN vf vg vk vr vx vh) → va_S (gA s) s.heap H locs → lv_has ls 8 [(0, .ref b), (1, .ref (Ad 1)), (2, .ref (Ad 5)), (3, .ref (Ad 6)), (4, .ref (Ad 7)), (5, .ref (Ad 8)), (6, .int 1), (7, .int (nI n))] → W p l e room_1 s m #[Value.ref b] below meth c H locs (cells) (slots) (lw_Z below #[Value.ref b] s) (F0 m 80 ls []) := by
  obtain ⟨hx, hb, hml, hown, hts, hX, hbl, hK, hE, hWs, hL⟩ := id C
  have hbA : ¬ gA s b := Nat.not_le.mpr hbl
  have hA : ∀ q : Nat, s.heap.size ≤ q → gA s q := fun _ h => h
  intro n8
  induction n8 with
  | zero => intro n dk ak vD vm vN vf vg vk vr vx vh vt vc vy vz cells slots H locs ls hn hm hdk hak hcs hss hIk hP hD hS hl; exact absurd (hm) (by omega)
  | succ n8 ih80 =>
    intro n dk ak vD vm vN vf vg vk vr vx vh vt vc vy vz cells slots H locs ls hn hm hdk hak hcs hss hIk hP hD hS hl
    refine lv_iload hx hb dL_law_80 (lv_at hl 7 rfl) ?_
    refine lv_bipush (v := 60) hx hb dL_law_82 (by decide) ?_
    refine lv_icmp_ge (tgt := 146) hx hb dL_law_84 (by decide) (fun c84 => ?_) (fun c84 => ?_)
    · skip
      refine lv_iload hx hb dL_law_146 (lv_at hl 6 rfl) ?_
      refine lv_if_eq (tgt := 265) hx hb dL_law_148 (by decide) (fun c148 => ?_) (fun c148 => ?_)
      · exact absurd c148 (by decide)
      · skip
        refine lv_aload_n hx hb dL_law_151 rfl (lv_at hl 1 rfl) ?_
        refine lv_iconst (v := 0) hx hb dL_law_152 (by decide) ?_
        refine lv_iconst (v := (-1)) hx hb dL_law_153 (by decide) ?_
        refine lv_iconst (v := 0) hx hb dL_law_154 (by decide) ?_
        refine lv_iconst (v := 0) hx hb dL_law_155 (by decide) ?_
        refine gciT (X := wX4 T Ad vt vc vy vz) (vx_runSW (As := [.ref (Ad 1), .int 0, .int (-1), .int 0, .int 0]) (rest := []) ⟨hx, hb, hml, hown, hts⟩ (cL_does_0_noc l hl0 G T Ad AF vD vm vN vf vg vk vr vx vh 0 (-1) 0 0 _ (fun h9 => absurd h9 (by decide)) (fun h9 => absurd (h9.symm.trans (show kDep (-1) 0 = 1 by decide)) (by decide))) (vx_cwSW 5 hts gL_law_L_does rfl rfl rfl (by decide +kernel) ⟨Nat.le_of_ble_eq_true rfl, Nat.le_of_ble_eq_true rfl⟩) ⟨gblind, gpreT (X := wX4 T Ad vt vc vy vz) hE hK hP hD hS hA⟩ rfl rfl hl.1 rfl (lv_room (Nat.le_of_ble_eq_true rfl)) dL_law_156 ⟨by show _ ≤ 663593; omega, by show _ ≤ 7110690; omega⟩) hP hD hS hA wC_fst (fun r9 H locs hw hP hD hS => ?_)
        have hP : va_P G vwCl (wW T Ad AF vt vc vy vz vD vm vN vf vg vk vr vx vh) H := hP
        have hD : va_D (gA s) (wW T Ad AF vt vc vy vz vD vm vN vf vg vk vr vx vh) := hD
        subst hw
        refine gtop (y := (-30)) (wD_30 (show kDep (-1) 0 = 1 by decide)) ?_
        refine lv_bipush (v := (-30)) hx hb dL_law_159 (by decide) ?_
        refine lv_icmp_ne (tgt := 265) hx hb dL_law_161 (by decide) (fun c161 => ?_) (fun c161 => ?_)
        · exact absurd c161 (by decide)
        · skip
          refine lv_aload_n hx hb dL_law_164 rfl (lv_at hl 1 rfl) ?_
          refine lv_iconst (v := 1) hx hb dL_law_165 (by decide) ?_
          refine lv_bipush (v := 6) hx hb dL_law_166 (by decide) ?_
          refine lv_iconst (v := 0) hx hb dL_law_168 (by decide) ?_
          refine lv_iconst (v := 0) hx hb dL_law_169 (by decide) ?_
          refine gciT (X := wX4 T Ad vt vc vy vz) (vx_runSW (As := [.ref (Ad 1), .int 1, .int 6, .int 0, .int 0]) (rest := []) ⟨hx, hb, hml, hown, hts⟩ (cL_does_1_noc l hl0 G T Ad AF vD vm vN vf vg vk vr vx vh 0 0 6 0 0 _ (by omega) (fun h9 => absurd h9 (by decide)) (fun _ => ⟨rfl, by omega⟩) (fun h9 => absurd (h9.symm.trans (show kBid 6 0 0 (vN 0) = 1 by rw [kBid, if_neg (by decide)])) (by decide))) (vx_cwSW 5 hts gL_law_L_does rfl rfl rfl (by decide +kernel) ⟨Nat.le_of_ble_eq_true rfl, Nat.le_of_ble_eq_true rfl⟩) ⟨gblind, gpreT (X := wX4 T Ad vt vc vy vz) hE hK hP hD hS hA⟩ rfl rfl hl.1 rfl (lv_room (Nat.le_of_ble_eq_true rfl)) dL_law_170 ⟨by show _ ≤ 663593; omega, by show _ ≤ 7110690; omega⟩) hP hD hS hA wC_fst (fun r9 H locs hw hP hD hS => ?_)
          have hP : va_P G vwCl (wW T Ad AF vt vc vy vz vD vm vN vf vg vk vr vx vh) H := hP
          have hD : va_D (gA s) (wW T Ad AF vt vc vy vz vD vm vN vf vg vk vr vx vh) := hD
          subst hw
          refine gtop (y := (-30)) (wD_30 (show kBid 6 0 0 (vN 0) = 1 by rw [kBid, if_neg (by decide)])) ?_
          refine lv_bipush (v := (-30)) hx hb dL_law_173 (by decide) ?_
          refine lv_icmp_ne (tgt := 265) hx hb dL_law_175 (by decide) (fun c175 => ?_) (fun c175 => ?_)
          · exact absurd c175 (by decide)
          · skip
            refine lv_aload_n hx hb dL_law_178 rfl (lv_at hl 1 rfl) ?_
            refine lv_iconst (v := 2) hx hb dL_law_179 (by decide) ?_
            refine lv_bipush (v := 16) hx hb dL_law_180 (by decide) ?_
            refine lv_iconst (v := 0) hx hb dL_law_182 (by decide) ?_
            refine lv_iconst (v := 0) hx hb dL_law_183 (by decide) ?_
            refine gciT (X := wX4 T Ad vt vc vy vz) (vx_runSW (As := [.ref (Ad 1), .int 2, .int 16, .int 0, .int 0]) (rest := []) ⟨hx, hb, hml, hown, hts⟩ (cL_does_2_noc l hl0 G T Ad AF vD vm vN vf vg vk vr vx vh 0 16 0 0 _ (by omega) (fun h9 => absurd h9 (by decide)) (fun h9 => absurd (h9.symm.trans (show kRenew vD vm (vN 0) 16 0 = 1 by rw [kRenew, if_neg (by decide)])) (by decide))) (vx_cwSW 5 hts gL_law_L_does rfl rfl rfl (by decide +kernel) ⟨Nat.le_of_ble_eq_true rfl, Nat.le_of_ble_eq_true rfl⟩) ⟨gblind, gpreT (X := wX4 T Ad vt vc vy vz) hE hK hP hD hS hA⟩ rfl rfl hl.1 rfl (lv_room (Nat.le_of_ble_eq_true rfl)) dL_law_184 ⟨by show _ ≤ 663593; omega, by show _ ≤ 7110690; omega⟩) hP hD hS hA wC_fst (fun r9 H locs hw hP hD hS => ?_)
            have hP : va_P G vwCl (wW T Ad AF vt vc vy vz vD vm vN vf vg vk vr vx vh) H := hP
            have hD : va_D (gA s) (wW T Ad AF vt vc vy vz vD vm vN vf vg vk vr vx vh) := hD
            subst hw
            refine gtop (y := (-30)) (wD_30 (show kRenew vD vm (vN 0) 16 0 = 1 by rw [kRenew, if_neg (by decide)])) ?_
            refine lv_bipush (v := (-30)) hx hb dL_law_187 (by decide) ?_
            refine lv_icmp_ne (tgt := 265) hx hb dL_law_189 (by decide) (fun c189 => ?_) (fun c189 => ?_)
            · exact absurd c189 (by decide)
            · skip
              refine lv_aload_n hx hb dL_law_192 rfl (lv_at hl 1 rfl) ?_
              refine lv_iconst (v := 3) hx hb dL_law_193 (by decide) ?_
              refine lv_iconst (v := (-1)) hx hb dL_law_194 (by decide) ?_
              refine lv_iconst (v := 0) hx hb dL_law_195 (by decide) ?_
              refine lv_iconst (v := 0) hx hb dL_law_196 (by decide) ?_
              refine gciT (X := wX4 T Ad vt vc vy vz) (vx_runSW (As := [.ref (Ad 1), .int 3, .int (-1), .int 0, .int 0]) (rest := []) ⟨hx, hb, hml, hown, hts⟩ (cL_does_3_noc l hl0 G T Ad AF vD vm vN vf vg vk vr vx vh 0 (-1) 0 0 _ (by omega) (fun h9 => absurd h9 (by decide)) (fun h9 => absurd (h9.symm.trans (show kRedeem vm (vN 0) (-1) = 1 by rw [kRedeem, if_neg (by decide)])) (by decide))) (vx_cwSW 5 hts gL_law_L_does rfl rfl rfl (by decide +kernel) ⟨Nat.le_of_ble_eq_true rfl, Nat.le_of_ble_eq_true rfl⟩) ⟨gblind, gpreT (X := wX4 T Ad vt vc vy vz) hE hK hP hD hS hA⟩ rfl rfl hl.1 rfl (lv_room (Nat.le_of_ble_eq_true rfl)) dL_law_197 ⟨by show _ ≤ 663593; omega, by show _ ≤ 7110690; omega⟩) hP hD hS hA wC_fst (fun r9 H locs hw hP hD hS => ?_)
              have hP : va_P G vwCl (wW T Ad AF vt vc vy vz vD vm vN vf vg vk vr vx vh) H := hP
              have hD : va_D (gA s) (wW T Ad AF vt vc vy vz vD vm vN vf vg vk vr vx vh) := hD
              subst hw
              refine gtop (y := (-30)) (wD_30 (show kRedeem vm (vN 0) (-1) = 1 by rw [kRedeem, if_neg (by decide)])) ?_
              refine lv_bipush (v := (-30)) hx hb dL_law_200 (by decide) ?_
              refine lv_icmp_ne (tgt := 265) hx hb dL_law_202 (by decide) (fun c202 => ?_) (fun c202 => ?_)
              · exact absurd c202 (by decide)
              · skip
                refine lv_aload_n hx hb dL_law_205 rfl (lv_at hl 1 rfl) ?_
                refine lv_iconst (v := 4) hx hb dL_law_206 (by decide) ?_
                refine lv_iconst (v := 0) hx hb dL_law_207 (by decide) ?_
                refine lv_iconst (v := 0) hx hb dL_law_208 (by decide) ?_
                refine lv_bipush (v := 51) hx hb dL_law_209 (by decide) ?_
                refine gciT (X := wX4 T Ad vt vc vy vz) (vx_runSW (As := [.ref (Ad 1), .int 4, .int 0, .int 0, .int 51]) (rest := []) ⟨hx, hb, hml, hown, hts⟩ (cL_does_4_noc l hl0 G T Ad AF vD vm vN vf vg vk vr vx vh 0 0 0 51 _ (by omega) (fun _ => ⟨rfl, by omega⟩) (fun h9 => absurd (h9.symm.trans (show kSetRec (vN 0) 0 0 51 = 2 by rw [kSetRec, if_pos (by decide), if_pos (by decide), if_neg (by decide)])) (by decide))) (vx_cwSW 5 hts gL_law_L_does rfl rfl rfl (by decide +kernel) ⟨Nat.le_of_ble_eq_true rfl, Nat.le_of_ble_eq_true rfl⟩) ⟨gblind, gpreT (X := wX4 T Ad vt vc vy vz) hE hK hP hD hS hA⟩ rfl rfl hl.1 rfl (lv_room (Nat.le_of_ble_eq_true rfl)) dL_law_211 ⟨by show _ ≤ 663593; omega, by show _ ≤ 7110690; omega⟩) hP hD hS hA wC_fst (fun r9 H locs hw hP hD hS => ?_)
                have hP : va_P G vwCl (wW T Ad AF vt vc vy vz vD vm vN vf vg vk vr vx vh) H := hP
                have hD : va_D (gA s) (wW T Ad AF vt vc vy vz vD vm vN vf vg vk vr vx vh) := hD
                subst hw
                refine gtop (y := (-20)) (wD_20 (show kSetRec (vN 0) 0 0 51 = 2 by rw [kSetRec, if_pos (by decide), if_pos (by decide), if_neg (by decide)])) ?_
                refine lv_bipush (v := (-20)) hx hb dL_law_214 (by decide) ?_
                refine lv_icmp_ne (tgt := 265) hx hb dL_law_216 (by decide) (fun c216 => ?_) (fun c216 => ?_)
                · exact absurd c216 (by decide)
                · skip
                  refine lv_aload_n hx hb dL_law_219 rfl (lv_at hl 1 rfl) ?_
                  refine lv_iconst (v := 5) hx hb dL_law_220 (by decide) ?_
                  refine lv_iconst (v := 0) hx hb dL_law_221 (by decide) ?_
                  refine lv_bipush (v := 16) hx hb dL_law_222 (by decide) ?_
                  refine lv_iconst (v := 0) hx hb dL_law_224 (by decide) ?_
                  refine gciT (X := wX4 T Ad vt vc vy vz) (vx_runSW (As := [.ref (Ad 1), .int 5, .int 0, .int 16, .int 0]) (rest := []) ⟨hx, hb, hml, hown, hts⟩ (cL_does_5_noc l hl0 G T Ad AF vD vm vN vf vg vk vr vx vh 0 0 16 0 _ (by omega) (fun h9 => absurd h9 (by decide)) (fun h9 => absurd (h9.symm.trans (show kDispute (vN 0) 0 16 = 1 by rw [kDispute, if_pos (by decide), if_neg (by decide)])) (by decide))) (vx_cwSW 5 hts gL_law_L_does rfl rfl rfl (by decide +kernel) ⟨Nat.le_of_ble_eq_true rfl, Nat.le_of_ble_eq_true rfl⟩) ⟨gblind, gpreT (X := wX4 T Ad vt vc vy vz) hE hK hP hD hS hA⟩ rfl rfl hl.1 rfl (lv_room (Nat.le_of_ble_eq_true rfl)) dL_law_225 ⟨by show _ ≤ 663593; omega, by show _ ≤ 7110690; omega⟩) hP hD hS hA wC_fst (fun r9 H locs hw hP hD hS => ?_)
                  have hP : va_P G vwCl (wW T Ad AF vt vc vy vz vD vm vN vf vg vk vr vx vh) H := hP
                  have hD : va_D (gA s) (wW T Ad AF vt vc vy vz vD vm vN vf vg vk vr vx vh) := hD
                  subst hw
                  refine gtop (y := (-30)) (wD_30 (show kDispute (vN 0) 0 16 = 1 by rw [kDispute, if_pos (by decide), if_neg (by decide)])) ?_
                  refine lv_bipush (v := (-30)) hx hb dL_law_228 (by decide) ?_
                  refine lv_icmp_ne (tgt := 265) hx hb dL_law_230 (by decide) (fun c230 => ?_) (fun c230 => ?_)
                  · exact absurd c230 (by decide)
                  · skip
                    refine lv_aload_n hx hb dL_law_233 rfl (lv_at hl 1 rfl) ?_
                    refine lv_bipush (v := 6) hx hb dL_law_234 (by decide) ?_
                    refine lv_iconst (v := (-1)) hx hb dL_law_236 (by decide) ?_
                    refine lv_iconst (v := 0) hx hb dL_law_237 (by decide) ?_
                    refine lv_iconst (v := 0) hx hb dL_law_238 (by decide) ?_
                    refine gciT (X := wX4 T Ad vt vc vy vz) (vx_runSW (As := [.ref (Ad 1), .int 6, .int (-1), .int 0, .int 0]) (rest := []) ⟨hx, hb, hml, hown, hts⟩ (cL_does_6_noc l hl0 G T Ad AF vD vm vN vf vg vk vr vx vh 0 (-1) 0 0 _ (by omega) (fun h9 => absurd h9 (by decide)) (Or.inl rfl) (fun h9 => absurd (h9.symm.trans (show kDecide (vN 0) (-1) = 1 by rw [kDecide, if_neg (by decide)])) (by decide))) (vx_cwSW 5 hts gL_law_L_does rfl rfl rfl (by decide +kernel) ⟨Nat.le_of_ble_eq_true rfl, Nat.le_of_ble_eq_true rfl⟩) ⟨gblind, gpreT (X := wX4 T Ad vt vc vy vz) hE hK hP hD hS hA⟩ rfl rfl hl.1 rfl (lv_room (Nat.le_of_ble_eq_true rfl)) dL_law_239 ⟨by show _ ≤ 663593; omega, by show _ ≤ 7110690; omega⟩) hP hD hS hA wC_fst (fun r9 H locs hw hP hD hS => ?_)
                    have hP : va_P G vwCl (wW T Ad AF vt vc vy vz vD vm vN vf vg vk vr vx vh) H := hP
                    have hD : va_D (gA s) (wW T Ad AF vt vc vy vz vD vm vN vf vg vk vr vx vh) := hD
                    subst hw
                    refine gtop (y := (-30)) (wD_30 (show kDecide (vN 0) (-1) = 1 by rw [kDecide, if_neg (by decide)])) ?_
                    refine lv_bipush (v := (-30)) hx hb dL_law_242 (by decide) ?_
                    refine lv_icmp_ne (tgt := 265) hx hb dL_law_244 (by decide) (fun c244 => ?_) (fun c244 => ?_)
                    · exact absurd c244 (by decide)
                    · skip
                      refine lv_aload_n hx hb dL_law_247 rfl (lv_at hl 1 rfl) ?_
                      refine lv_bipush (v := 8) hx hb dL_law_248 (by decide) ?_
                      refine lv_iconst (v := (-1)) hx hb dL_law_250 (by decide) ?_
                      refine lv_iconst (v := 0) hx hb dL_law_251 (by decide) ?_
                      refine lv_iconst (v := 0) hx hb dL_law_252 (by decide) ?_
                      refine gciT (X := wX4 T Ad vt vc vy vz) (vx_runSW (As := [.ref (Ad 1), .int 8, .int (-1), .int 0, .int 0]) (rest := []) ⟨hx, hb, hml, hown, hts⟩ (cL_does_8_noc l hl0 G T Ad AF vD vm vN vf vg vk vr vx vh (-1) 0 0 _ (fun h9 => absurd h9 (by decide)) (fun h9 => absurd (h9.symm.trans (show kRes (-1) = 1 by decide)) (by decide))) (vx_cwSW 5 hts gL_law_L_does rfl rfl rfl (by decide +kernel) ⟨Nat.le_of_ble_eq_true rfl, Nat.le_of_ble_eq_true rfl⟩) ⟨gblind, gpreT (X := wX4 T Ad vt vc vy vz) hE hK hP hD hS hA⟩ rfl rfl hl.1 rfl (lv_room (Nat.le_of_ble_eq_true rfl)) dL_law_253 ⟨by show _ ≤ 663593; omega, by show _ ≤ 7110690; omega⟩) hP hD hS hA wC_fst (fun r9 H locs hw hP hD hS => ?_)
                      have hP : va_P G vwCl (wW T Ad AF vt vc vy vz vD vm vN vf vg vk vr vx vh) H := hP
                      have hD : va_D (gA s) (wW T Ad AF vt vc vy vz vD vm vN vf vg vk vr vx vh) := hD
                      subst hw
                      refine gtop (y := (-30)) (wD_30 (show kRes (-1) = 1 by decide)) ?_
                      refine lv_bipush (v := (-30)) hx hb dL_law_256 (by decide) ?_
                      refine lv_icmp_ne (tgt := 265) hx hb dL_law_258 (by decide) (fun c258 => ?_) (fun c258 => ?_)
                      · exact absurd c258 (by decide)
                      · skip
                        refine lv_iconst (v := 1) hx hb dL_law_261 (by decide) ?_
                        refine lv_goto (tgt := 266) hx hb dL_law_262 (by decide) ?_
                        refine va_forget (fun q hq => hS.2.2 q hq) ?_
                        refine W.widen (k := 663593) (n := 7110690) (by omega) (by omega) ?_
                        exact lw_ret hx hb hr hlocks dL_law_266
    · skip
      have hlt : n < 60 := by
        rcases Nat.lt_or_ge n 60 with q | q
        · exact q
        · exact absurd (show (60 : Int32) ≤ nI n from nI_le (a := 60) q (by omega)) c84
      refine lv_iload hx hb dL_law_87 (lv_at hl 6 rfl) ?_
      refine lv_if_eq (tgt := 146) hx hb dL_law_89 (by decide) (fun c89 => ?_) (fun c89 => ?_)
      · exact absurd c89 (by decide)
      · skip
        refine lv_aload_n hx hb dL_law_92 rfl (lv_at hl 1 rfl) ?_
        refine lv_aload_n hx hb dL_law_93 rfl (lv_at hl 0 rfl) ?_
        refine lv_iconst (v := 4) hx hb dL_law_94 (by decide) ?_
        refine lv_iload hx hb dL_law_95 (lv_at hl 7 rfl) ?_
        refine lv_imul hx hb dL_law_97 ?_
        refine gtop (y := nI (4 * n)) (pk_mul 4 n) ?_
        refine lv_aload_n hx hb dL_law_98 rfl (lv_at hl 2 rfl) ?_
        refine lv_aload_n hx hb dL_law_99 rfl (lv_at hl 3 rfl) ?_
        refine lv_aload hx hb dL_law_100 (lv_at hl 4 rfl) ?_
        refine lv_aload hx hb dL_law_102 (lv_at hl 5 rfl) ?_
        refine gciET (X := ([] : va_W)) (va_runS (As := [.ref (Ad 1), .ref b, .int (nI (4 * n)), .ref (Ad 5), .ref (Ad 6), .ref (Ad 7), .ref (Ad 8)]) (rest := []) ⟨hx, hb, hml, hown, hts⟩ (kL_isDone l hl0 G T b L xs Ad AF vD vm vN vf vg vk vr vx vh vt vc vy vz (4 * n) dk ak _ hIk (by omega) (by omega) (by omega) (by omega)) (va_cwS 7 hts gL_law_L_isDone rfl rfl rfl (by decide +kernel) ⟨Nat.le_of_ble_eq_true rfl, Nat.le_of_ble_eq_true rfl⟩) ⟨gblindS, gpreST (X := ([] : va_W)) hX hbl hbA hE hK hP hD hS hA⟩ rfl rfl hl.1 rfl (lv_room (Nat.le_of_ble_eq_true rfl)) dL_law_104 ⟨by show _ ≤ 663593; omega, by show _ ≤ 7110690; omega⟩) hP hD hS hA (fun _ => wW_fst) (fun r9 u_1 H locs hw hP hD hS => ?_)
        obtain ⟨D1, mny1, N1, f1, g1, rk1, rf1, rg1, rh1, ta1, ca1, fa1, ga1⟩ := u_1
        obtain ⟨hw, hI1⟩ := hw
        subst hw
        have hP : va_P G vwCl (wW T Ad AF ta1 ca1 fa1 ga1 D1 mny1 N1 f1 g1 rk1 rf1 rg1 rh1) H := hP
        have hD : va_D (gA s) (wW T Ad AF ta1 ca1 fa1 ga1 D1 mny1 N1 f1 g1 rk1 rf1 rg1 rh1) := hD
        obtain ⟨d9, a9, hd9, ha9, hI9⟩ := hI1
        refine lv_if_eq (tgt := 137) hx hb dL_law_107 (by decide) (fun c107 => ?_) (fun c107 => ?_)
        · exact absurd c107 (by decide)
        · skip
          refine lv_aload_n hx hb dL_law_110 rfl (lv_at hl 1 rfl) ?_
          refine lv_aload_n hx hb dL_law_111 rfl (lv_at hl 2 rfl) ?_
          refine lv_aload_n hx hb dL_law_112 rfl (lv_at hl 3 rfl) ?_
          refine lv_aload hx hb dL_law_113 (lv_at hl 5 rfl) ?_
          refine gciT (X := ([] : va_W)) (va_runS (As := [.ref (Ad 1), .ref (Ad 5), .ref (Ad 6), .ref (Ad 8)]) (rest := []) ⟨hx, hb, hml, hown, hts⟩ (kL_areNames l hl0 G T aK aV Ad AF D1 mny1 N1 f1 g1 rk1 rf1 rg1 rh1 ta1 ca1 fa1 ga1 d9 a9 _ hI9 (by omega) (by omega)) (va_cwS 4 hts gL_law_L_areNames rfl rfl rfl (by decide +kernel) ⟨Nat.le_of_ble_eq_true rfl, Nat.le_of_ble_eq_true rfl⟩) ⟨gblindW, gpreWT (X := ([] : va_W)) hWs hE hK hP hD hS hA⟩ rfl rfl hl.1 rfl (lv_room (Nat.le_of_ble_eq_true rfl)) dL_law_115 ⟨by show _ ≤ 663593; omega, by show _ ≤ 7110690; omega⟩) hP hD hS hA wW_fst (fun r9 H locs hw hP hD hS => ?_)
          have hP : va_P G vwCl (wW T Ad AF ta1 ca1 fa1 ga1 D1 mny1 N1 f1 g1 rk1 rf1 rg1 rh1) H := hP
          have hD : va_D (gA s) (wW T Ad AF ta1 ca1 fa1 ga1 D1 mny1 N1 f1 g1 rk1 rf1 rg1 rh1) := hD
          subst hw
          refine lv_if_eq (tgt := 137) hx hb dL_law_118 (by decide) (fun c118 => ?_) (fun c118 => ?_)
          · exact absurd c118 (by decide)
          · skip
            refine lv_aload_n hx hb dL_law_121 rfl (lv_at hl 1 rfl) ?_
            refine lv_aload_n hx hb dL_law_122 rfl (lv_at hl 2 rfl) ?_
            refine lv_iload hx hb dL_law_123 (lv_at hl 7 rfl) ?_
            refine lv_iconst (v := 5) hx hb dL_law_125 (by decide) ?_
            refine lv_irem hx hb dL_law_126 (by decide) ?_
            refine gtop (y := nI (n % 5)) (pk_rem (d := 5) (by omega) (by decide) (by decide)) ?_
            refine gciT (X := ([] : va_W)) (va_runS (As := [.ref (Ad 1), .ref (Ad 5), .int (nI (n % 5))]) (rest := []) ⟨hx, hb, hml, hown, hts⟩ (kL_isWord l hl0 G T aK aV Ad AF D1 mny1 N1 f1 g1 rk1 rf1 rg1 rh1 ta1 ca1 fa1 ga1 (n % 5) d9 a9 _ hI9 (by omega) (by omega) (by omega)) (va_cwS 3 hts gL_law_L_isWord rfl rfl rfl (by decide +kernel) ⟨Nat.le_of_ble_eq_true rfl, Nat.le_of_ble_eq_true rfl⟩) ⟨gblindW, gpreWT (X := ([] : va_W)) hWs hE hK hP hD hS hA⟩ rfl rfl hl.1 rfl (lv_room (Nat.le_of_ble_eq_true rfl)) dL_law_127 ⟨by show _ ≤ 663593; omega, by show _ ≤ 7110690; omega⟩) hP hD hS hA wW_fst (fun r9 H locs hw hP hD hS => ?_)
            have hP : va_P G vwCl (wW T Ad AF ta1 ca1 fa1 ga1 D1 mny1 N1 f1 g1 rk1 rf1 rg1 rh1) H := hP
            have hD : va_D (gA s) (wW T Ad AF ta1 ca1 fa1 ga1 D1 mny1 N1 f1 g1 rk1 rf1 rg1 rh1) := hD
            subst hw
            refine lv_if_eq (tgt := 137) hx hb dL_law_130 (by decide) (fun c130 => ?_) (fun c130 => ?_)
            · exact absurd c130 (by decide)
            · skip
              refine lv_iconst (v := 1) hx hb dL_law_133 (by decide) ?_
              refine lv_goto (tgt := 138) hx hb dL_law_134 (by decide) ?_
              refine lv_istore (lv' := [(6, .int 1), (0, .ref b), (1, .ref (Ad 1)), (2, .ref (Ad 5)), (3, .ref (Ad 6)), (4, .ref (Ad 7)), (5, .ref (Ad 8)), (7, .int (nI n))]) hx hb dL_law_138 hl (by decide) rfl (fun ls hl => ?_)
              refine lv_iinc (v := nI (n + 1)) (lv' := [(7, .int (nI (n + 1))), (6, .int 1), (0, .ref b), (1, .ref (Ad 1)), (2, .ref (Ad 5)), (3, .ref (Ad 6)), (4, .ref (Ad 7)), (5, .ref (Ad 8))]) hx hb dL_law_140 hl (k := 7) rfl (by first | rfl | exact (nI_add n 1)) (by decide) rfl (fun ls hl => ?_)
              refine lv_goto (tgt := 80) hx hb dL_law_143 (by decide) ?_
              exact ih80 (n + 1) d9 a9 D1 mny1 N1 f1 g1 rk1 rf1 rg1 rh1 ta1 ca1 fa1 ga1 _ _ _ _ _ (by omega) (by omega) (by omega) (by omega) (by omega) (by omega) hI9 hP hD hS (lv_sub hl [2, 3, 4, 5, 6, 7, 1, 0] rfl)
