/-! SIGN: the words of the states, the JDK's own methods on them -/
def idxW : Nat → Nat
  | 0 => 150
  | 1 => 152
  | 2 => 154
  | 3 => 156
  | 4 => 158
  | _ => 160
def txtW : Nat → String
  | 0 => "auction"
  | 1 => "leased"
  | 2 => "grace"
  | 3 => "redemption"
  | 4 => "frozen"
  | _ => "free"
def lenW : List Nat := [7, 6, 5, 10, 6, 4]
def bytW : List (List Int32) := [[97, 117, 99, 116, 105, 111, 110], [108, 101, 97, 115, 101, 100], [103, 114, 97, 99, 101], [114, 101, 100, 101, 109, 112, 116, 105, 111, 110], [102, 114, 111, 122, 101, 110], [102, 114, 101, 101]]
def wLen (w : Nat) : Nat := lenW.getD w 0
def chW (w k : Nat) : Int32 := (bytW.getD w []).getD k 0
def wIx (x : Int32) : Nat := if x = 1 then 0 else if x = 2 then 1 else if x = 3 then 2 else if x = 4 then 3 else if x = 5 then 4 else 5
theorem wIx_lt (x : Int32) : wIx x < 6 := by
  simp only [wIx]
  repeat' split
  all_goals omega
theorem wLen_10 : ∀ w, w < 6 → wLen w ≤ 10 := by decide +kernel
theorem wLen_31 {w : Nat} (h : w < 6) : wLen w < 2 ^ 31 := by have := wLen_10 w h; omega
theorem chW_all : ∀ w, w < 6 → ∀ k, k < 10 → ((chW w k &&& 255).toUInt32 % 65536).toInt32 = chW w k ∧ chW w k &&& 255 = chW w k := by decide +kernel
theorem chW_c {w k : Nat} (hw : w < 6) (hk : k < wLen w) : ((chW w k &&& 255).toUInt32 % 65536).toInt32 = chW w k := (chW_all w hw k (by have := wLen_10 w hw; omega)).1
theorem chW_nar {w k : Nat} (hw : w < 6) (hk : k < wLen w) : narrow .char (.int (chW w k)) = .int (chW w k) := by
  have e := (chW_all w hw k (by have := wLen_10 w hw; omega)).2
  rw [← e]; exact sc_nar _
def gW (aK aV : Nat → Nat) (A : Nat → Prop) (U : State) : Prop := vk_S 6 lenW bytW aK aV A U U.heap ∧ (∀ i, i < 6 → vk_R RX2 (idxW i) (txtW i) (aK i) U) ∧ va_Z RJ0 "COMPACT_STRINGS" "Z" (.int 1) A U U.heap ∧ va_Zq RJ3 "SIOOBE_FORMATTER" "Ljava/util/function/BiFunction;" A U U.heap
theorem gW.call {aK aV : Nat → Nat} {A0 A1 : Nat → Prop} {s U : State} {H : Heap} {locs : List Loc} (h : gW aK aV A0 s) (hS : va_S A0 s.heap H locs) (hF : ∀ q, A1 q → A0 q) (hU : U.heap = H) (hW : s.WarmedH U.vm) : gW aK aV A1 U := by
  obtain ⟨h1, h2, h3, h4⟩ := h
  refine ⟨?_, fun i hi => vk_R.warm hW (h2 i hi), ?_, ?_⟩
  · rw [hU]; exact vk_S.moved hW.alike ((h1.kept hS.2.1).narrow hF)
  · rw [hU]; exact va_Z.moved hW.alike ((h3.kept hS.2.1).narrow hF)
  · rw [hU]; exact va_Zq.moved hW.alike ((h4.kept hS.2.1).narrow hF)
theorem gW.blind {aK aV : Nat → Nat} {A : Nat → Prop} {U : State} {g : JFrame} {mk : MethodId} {a : Array Value} (h : gW aK aV A U) : gW aK aV A (U.calling g mk a) := by
  obtain ⟨h1, h2, h3, h4⟩ := h
  have hv : U.vm.Alike (U.calling g mk a).vm := Vm.Alike.refl U.vm
  exact ⟨vk_S.moved hv h1, fun i hi => vk_R.same (u := U) rfl (h2 i hi), va_Z.moved hv h3, va_Zq.moved hv h4⟩
abbrev gPw (G : va_G) (T : Nat → ClassId) (aK aV : Nat → Nat) (av : List Value) (W : va_W) (sz : Nat) : Array Value → State → Prop := va_Pc av (fun U => gS G T W sz U ∧ gW aK aV (va_A W sz) U)
theorem gblindW {G : va_G} {T : Nat → ClassId} {aK aV : Nat → Nat} {av : List Value} {W : va_W} {sz : Nat} : FrameBlind (gPw G T aK aV av W sz) := by
  intro a U g mk h
  obtain ⟨h0, h1, h2⟩ := h
  exact ⟨h0, (gblind (G := G) (T := T) (av := av) (W := W) (sz := sz) a U g mk ⟨h0, h1⟩).2, h2.blind⟩
theorem gpreW {aK aV : Nat → Nat} {G : va_G} {T : Nat → ClassId} {av : List Value} {A0 : Nat → Prop} {s : State} {ws wc : va_W} {H : Heap} {locs : List Loc} (hWs : gW aK aV A0 s) (hE : gE A0 s) (hK : va_K G vwCl (gT T) s) (hP : va_P G vwCl ws H) (hD : va_D A0 ws) (hS : va_S A0 s.heap H locs) (hA : ∀ q, s.heap.size ≤ q → A0 q) (isC : List Nat) (hn : va_nd isC = true) (hC : isC.map (fun i => ws[i]?) = wc.map some) :
    ∀ U : State, U.heap = H → s.WarmedH U.vm → gPw G T aK aV av wc H.size av.toArray U := by
  intro U hU hW
  exact ⟨rfl, (gpre (T := T) (av := av) hE hK hP hD hS hA isC hn hC U hU hW).2, gW.call hWs hS (va_free hD hS hA isC hC) hU hW⟩
theorem gpreWT {aK aV : Nat → Nat} {G : va_G} {T : Nat → ClassId} {av : List Value} {A0 : Nat → Prop} {s : State} {X wc : va_W} {H : Heap} {locs : List Loc} (hWs : gW aK aV A0 s) (hE : gE A0 s) (hK : va_K G vwCl (gT T) s) (hP : va_P G vwCl (X ++ wc) H) (hD : va_D A0 (X ++ wc)) (hS : va_S A0 s.heap H locs) (hA : ∀ q, s.heap.size ≤ q → A0 q) :
    ∀ U : State, U.heap = H → s.WarmedH U.vm → gPw G T aK aV av wc H.size av.toArray U := by
  intro U hU hW
  exact ⟨rfl, (gpreT (T := T) (av := av) hE hK hP hD hS hA U hU hW).2, gW.call hWs hS (gtailF hD hS hA) hU hW⟩
section GCR
variable {p : Program} {l : Launch} {e : Env} {R : Room} {s : State} {m : MethodId} {args : Array Value} {below : List Frame} {meth : Method} {c : Code} {H : Heap} {locs : List Loc} {cells slots : Nat} {Q : State → Prop}
variable {pc : Nat} {ls : Array Slot} {rest st0 : List Value} {a : Array Value} {A0 : Nat → Prop} {mc ms : Nat} {G : va_G} {ws wc w1 : va_W}
/-- behind a call that answers a row known by its address -/
theorem gcr {post : Unit → Prop} {r0 : Nat} (hr : va_Run p l e R s m args below meth c H locs cells slots mc ms (F0 m pc ls st0) rest (va_Qr post (fun _ a9 t => a9 = r0 ∧ gB G w1 () t) (va_A wc H.size) a) (va_A wc H.size))
    (hP : va_P G vwCl ws H) (hD : va_D A0 ws) (hS : va_S A0 s.heap H locs) (hA : ∀ q, s.heap.size ≤ q → A0 q) (isC : List Nat) (hC : isC.map (fun i => ws[i]?) = wc.map some) (h1 : w1.map Prod.fst = wc.map Prod.fst)
    (kk : ∀ (H1 : Heap) (locs1 : List Loc), post () → va_P G vwCl (gRep ws isC w1) H1 → va_D A0 (gRep ws isC w1) → va_S A0 s.heap H1 locs1 → W p l e R s m args below meth c H1 locs1 (cells + mc) (slots + ms) Q (F0 m (pc + 3) ls (.ref r0 :: rest))) : W p l e R s m args below meth c H locs cells slots Q (F0 m pc ls st0) := by
  have hF := va_free hD hS hA isC hC
  refine va_callr hr hS (fun q _ h => hF q h) hF (fun u ra t H1 locs1 ht hvm hw hB hz1 hk1 hS1 => ?_)
  obtain ⟨rfl, hB⟩ := hB
  have hB : va_P G vwCl w1 t.heap := hB
  rw [ht] at hB
  obtain ⟨h2, h3⟩ := gjoin hP hD isC hC h1 hk1 hB
  exact kk H1 locs1 hw h2 h3 hS1
end GCR
abbrev PJ0_coder_7d493 (G : va_G) (T : Nat → ClassId) (aK aV : Nat → Nat) (w : Nat) (sz : Nat) : Array Value → State → Prop := gPw G T aK aV [.ref (aK w)] ([] : va_W) sz
abbrev QJ0_coder_7d493 (G : va_G) (T : Nat → ClassId) (aK aV : Nat → Nat) (w : Nat) (sz : Nat) : Array Value → State → Outcome → State → Prop := va_Qi (fun (r : Int32) (_ : Unit) => r = 0) (gB G (([] : va_W))) (va_A ([] : va_W) sz)
set_option maxHeartbeats 4000000 in
set_option maxRecDepth 100000 in
theorem kJ0_coder_7d493 (l : Launch) (G : va_G) (T : Nat → ClassId) (aK aV : Nat → Nat) (w : Nat) (sz : Nat) (hw6 : w < 6) : Met l yJ0_coder_7d493 wsJ0_coder_7d493 ({ frames := 0, cells := 0, slots := 0, locals := 0 } : Room) (PJ0_coder_7d493 G T aK aV w sz) (QJ0_coder_7d493 G T aK aV w sz) 0 0 (va_A ([] : va_W) sz) := by
  refine Met.ofW (cc := cJ0_coder_7d493) (maxL := 1) (ret := (some .byte)) (by decide) rfl ?_
  intro p e s m args below meth c s₁ B hml hv
  obtain ⟨rfl, ⟨hsz, hP, hK, hD0, hE⟩, hWs⟩ := hv
  have hx := B.exec
  have hb := B.bytes
  have hr := B.returns
  have hts := atoms_spec (ws := wsJ0_coder_7d493) B.pre
  have hown : s.vm.findClass RJ0 = some m.cls := findClass_of_methodNamed B.named
  have hlocks := B.notSynchronized
  subst hsz
  have hD := hD0.self (sz := s.heap.size)
  have hA : ∀ q : Nat, s.heap.size ≤ q → (va_A ([] : va_W) s.heap.size) q := fun q h => Or.inr h
  have hS : va_S (va_A ([] : va_W) s.heap.size) s.heap s.heap [] := va_S.rf
  have hl := lv_entry ([.ref (aK w)]) (n := 1) (Nat.le_of_ble_eq_true rfl)
  rw [lg_entry_eq]
  generalize (lg_sl ([.ref (aK w)]) ++ List.replicate (1 - (lg_sl ([.ref (aK w)])).length) Slot.unset).toArray = ls at hl ⊢
  have hl : lv_has ls 1 [(0, .ref (aK w))] := hl
  have hP : va_P G vwCl (([] : va_W)) s.heap := hP
  refine va_gets hx hb hWs.2.2.1 hS hown (hts (.fieldLink RJ0 38 "java/lang/String" "COMPACT_STRINGS" "Z") (by decide +kernel)) (fun _ h9 => h9) dJ0_coder_7d493_0 ?_
  refine lv_if_eq (tgt := 13) hx hb dJ0_coder_7d493_3 (by decide) (fun c3 => ?_) (fun c3 => ?_)
  · exact absurd c3 (by decide)
  · skip
    refine lv_aload_n hx hb dJ0_coder_7d493_6 rfl (lv_at hl 0 rfl) ?_
    refine vk_getf hx hb (hWs.1.1 w hw6).2.1 hS hown (hts (.fieldLink RJ0 15 "java/lang/String" "coder" "B") (by decide +kernel)) (fun _ h9 => h9) dJ0_coder_7d493_7 ?_
    refine lv_goto (tgt := 14) hx hb dJ0_coder_7d493_10 (by decide) ?_
    exact W.zret (v := 0) hx hb hr (by decide) (fun t ht9 hW => ⟨⟨0, (), rfl, rfl, gBi ht9 (gfin hP (rfl))⟩, hS.F ht9⟩) hS.2.2 dJ0_coder_7d493_14
abbrev PJ0_length_8abf5 (G : va_G) (T : Nat → ClassId) (aK aV : Nat → Nat) (w : Nat) (sz : Nat) : Array Value → State → Prop := gPw G T aK aV [.ref (aK w)] ([] : va_W) sz
abbrev QJ0_length_8abf5 (G : va_G) (T : Nat → ClassId) (aK aV : Nat → Nat) (w : Nat) (sz : Nat) : Array Value → State → Outcome → State → Prop := va_Qi (fun (r : Int32) (_ : Unit) => r = nI (wLen w)) (gB G (([] : va_W))) (va_A ([] : va_W) sz)
set_option maxHeartbeats 4000000 in
set_option maxRecDepth 100000 in
theorem kJ0_length_8abf5 (l : Launch) (G : va_G) (T : Nat → ClassId) (aK aV : Nat → Nat) (w : Nat) (sz : Nat) (hw6 : w < 6) : Met l yJ0_length_8abf5 wsJ0_length_8abf5 ({ frames := 1, cells := 0, slots := 0, locals := 20 } : Room) (PJ0_length_8abf5 G T aK aV w sz) (QJ0_length_8abf5 G T aK aV w sz) 0 0 (va_A ([] : va_W) sz) := by
  refine Met.ofW (cc := cJ0_length_8abf5) (maxL := 1) (ret := (some .int)) (by decide) rfl ?_
  intro p e s m args below meth c s₁ B hml hv
  obtain ⟨rfl, ⟨hsz, hP, hK, hD0, hE⟩, hWs⟩ := hv
  have hx := B.exec
  have hb := B.bytes
  have hr := B.returns
  have hts := atoms_spec (ws := wsJ0_length_8abf5) B.pre
  have hown : s.vm.findClass RJ0 = some m.cls := findClass_of_methodNamed B.named
  have hlocks := B.notSynchronized
  subst hsz
  have hD := hD0.self (sz := s.heap.size)
  have hA : ∀ q : Nat, s.heap.size ≤ q → (va_A ([] : va_W) s.heap.size) q := fun q h => Or.inr h
  have hS : va_S (va_A ([] : va_W) s.heap.size) s.heap s.heap [] := va_S.rf
  have hl := lv_entry ([.ref (aK w)]) (n := 1) (Nat.le_of_ble_eq_true rfl)
  rw [lg_entry_eq]
  generalize (lg_sl ([.ref (aK w)]) ++ List.replicate (1 - (lg_sl ([.ref (aK w)])).length) Slot.unset).toArray = ls at hl ⊢
  have hl : lv_has ls 1 [(0, .ref (aK w))] := hl
  have hP : va_P G vwCl (([] : va_W)) s.heap := hP
  refine lv_aload_n hx hb dJ0_length_8abf5_0 rfl (lv_at hl 0 rfl) ?_
  refine vk_getf hx hb (hWs.1.1 w hw6).2.2.1 hS hown (hts (.fieldLink RJ0 9 "java/lang/String" "value" "[B") (by decide +kernel)) (fun _ h9 => h9) dJ0_length_8abf5_1 ?_
  refine va_tlen hx hb (hWs.1.1 w hw6).2.2.2 hS (v := nI (wLen w)) rfl dJ0_length_8abf5_4 ?_
  refine lv_aload_n hx hb dJ0_length_8abf5_5 rfl (lv_at hl 0 rfl) ?_
  refine gci (va_runV (As := []) (rest := [.int (nI (wLen w))]) ⟨hx, hb, hml, hown, hts⟩ (kJ0_coder_7d493 l G T aK aV w _ hw6) (cwV 0 hts gJ0_length_8abf5_J0_coder_7d493 rfl rfl rfl (by decide +kernel) ⟨Nat.le_of_ble_eq_true rfl, Nat.le_of_ble_eq_true rfl⟩) ⟨gblindW, vk_recv hWs.1 hw6 hS, gpreW hWs hE hK hP hD hS hA [] rfl rfl⟩ rfl rfl hl.1 rfl (lv_room (Nat.le_of_ble_eq_true rfl)) dJ0_length_8abf5_6 ⟨Nat.le_of_ble_eq_true rfl, Nat.le_of_ble_eq_true rfl⟩) hP hD hS hA [] rfl rfl (fun r9 H locs hw hP hD hS => ?_)
  have hP : va_P G vwCl (([] : va_W)) H := hP
  have hD : va_D (va_A ([] : va_W) s.heap.size) (([] : va_W)) := hD
  subst hw
  refine lv_ishr hx hb dJ0_length_8abf5_9 ?_
  refine gtop (y := nI (wLen w)) (sc_shr0 (wLen_31 hw6)) ?_
  exact W.iret (v := nI (wLen w)) hx hb hr (fun t ht9 hW => ⟨⟨nI (wLen w), (), rfl, rfl, gBi ht9 (gfin hP (rfl))⟩, hS.F ht9⟩) hS.2.2 dJ0_length_8abf5_10
abbrev PJ0_isLatin1_aae02 (G : va_G) (T : Nat → ClassId) (aK aV : Nat → Nat) (w : Nat) (sz : Nat) : Array Value → State → Prop := gPw G T aK aV [.ref (aK w)] ([] : va_W) sz
abbrev QJ0_isLatin1_aae02 (G : va_G) (T : Nat → ClassId) (aK aV : Nat → Nat) (w : Nat) (sz : Nat) : Array Value → State → Outcome → State → Prop := va_Qi (fun (r : Int32) (_ : Unit) => r = 1) (gB G (([] : va_W))) (va_A ([] : va_W) sz)
set_option maxHeartbeats 4000000 in
set_option maxRecDepth 100000 in
theorem kJ0_isLatin1_aae02 (l : Launch) (G : va_G) (T : Nat → ClassId) (aK aV : Nat → Nat) (w : Nat) (sz : Nat) (hw6 : w < 6) : Met l yJ0_isLatin1_aae02 wsJ0_isLatin1_aae02 ({ frames := 0, cells := 0, slots := 0, locals := 0 } : Room) (PJ0_isLatin1_aae02 G T aK aV w sz) (QJ0_isLatin1_aae02 G T aK aV w sz) 0 0 (va_A ([] : va_W) sz) := by
  refine Met.ofW (cc := cJ0_isLatin1_aae02) (maxL := 1) (ret := (some .boolean)) (by decide) rfl ?_
  intro p e s m args below meth c s₁ B hml hv
  obtain ⟨rfl, ⟨hsz, hP, hK, hD0, hE⟩, hWs⟩ := hv
  have hx := B.exec
  have hb := B.bytes
  have hr := B.returns
  have hts := atoms_spec (ws := wsJ0_isLatin1_aae02) B.pre
  have hown : s.vm.findClass RJ0 = some m.cls := findClass_of_methodNamed B.named
  have hlocks := B.notSynchronized
  subst hsz
  have hD := hD0.self (sz := s.heap.size)
  have hA : ∀ q : Nat, s.heap.size ≤ q → (va_A ([] : va_W) s.heap.size) q := fun q h => Or.inr h
  have hS : va_S (va_A ([] : va_W) s.heap.size) s.heap s.heap [] := va_S.rf
  have hl := lv_entry ([.ref (aK w)]) (n := 1) (Nat.le_of_ble_eq_true rfl)
  rw [lg_entry_eq]
  generalize (lg_sl ([.ref (aK w)]) ++ List.replicate (1 - (lg_sl ([.ref (aK w)])).length) Slot.unset).toArray = ls at hl ⊢
  have hl : lv_has ls 1 [(0, .ref (aK w))] := hl
  have hP : va_P G vwCl (([] : va_W)) s.heap := hP
  refine va_gets hx hb hWs.2.2.1 hS hown (hts (.fieldLink RJ0 38 "java/lang/String" "COMPACT_STRINGS" "Z") (by decide +kernel)) (fun _ h9 => h9) dJ0_isLatin1_aae02_0 ?_
  refine lv_if_eq (tgt := 17) hx hb dJ0_isLatin1_aae02_3 (by decide) (fun c3 => ?_) (fun c3 => ?_)
  · exact absurd c3 (by decide)
  · skip
    refine lv_aload_n hx hb dJ0_isLatin1_aae02_6 rfl (lv_at hl 0 rfl) ?_
    refine vk_getf hx hb (hWs.1.1 w hw6).2.1 hS hown (hts (.fieldLink RJ0 15 "java/lang/String" "coder" "B") (by decide +kernel)) (fun _ h9 => h9) dJ0_isLatin1_aae02_7 ?_
    refine lv_if_ne (tgt := 17) hx hb dJ0_isLatin1_aae02_10 (by decide) (fun c10 => ?_) (fun c10 => ?_)
    · exact absurd c10 (by decide)
    · skip
      refine lv_iconst (v := 1) hx hb dJ0_isLatin1_aae02_13 (by decide) ?_
      refine lv_goto (tgt := 18) hx hb dJ0_isLatin1_aae02_14 (by decide) ?_
      exact W.zret (v := 1) hx hb hr (by decide) (fun t ht9 hW => ⟨⟨1, (), rfl, rfl, gBi ht9 (gfin hP (rfl))⟩, hS.F ht9⟩) hS.2.2 dJ0_isLatin1_aae02_18
abbrev PJ3_checkIndex_8e157_n (G : va_G) (T : Nat → ClassId) (aK aV : Nat → Nat) (k n : Nat) (sz : Nat) : Array Value → State → Prop := gPw G T aK aV [.int (nI k), .int (nI n), .null] ([] : va_W) sz
abbrev QJ3_checkIndex_8e157_n (G : va_G) (T : Nat → ClassId) (aK aV : Nat → Nat) (k n : Nat) (sz : Nat) : Array Value → State → Outcome → State → Prop := va_Qi (fun (r : Int32) (_ : Unit) => r = nI k) (gB G (([] : va_W))) (va_A ([] : va_W) sz)
set_option maxHeartbeats 4000000 in
set_option maxRecDepth 100000 in
theorem kJ3_checkIndex_8e157_n (l : Launch) (G : va_G) (T : Nat → ClassId) (aK aV : Nat → Nat) (k n : Nat) (sz : Nat) (hk : k < n) (hn : n < 2 ^ 31) : Met l yJ3_checkIndex_8e157 wsJ3_checkIndex_8e157 ({ frames := 0, cells := 0, slots := 0, locals := 0 } : Room) (PJ3_checkIndex_8e157_n G T aK aV k n sz) (QJ3_checkIndex_8e157_n G T aK aV k n sz) 0 0 (va_A ([] : va_W) sz) := by
  refine Met.ofW (cc := cJ3_checkIndex_8e157) (maxL := 3) (ret := (some .int)) (by decide) rfl ?_
  intro p e s m args below meth c s₁ B hml hv
  obtain ⟨rfl, ⟨hsz, hP, hK, hD0, hE⟩, hWs⟩ := hv
  have hx := B.exec
  have hb := B.bytes
  have hr := B.returns
  have hts := atoms_spec (ws := wsJ3_checkIndex_8e157) B.pre
  have hown : s.vm.findClass RJ3 = some m.cls := findClass_of_methodNamed B.named
  have hlocks := B.notSynchronized
  subst hsz
  have hD := hD0.self (sz := s.heap.size)
  have hA : ∀ q : Nat, s.heap.size ≤ q → (va_A ([] : va_W) s.heap.size) q := fun q h => Or.inr h
  have hS : va_S (va_A ([] : va_W) s.heap.size) s.heap s.heap [] := va_S.rf
  have hl := lv_entry ([.int (nI k), .int (nI n), .null]) (n := 3) (Nat.le_of_ble_eq_true rfl)
  rw [lg_entry_eq]
  generalize (lg_sl ([.int (nI k), .int (nI n), .null]) ++ List.replicate (3 - (lg_sl ([.int (nI k), .int (nI n), .null])).length) Slot.unset).toArray = ls at hl ⊢
  have hl : lv_has ls 3 [(0, .int (nI k)), (1, .int (nI n)), (2, .null)] := hl
  have hP : va_P G vwCl (([] : va_W)) s.heap := hP
  refine lv_iload_n hx hb dJ3_checkIndex_8e157_0 rfl (lv_at hl 0 rfl) ?_
  refine lv_if_lt (tgt := 9) hx hb dJ3_checkIndex_8e157_1 (by decide) (fun c1 => ?_) (fun c1 => ?_)
  · exact absurd c1 (nI_pos (Nat.lt_trans hk hn))
  · skip
    refine lv_iload_n hx hb dJ3_checkIndex_8e157_4 rfl (lv_at hl 0 rfl) ?_
    refine lv_iload_n hx hb dJ3_checkIndex_8e157_5 rfl (lv_at hl 1 rfl) ?_
    refine lv_icmp_lt (tgt := 16) hx hb dJ3_checkIndex_8e157_6 (by decide) (fun c6 => ?_) (fun c6 => ?_)
    · skip
      refine lv_iload_n hx hb dJ3_checkIndex_8e157_16 rfl (lv_at hl 0 rfl) ?_
      exact W.iret (v := nI k) hx hb hr (fun t ht9 hW => ⟨⟨nI k, (), rfl, rfl, gBi ht9 (gfin hP (rfl))⟩, hS.F ht9⟩) hS.2.2 dJ3_checkIndex_8e157_17
    · exact absurd (nI_lt hk hn) c6
abbrev PJ3_checkIndex_8e157_r (G : va_G) (T : Nat → ClassId) (aK aV : Nat → Nat) (k n : Nat) (t : Nat) (sz : Nat) : Array Value → State → Prop := gPw G T aK aV [.int (nI k), .int (nI n), .ref t] ([] : va_W) sz
abbrev QJ3_checkIndex_8e157_r (G : va_G) (T : Nat → ClassId) (aK aV : Nat → Nat) (k n : Nat) (t : Nat) (sz : Nat) : Array Value → State → Outcome → State → Prop := va_Qi (fun (r : Int32) (_ : Unit) => r = nI k) (gB G (([] : va_W))) (va_A ([] : va_W) sz)
set_option maxHeartbeats 4000000 in
set_option maxRecDepth 100000 in
theorem kJ3_checkIndex_8e157_r (l : Launch) (G : va_G) (T : Nat → ClassId) (aK aV : Nat → Nat) (k n : Nat) (t : Nat) (sz : Nat) (hk : k < n) (hn : n < 2 ^ 31) : Met l yJ3_checkIndex_8e157 wsJ3_checkIndex_8e157 ({ frames := 0, cells := 0, slots := 0, locals := 0 } : Room) (PJ3_checkIndex_8e157_r G T aK aV k n t sz) (QJ3_checkIndex_8e157_r G T aK aV k n t sz) 0 0 (va_A ([] : va_W) sz) := by
  refine Met.ofW (cc := cJ3_checkIndex_8e157) (maxL := 3) (ret := (some .int)) (by decide) rfl ?_
  intro p e s m args below meth c s₁ B hml hv
  obtain ⟨rfl, ⟨hsz, hP, hK, hD0, hE⟩, hWs⟩ := hv
  have hx := B.exec
  have hb := B.bytes
  have hr := B.returns
  have hts := atoms_spec (ws := wsJ3_checkIndex_8e157) B.pre
  have hown : s.vm.findClass RJ3 = some m.cls := findClass_of_methodNamed B.named
  have hlocks := B.notSynchronized
  subst hsz
  have hD := hD0.self (sz := s.heap.size)
  have hA : ∀ q : Nat, s.heap.size ≤ q → (va_A ([] : va_W) s.heap.size) q := fun q h => Or.inr h
  have hS : va_S (va_A ([] : va_W) s.heap.size) s.heap s.heap [] := va_S.rf
  have hl := lv_entry ([.int (nI k), .int (nI n), .ref t]) (n := 3) (Nat.le_of_ble_eq_true rfl)
  rw [lg_entry_eq]
  generalize (lg_sl ([.int (nI k), .int (nI n), .ref t]) ++ List.replicate (3 - (lg_sl ([.int (nI k), .int (nI n), .ref t])).length) Slot.unset).toArray = ls at hl ⊢
  have hl : lv_has ls 3 [(0, .int (nI k)), (1, .int (nI n)), (2, .ref t)] := hl
  have hP : va_P G vwCl (([] : va_W)) s.heap := hP
  refine lv_iload_n hx hb dJ3_checkIndex_8e157_0 rfl (lv_at hl 0 rfl) ?_
  refine lv_if_lt (tgt := 9) hx hb dJ3_checkIndex_8e157_1 (by decide) (fun c1 => ?_) (fun c1 => ?_)
  · exact absurd c1 (nI_pos (Nat.lt_trans hk hn))
  · skip
    refine lv_iload_n hx hb dJ3_checkIndex_8e157_4 rfl (lv_at hl 0 rfl) ?_
    refine lv_iload_n hx hb dJ3_checkIndex_8e157_5 rfl (lv_at hl 1 rfl) ?_
    refine lv_icmp_lt (tgt := 16) hx hb dJ3_checkIndex_8e157_6 (by decide) (fun c6 => ?_) (fun c6 => ?_)
    · skip
      refine lv_iload_n hx hb dJ3_checkIndex_8e157_16 rfl (lv_at hl 0 rfl) ?_
      exact W.iret (v := nI k) hx hb hr (fun t ht9 hW => ⟨⟨nI k, (), rfl, rfl, gBi ht9 (gfin hP (rfl))⟩, hS.F ht9⟩) hS.2.2 dJ3_checkIndex_8e157_17
    · exact absurd (nI_lt hk hn) c6
abbrev PJ0_checkIndex_df160 (G : va_G) (T : Nat → ClassId) (aK aV : Nat → Nat) (k n : Nat) (sz : Nat) : Array Value → State → Prop := gPw G T aK aV [.int (nI k), .int (nI n)] ([] : va_W) sz
abbrev QJ0_checkIndex_df160 (G : va_G) (T : Nat → ClassId) (aK aV : Nat → Nat) (k n : Nat) (sz : Nat) : Array Value → State → Outcome → State → Prop := va_Qv (fun _ : Unit => True) (gB G (([] : va_W))) (va_A ([] : va_W) sz)
set_option maxHeartbeats 4000000 in
set_option maxRecDepth 100000 in
theorem kJ0_checkIndex_df160 (l : Launch) (G : va_G) (T : Nat → ClassId) (aK aV : Nat → Nat) (k n : Nat) (sz : Nat) (hk : k < n) (hn : n < 2 ^ 31) : Met l yJ0_checkIndex_df160 wsJ0_checkIndex_df160 ({ frames := 1, cells := 0, slots := 0, locals := 22 } : Room) (PJ0_checkIndex_df160 G T aK aV k n sz) (QJ0_checkIndex_df160 G T aK aV k n sz) 0 0 (va_A ([] : va_W) sz) := by
  refine Met.ofW (cc := cJ0_checkIndex_df160) (maxL := 2) (ret := none) (by decide) rfl ?_
  intro p e s m args below meth c s₁ B hml hv
  obtain ⟨rfl, ⟨hsz, hP, hK, hD0, hE⟩, hWs⟩ := hv
  have hx := B.exec
  have hb := B.bytes
  have hr := B.returns
  have hts := atoms_spec (ws := wsJ0_checkIndex_df160) B.pre
  have hown : s.vm.findClass RJ0 = some m.cls := findClass_of_methodNamed B.named
  have hlocks := B.notSynchronized
  subst hsz
  have hD := hD0.self (sz := s.heap.size)
  have hA : ∀ q : Nat, s.heap.size ≤ q → (va_A ([] : va_W) s.heap.size) q := fun q h => Or.inr h
  have hS : va_S (va_A ([] : va_W) s.heap.size) s.heap s.heap [] := va_S.rf
  have hl := lv_entry ([.int (nI k), .int (nI n)]) (n := 2) (Nat.le_of_ble_eq_true rfl)
  rw [lg_entry_eq]
  generalize (lg_sl ([.int (nI k), .int (nI n)]) ++ List.replicate (2 - (lg_sl ([.int (nI k), .int (nI n)])).length) Slot.unset).toArray = ls at hl ⊢
  have hl : lv_has ls 2 [(0, .int (nI k)), (1, .int (nI n))] := hl
  have hP : va_P G vwCl (([] : va_W)) s.heap := hP
  refine lv_iload_n hx hb dJ0_checkIndex_df160_0 rfl (lv_at hl 0 rfl) ?_
  refine lv_iload_n hx hb dJ0_checkIndex_df160_1 rfl (lv_at hl 1 rfl) ?_
  rcases hWs.2.2.2 with hZ9 | ⟨t9, hZ9⟩
  · skip
    refine va_gets hx hb hZ9 hS hown (hts (.fieldLink RJ0 1053 "jdk/internal/util/Preconditions" "SIOOBE_FORMATTER" "Ljava/util/function/BiFunction;") (by decide +kernel)) (fun _ h9 => h9) dJ0_checkIndex_df160_2 ?_
    refine gci (va_runS (As := [.int (nI k), .int (nI n), .null]) (rest := []) ⟨hx, hb, hml, hown, hts⟩ (kJ3_checkIndex_8e157_n l G T aK aV k n _ hk hn) (va_cwS 3 hts gJ0_checkIndex_df160_J3_checkIndex_8e157 rfl rfl rfl (by decide +kernel) ⟨Nat.le_of_ble_eq_true rfl, Nat.le_of_ble_eq_true rfl⟩) ⟨gblindW, gpreW hWs hE hK hP hD hS hA [] rfl rfl⟩ rfl rfl hl.1 rfl (lv_room (Nat.le_of_ble_eq_true rfl)) dJ0_checkIndex_df160_5 ⟨Nat.le_of_ble_eq_true rfl, Nat.le_of_ble_eq_true rfl⟩) hP hD hS hA [] rfl rfl (fun r9 H locs hw hP hD hS => ?_)
    have hP : va_P G vwCl (([] : va_W)) H := hP
    have hD : va_D (va_A ([] : va_W) s.heap.size) (([] : va_W)) := hD
    subst hw
    refine lv_pop hx hb dJ0_checkIndex_df160_8 rfl ?_
    exact W.vret hx hb hr (fun t ht9 hW => ⟨⟨(), rfl, trivial, gBi ht9 (gfin hP (rfl))⟩, hS.F ht9⟩) hS.2.2 dJ0_checkIndex_df160_9
  · skip
    refine va_gets hx hb hZ9 hS hown (hts (.fieldLink RJ0 1053 "jdk/internal/util/Preconditions" "SIOOBE_FORMATTER" "Ljava/util/function/BiFunction;") (by decide +kernel)) (fun _ h9 => h9) dJ0_checkIndex_df160_2 ?_
    refine gci (va_runS (As := [.int (nI k), .int (nI n), .ref t9]) (rest := []) ⟨hx, hb, hml, hown, hts⟩ (kJ3_checkIndex_8e157_r l G T aK aV k n t9 _ hk hn) (va_cwS 3 hts gJ0_checkIndex_df160_J3_checkIndex_8e157 rfl rfl rfl (by decide +kernel) ⟨Nat.le_of_ble_eq_true rfl, Nat.le_of_ble_eq_true rfl⟩) ⟨gblindW, gpreW hWs hE hK hP hD hS hA [] rfl rfl⟩ rfl rfl hl.1 rfl (lv_room (Nat.le_of_ble_eq_true rfl)) dJ0_checkIndex_df160_5 ⟨Nat.le_of_ble_eq_true rfl, Nat.le_of_ble_eq_true rfl⟩) hP hD hS hA [] rfl rfl (fun r9 H locs hw hP hD hS => ?_)
    have hP : va_P G vwCl (([] : va_W)) H := hP
    have hD : va_D (va_A ([] : va_W) s.heap.size) (([] : va_W)) := hD
    subst hw
    refine lv_pop hx hb dJ0_checkIndex_df160_8 rfl ?_
    exact W.vret hx hb hr (fun t ht9 hW => ⟨⟨(), rfl, trivial, gBi ht9 (gfin hP (rfl))⟩, hS.F ht9⟩) hS.2.2 dJ0_checkIndex_df160_9
abbrev PJ1_charAt_3b067 (G : va_G) (T : Nat → ClassId) (aK aV : Nat → Nat) (w k : Nat) (sz : Nat) : Array Value → State → Prop := gPw G T aK aV [.ref (aV w), .int (nI k)] ([] : va_W) sz
abbrev QJ1_charAt_3b067 (G : va_G) (T : Nat → ClassId) (aK aV : Nat → Nat) (w k : Nat) (sz : Nat) : Array Value → State → Outcome → State → Prop := va_Qi (fun (r : Int32) (_ : Unit) => r = chW w k) (gB G (([] : va_W))) (va_A ([] : va_W) sz)
set_option maxHeartbeats 4000000 in
set_option maxRecDepth 100000 in
theorem kJ1_charAt_3b067 (l : Launch) (G : va_G) (T : Nat → ClassId) (aK aV : Nat → Nat) (w k : Nat) (sz : Nat) (hw6 : w < 6) (hk : k < wLen w) : Met l yJ1_charAt_3b067 wsJ1_charAt_3b067 ({ frames := 2, cells := 0, slots := 0, locals := 43 } : Room) (PJ1_charAt_3b067 G T aK aV w k sz) (QJ1_charAt_3b067 G T aK aV w k sz) 0 0 (va_A ([] : va_W) sz) := by
  refine Met.ofW (cc := cJ1_charAt_3b067) (maxL := 2) (ret := (some .char)) (by decide) rfl ?_
  intro p e s m args below meth c s₁ B hml hv
  obtain ⟨rfl, ⟨hsz, hP, hK, hD0, hE⟩, hWs⟩ := hv
  have hx := B.exec
  have hb := B.bytes
  have hr := B.returns
  have hts := atoms_spec (ws := wsJ1_charAt_3b067) B.pre
  have hown : s.vm.findClass RJ1 = some m.cls := findClass_of_methodNamed B.named
  have hlocks := B.notSynchronized
  subst hsz
  have hD := hD0.self (sz := s.heap.size)
  have hA : ∀ q : Nat, s.heap.size ≤ q → (va_A ([] : va_W) s.heap.size) q := fun q h => Or.inr h
  have hS : va_S (va_A ([] : va_W) s.heap.size) s.heap s.heap [] := va_S.rf
  have hl := lv_entry ([.ref (aV w), .int (nI k)]) (n := 2) (Nat.le_of_ble_eq_true rfl)
  rw [lg_entry_eq]
  generalize (lg_sl ([.ref (aV w), .int (nI k)]) ++ List.replicate (2 - (lg_sl ([.ref (aV w), .int (nI k)])).length) Slot.unset).toArray = ls at hl ⊢
  have hl : lv_has ls 2 [(0, .ref (aV w)), (1, .int (nI k))] := hl
  have hP : va_P G vwCl (([] : va_W)) s.heap := hP
  refine lv_iload_n hx hb dJ1_charAt_3b067_0 rfl (lv_at hl 1 rfl) ?_
  refine lv_aload_n hx hb dJ1_charAt_3b067_1 rfl (lv_at hl 0 rfl) ?_
  refine va_tlen hx hb (hWs.1.1 w hw6).2.2.2 hS (v := nI (wLen w)) rfl dJ1_charAt_3b067_2 ?_
  refine gcv (va_runS (As := [.int (nI k), .int (nI (wLen w))]) (rest := []) ⟨hx, hb, hml, hown, hts⟩ (kJ0_checkIndex_df160 l G T aK aV k (wLen w) _ hk (wLen_31 hw6)) (va_cwS 2 hts gJ1_charAt_3b067_J0_checkIndex_df160 rfl rfl rfl (by decide +kernel) ⟨Nat.le_of_ble_eq_true rfl, Nat.le_of_ble_eq_true rfl⟩) ⟨gblindW, gpreW hWs hE hK hP hD hS hA [] rfl rfl⟩ rfl rfl hl.1 rfl (lv_room (Nat.le_of_ble_eq_true rfl)) dJ1_charAt_3b067_3 ⟨Nat.le_of_ble_eq_true rfl, Nat.le_of_ble_eq_true rfl⟩) hP hD hS hA [] rfl rfl (fun H locs hw hP hD hS => ?_)
  have hP : va_P G vwCl (([] : va_W)) H := hP
  have hD : va_D (va_A ([] : va_W) s.heap.size) (([] : va_W)) := hD
  refine lv_aload_n hx hb dJ1_charAt_3b067_6 rfl (lv_at hl 0 rfl) ?_
  refine lv_iload_n hx hb dJ1_charAt_3b067_7 rfl (lv_at hl 1 rfl) ?_
  refine va_tb hx hb (hWs.1.1 w hw6).2.2.2 hS (gin (j := k) rfl hk (wLen_31 hw6)) (v := .int (chW w k)) (by rw [nI_clamp (Nat.lt_trans hk (wLen_31 hw6))]; rfl) dJ1_charAt_3b067_8 ?_
  refine lv_sipush (v := 255) hx hb dJ1_charAt_3b067_9 (by decide) ?_
  refine lv_iand hx hb dJ1_charAt_3b067_12 ?_
  refine lv_i2c (v := chW w k) hx hb dJ1_charAt_3b067_13 (chW_c hw6 hk) ?_
  exact W.zret (v := chW w k) hx hb hr (chW_nar hw6 hk) (fun t ht9 hW => ⟨⟨chW w k, (), rfl, rfl, gBi ht9 (gfin hP (rfl))⟩, hS.F ht9⟩) hS.2.2 dJ1_charAt_3b067_14
abbrev PJ0_charAt_5068e (G : va_G) (T : Nat → ClassId) (aK aV : Nat → Nat) (w k : Nat) (sz : Nat) : Array Value → State → Prop := gPw G T aK aV [.ref (aK w), .int (nI k)] ([] : va_W) sz
abbrev QJ0_charAt_5068e (G : va_G) (T : Nat → ClassId) (aK aV : Nat → Nat) (w k : Nat) (sz : Nat) : Array Value → State → Outcome → State → Prop := va_Qi (fun (r : Int32) (_ : Unit) => r = chW w k) (gB G (([] : va_W))) (va_A ([] : va_W) sz)
set_option maxHeartbeats 4000000 in
set_option maxRecDepth 100000 in
theorem kJ0_charAt_5068e (l : Launch) (G : va_G) (T : Nat → ClassId) (aK aV : Nat → Nat) (w k : Nat) (sz : Nat) (hw6 : w < 6) (hk : k < wLen w) : Met l yJ0_charAt_5068e wsJ0_charAt_5068e ({ frames := 3, cells := 0, slots := 0, locals := 64 } : Room) (PJ0_charAt_5068e G T aK aV w k sz) (QJ0_charAt_5068e G T aK aV w k sz) 0 0 (va_A ([] : va_W) sz) := by
  refine Met.ofW (cc := cJ0_charAt_5068e) (maxL := 2) (ret := (some .char)) (by decide) rfl ?_
  intro p e s m args below meth c s₁ B hml hv
  obtain ⟨rfl, ⟨hsz, hP, hK, hD0, hE⟩, hWs⟩ := hv
  have hx := B.exec
  have hb := B.bytes
  have hr := B.returns
  have hts := atoms_spec (ws := wsJ0_charAt_5068e) B.pre
  have hown : s.vm.findClass RJ0 = some m.cls := findClass_of_methodNamed B.named
  have hlocks := B.notSynchronized
  subst hsz
  have hD := hD0.self (sz := s.heap.size)
  have hA : ∀ q : Nat, s.heap.size ≤ q → (va_A ([] : va_W) s.heap.size) q := fun q h => Or.inr h
  have hS : va_S (va_A ([] : va_W) s.heap.size) s.heap s.heap [] := va_S.rf
  have hl := lv_entry ([.ref (aK w), .int (nI k)]) (n := 2) (Nat.le_of_ble_eq_true rfl)
  rw [lg_entry_eq]
  generalize (lg_sl ([.ref (aK w), .int (nI k)]) ++ List.replicate (2 - (lg_sl ([.ref (aK w), .int (nI k)])).length) Slot.unset).toArray = ls at hl ⊢
  have hl : lv_has ls 2 [(0, .ref (aK w)), (1, .int (nI k))] := hl
  have hP : va_P G vwCl (([] : va_W)) s.heap := hP
  refine lv_aload_n hx hb dJ0_charAt_5068e_0 rfl (lv_at hl 0 rfl) ?_
  refine gci (va_runV (As := []) (rest := []) ⟨hx, hb, hml, hown, hts⟩ (kJ0_isLatin1_aae02 l G T aK aV w _ hw6) (cwV 0 hts gJ0_charAt_5068e_J0_isLatin1_aae02 rfl rfl rfl (by decide +kernel) ⟨Nat.le_of_ble_eq_true rfl, Nat.le_of_ble_eq_true rfl⟩) ⟨gblindW, vk_recv hWs.1 hw6 hS, gpreW hWs hE hK hP hD hS hA [] rfl rfl⟩ rfl rfl hl.1 rfl (lv_room (Nat.le_of_ble_eq_true rfl)) dJ0_charAt_5068e_1 ⟨Nat.le_of_ble_eq_true rfl, Nat.le_of_ble_eq_true rfl⟩) hP hD hS hA [] rfl rfl (fun r9 H locs hw hP hD hS => ?_)
  have hP : va_P G vwCl (([] : va_W)) H := hP
  have hD : va_D (va_A ([] : va_W) s.heap.size) (([] : va_W)) := hD
  subst hw
  refine lv_if_eq (tgt := 16) hx hb dJ0_charAt_5068e_4 (by decide) (fun c4 => ?_) (fun c4 => ?_)
  · exact absurd c4 (by decide)
  · skip
    refine lv_aload_n hx hb dJ0_charAt_5068e_7 rfl (lv_at hl 0 rfl) ?_
    refine vk_getf hx hb (hWs.1.1 w hw6).2.2.1 hS hown (hts (.fieldLink RJ0 9 "java/lang/String" "value" "[B") (by decide +kernel)) (fun _ h9 => h9) dJ0_charAt_5068e_8 ?_
    refine lv_iload_n hx hb dJ0_charAt_5068e_11 rfl (lv_at hl 1 rfl) ?_
    refine gci (va_runS (As := [.ref (aV w), .int (nI k)]) (rest := []) ⟨hx, hb, hml, hown, hts⟩ (kJ1_charAt_3b067 l G T aK aV w k _ hw6 hk) (va_cwS 2 hts gJ0_charAt_5068e_J1_charAt_3b067 rfl rfl rfl (by decide +kernel) ⟨Nat.le_of_ble_eq_true rfl, Nat.le_of_ble_eq_true rfl⟩) ⟨gblindW, gpreW hWs hE hK hP hD hS hA [] rfl rfl⟩ rfl rfl hl.1 rfl (lv_room (Nat.le_of_ble_eq_true rfl)) dJ0_charAt_5068e_12 ⟨Nat.le_of_ble_eq_true rfl, Nat.le_of_ble_eq_true rfl⟩) hP hD hS hA [] rfl rfl (fun r9 H locs hw hP hD hS => ?_)
    have hP : va_P G vwCl (([] : va_W)) H := hP
    have hD : va_D (va_A ([] : va_W) s.heap.size) (([] : va_W)) := hD
    subst hw
    exact W.zret (v := chW w k) hx hb hr (chW_nar hw6 hk) (fun t ht9 hW => ⟨⟨chW w k, (), rfl, rfl, gBi ht9 (gfin hP (rfl))⟩, hS.F ht9⟩) hS.2.2 dJ0_charAt_5068e_15
abbrev PX2_wordOf (G : va_G) (T : Nat → ClassId) (aK aV : Nat → Nat) (p0 : Int32) (sz : Nat) : Array Value → State → Prop := gPw G T aK aV [.int p0] ([] : va_W) sz
abbrev QX2_wordOf (G : va_G) (T : Nat → ClassId) (aK aV : Nat → Nat) (p0 : Int32) (sz : Nat) : Array Value → State → Outcome → State → Prop := va_Qr (fun _ : Unit => True) (fun _ a9 t => a9 = aK (wIx p0) ∧ gB G (([] : va_W)) () t) (va_A ([] : va_W) sz)
set_option maxHeartbeats 4000000 in
set_option maxRecDepth 100000 in
theorem kX2_wordOf (l : Launch) (G : va_G) (T : Nat → ClassId) (aK aV : Nat → Nat) (p0 : Int32) (sz : Nat)  : Met l yX2_wordOf wsX2_wordOf ({ frames := 0, cells := 0, slots := 0, locals := 0 } : Room) (PX2_wordOf G T aK aV p0 sz) (QX2_wordOf G T aK aV p0 sz) 0 0 (va_A ([] : va_W) sz) := by
  refine Met.ofW (cc := cX2_wordOf) (maxL := 1) (ret := (some (.object "java/lang/String"))) (by decide) rfl ?_
  intro p e s m args below meth c s₁ B hml hv
  obtain ⟨rfl, ⟨hsz, hP, hK, hD0, hE⟩, hWs⟩ := hv
  have hx := B.exec
  have hb := B.bytes
  have hr := B.returns
  have hts := atoms_spec (ws := wsX2_wordOf) B.pre
  have hown : s.vm.findClass RX2 = some m.cls := findClass_of_methodNamed B.named
  have hlocks := B.notSynchronized
  subst hsz
  have hD := hD0.self (sz := s.heap.size)
  have hA : ∀ q : Nat, s.heap.size ≤ q → (va_A ([] : va_W) s.heap.size) q := fun q h => Or.inr h
  have hS : va_S (va_A ([] : va_W) s.heap.size) s.heap s.heap [] := va_S.rf
  have hl := lv_entry ([.int p0]) (n := 1) (Nat.le_of_ble_eq_true rfl)
  rw [lg_entry_eq]
  generalize (lg_sl ([.int p0]) ++ List.replicate (1 - (lg_sl ([.int p0])).length) Slot.unset).toArray = ls at hl ⊢
  have hl : lv_has ls 1 [(0, .int p0)] := hl
  have hP : va_P G vwCl (([] : va_W)) s.heap := hP
  refine lv_iload_n hx hb dX2_wordOf_0 rfl (lv_at hl 0 rfl) ?_
  by_cases c1_1 : p0 = 1
  · skip
    refine lv_tableIn (off := 35) (tgt := 36) hx hb dX2_wordOf_1 (by rw [c1_1]; decide) (by rw [c1_1]; decide) (by rw [c1_1]; decide) (by decide) ?_
    refine va_ldcS hx hb hown (hWs.2.1 0 (by decide)) dX2_wordOf_36 ?_
    exact W.aret (v := .ref (aK 0)) hx hb hr (Or.inl ⟨_, rfl⟩) (Or.inr ⟨_, rfl⟩) (fun t ht9 hW => ⟨⟨(), (aK 0), rfl, trivial, by simp [wIx, c1_1], gBi ht9 (gfin hP (rfl))⟩, hS.F ht9⟩) hS.2.2 dX2_wordOf_38
  · skip
    by_cases c1_2 : p0 = 2
    · skip
      refine lv_tableIn (off := 38) (tgt := 39) hx hb dX2_wordOf_1 (by rw [c1_2]; decide) (by rw [c1_2]; decide) (by rw [c1_2]; decide) (by decide) ?_
      refine va_ldcS hx hb hown (hWs.2.1 1 (by decide)) dX2_wordOf_39 ?_
      exact W.aret (v := .ref (aK 1)) hx hb hr (Or.inl ⟨_, rfl⟩) (Or.inr ⟨_, rfl⟩) (fun t ht9 hW => ⟨⟨(), (aK 1), rfl, trivial, by simp [wIx, c1_1, c1_2], gBi ht9 (gfin hP (rfl))⟩, hS.F ht9⟩) hS.2.2 dX2_wordOf_41
    · skip
      by_cases c1_3 : p0 = 3
      · skip
        refine lv_tableIn (off := 41) (tgt := 42) hx hb dX2_wordOf_1 (by rw [c1_3]; decide) (by rw [c1_3]; decide) (by rw [c1_3]; decide) (by decide) ?_
        refine va_ldcS hx hb hown (hWs.2.1 2 (by decide)) dX2_wordOf_42 ?_
        exact W.aret (v := .ref (aK 2)) hx hb hr (Or.inl ⟨_, rfl⟩) (Or.inr ⟨_, rfl⟩) (fun t ht9 hW => ⟨⟨(), (aK 2), rfl, trivial, by simp [wIx, c1_1, c1_2, c1_3], gBi ht9 (gfin hP (rfl))⟩, hS.F ht9⟩) hS.2.2 dX2_wordOf_44
      · skip
        by_cases c1_4 : p0 = 4
        · skip
          refine lv_tableIn (off := 44) (tgt := 45) hx hb dX2_wordOf_1 (by rw [c1_4]; decide) (by rw [c1_4]; decide) (by rw [c1_4]; decide) (by decide) ?_
          refine va_ldcS hx hb hown (hWs.2.1 3 (by decide)) dX2_wordOf_45 ?_
          exact W.aret (v := .ref (aK 3)) hx hb hr (Or.inl ⟨_, rfl⟩) (Or.inr ⟨_, rfl⟩) (fun t ht9 hW => ⟨⟨(), (aK 3), rfl, trivial, by simp [wIx, c1_1, c1_2, c1_3, c1_4], gBi ht9 (gfin hP (rfl))⟩, hS.F ht9⟩) hS.2.2 dX2_wordOf_47
        · skip
          by_cases c1_5 : p0 = 5
          · skip
            refine lv_tableIn (off := 47) (tgt := 48) hx hb dX2_wordOf_1 (by rw [c1_5]; decide) (by rw [c1_5]; decide) (by rw [c1_5]; decide) (by decide) ?_
            refine va_ldcS hx hb hown (hWs.2.1 4 (by decide)) dX2_wordOf_48 ?_
            exact W.aret (v := .ref (aK 4)) hx hb hr (Or.inl ⟨_, rfl⟩) (Or.inr ⟨_, rfl⟩) (fun t ht9 hW => ⟨⟨(), (aK 4), rfl, trivial, by simp [wIx, c1_1, c1_2, c1_3, c1_4, c1_5], gBi ht9 (gfin hP (rfl))⟩, hS.F ht9⟩) hS.2.2 dX2_wordOf_50
          · skip
            have e1_1 : (p0).toInt ≠ 1 := fun z => c1_1 (Int32.toInt_inj.mp z)
            have e1_2 : (p0).toInt ≠ 2 := fun z => c1_2 (Int32.toInt_inj.mp z)
            have e1_3 : (p0).toInt ≠ 3 := fun z => c1_3 (Int32.toInt_inj.mp z)
            have e1_4 : (p0).toInt ≠ 4 := fun z => c1_4 (Int32.toInt_inj.mp z)
            have e1_5 : (p0).toInt ≠ 5 := fun z => c1_5 (Int32.toInt_inj.mp z)
            refine lv_tableOut (tgt := 51) hx hb dX2_wordOf_1 (by omega) (by decide) ?_
            refine va_ldcS hx hb hown (hWs.2.1 5 (by decide)) dX2_wordOf_51 ?_
            exact W.aret (v := .ref (aK 5)) hx hb hr (Or.inl ⟨_, rfl⟩) (Or.inr ⟨_, rfl⟩) (fun t ht9 hW => ⟨⟨(), (aK 5), rfl, trivial, by simp [wIx, c1_1, c1_2, c1_3, c1_4, c1_5], gBi ht9 (gfin hP (rfl))⟩, hS.F ht9⟩) hS.2.2 dX2_wordOf_53
/-- the code and the answer of sign -/
def kSign (N : Nat → Int32) (p0 p1 : Int32) : Nat := if okI p0 16 then (if okI p1 (if N 1 = -1 then nI (wLen (wIx (N 0))) else nI (wLen (wIx (N 0)) + 1 + 1)) then 0 else 1) else 1
def sSign (N : Nat → Int32) (p1 : Int32) : Int32 := if p1 < nI (wLen (wIx (N 0))) then chW (wIx (N 0)) p1.toNatClampNeg else if p1 = nI (wLen (wIx (N 0)) + 1) then nI ((48 + N 1).toBitVec.toNat % 65536) else 58
abbrev PX2_sign (G : va_G) (T : Nat → ClassId) (aK aV : Nat → Nat) (na mo nm rs : Nat) (D mny : Nat → Int32) (nA rA : Nat → Nat) (j x2 x3 : Nat) (N f g : Nat → Int32) (p0 p1 : Int32) (sz : Nat) : Array Value → State → Prop := gPw G T aK aV [.ref na, .int p0, .int p1] ((cA T na mo nm rs D mny nA rA) ++ (cN T (nA j) x2 x3 N f g)) sz
abbrev QX2_sign (G : va_G) (T : Nat → ClassId) (aK aV : Nat → Nat) (na mo nm rs : Nat) (D mny : Nat → Int32) (nA rA : Nat → Nat) (j x2 x3 : Nat) (N f g : Nat → Int32) (p0 p1 : Int32) (sz : Nat) : Array Value → State → Outcome → State → Prop := va_Qi (fun (r : Int32) (_ : Unit) => kSign N p0 p1 = 0 ∧ r = sSign N p1) (gB G ((cA T na mo nm rs D mny nA rA) ++ (cN T (nA j) x2 x3 N f g))) (va_A ((cA T na mo nm rs D mny nA rA) ++ (cN T (nA j) x2 x3 N f g)) sz)
abbrev XX2_sign (G : va_G) (T : Nat → ClassId) (aK aV : Nat → Nat) (na mo nm rs : Nat) (D mny : Nat → Int32) (nA rA : Nat → Nat) (j x2 x3 : Nat) (N f g : Nat → Int32) (p0 p1 : Int32) (sz : Nat) : String → State → State → Prop := gX G ((cA T na mo nm rs D mny nA rA) ++ (cN T (nA j) x2 x3 N f g)) sz (fun E => pK (kSign N p0 p1) E)
set_option maxHeartbeats 4000000 in
set_option maxRecDepth 100000 in
theorem kX2_sign (l : Launch) (hl0 : l.stackTraces = false) (G : va_G) (T : Nat → ClassId) (aK aV : Nat → Nat) (na mo nm rs : Nat) (D mny : Nat → Int32) (nA rA : Nat → Nat) (j x2 x3 : Nat) (N f g : Nat → Int32) (p0 p1 : Int32) (sz : Nat) (hj : okI p0 16 = true → p0 = nI j ∧ j < 16) : vx_Met l yX2_sign wsX2_sign ({ frames := 7, cells := 2, slots := 12, locals := 102 } : Room) (PX2_sign G T aK aV na mo nm rs D mny nA rA j x2 x3 N f g p0 p1 sz) (QX2_sign G T aK aV na mo nm rs D mny nA rA j x2 x3 N f g p0 p1 sz) (XX2_sign G T aK aV na mo nm rs D mny nA rA j x2 x3 N f g p0 p1 sz) 2 12 (va_A ((cA T na mo nm rs D mny nA rA) ++ (cN T (nA j) x2 x3 N f g)) sz) := by
  refine vx_ofW (cc := cX2_sign) (maxL := 6) (ret := (some .char)) (by decide) rfl ?_
  intro p e s m args below meth c s₁ B hml ht hv
  obtain ⟨rfl, ⟨hsz, hP, hK, hD0, hE⟩, hWs⟩ := hv
  have hx := B.exec
  have hb := B.bytes
  have hr := B.returns
  have hts := atoms_spec (ws := wsX2_sign) B.pre
  have hown : s.vm.findClass RX2 = some m.cls := findClass_of_methodNamed B.named
  have hlocks := B.notSynchronized
  subst hsz
  have hD := hD0.self (sz := s.heap.size)
  have hA : ∀ q : Nat, s.heap.size ≤ q → (va_A ((cA T na mo nm rs D mny nA rA) ++ (cN T (nA j) x2 x3 N f g)) s.heap.size) q := fun q h => Or.inr h
  have hS : va_S (va_A ((cA T na mo nm rs D mny nA rA) ++ (cN T (nA j) x2 x3 N f g)) s.heap.size) s.heap s.heap [] := va_S.rf
  have hiRX0 : ∀ w ∈ u_ws RX0 TX0 11, w ∈ wsX2_sign := by decide +kernel
  have hiRX2 : ∀ w ∈ u_ws RX2 TX2 6, w ∈ wsX2_sign := by decide +kernel
  have hl := lv_entry ([.ref na, .int p0, .int p1]) (n := 6) (Nat.le_of_ble_eq_true rfl)
  rw [lg_entry_eq]
  generalize (lg_sl ([.ref na, .int p0, .int p1]) ++ List.replicate (6 - (lg_sl ([.ref na, .int p0, .int p1])).length) Slot.unset).toArray = ls at hl ⊢
  have hl : lv_has ls 6 [(0, .ref na), (1, .int p0), (2, .int p1)] := hl
  have hP : va_P G vwCl ((cA T na mo nm rs D mny nA rA) ++ (cN T (nA j) x2 x3 N f g)) s.heap := hP
  refine lv_iload_n hx hb dX2_sign_0 rfl (lv_at hl 1 rfl) ?_
  refine lv_bipush (v := 16) hx hb dX2_sign_1 (by decide) ?_
  refine gxv (vx_runS (As := [.int p0, .int 16]) (rest := []) ⟨hx, hb, hml, hown, hts⟩ (kX2_checkIndex l hl0 G T p0 16 _) (va_cwS 2 hts gX2_sign_X2_checkIndex rfl rfl rfl (by decide +kernel) ⟨Nat.le_of_ble_eq_true rfl, Nat.le_of_ble_eq_true rfl⟩) ⟨gblind, gpre hE hK hP hD hS hA [] rfl rfl⟩ rfl rfl hl.1 rfl (lv_room (Nat.le_of_ble_eq_true rfl)) dX2_sign_3 ⟨Nat.le_of_ble_eq_true rfl, Nat.le_of_ble_eq_true rfl⟩) hP hD hS hA [] rfl rfl (fun E9 ce9 q9 H locs he hP hD hS hce hcv hcl => ?_) (fun H locs hw hP hD hS => ?_)
  · skip
    have hP : va_P G vwCl ((cA T na mo nm rs D mny nA rA) ++ (cN T (nA j) x2 x3 N f g)) H := hP
    have hD : va_D (va_A ((cA T na mo nm rs D mny nA rA) ++ (cN T (nA j) x2 x3 N f g)) s.heap.size) ((cA T na mo nm rs D mny nA rA) ++ (cN T (nA j) x2 x3 N f g)) := hD
    exact gout (pe := fun E => pK (kSign N p0 p1) E) ht hlocks (by obtain ⟨h8, h9⟩ := he; subst h8; simp [pK, kSign, h9]) hP hS hce hcv hcl (Nat.le_of_ble_eq_true rfl) (Nat.le_of_ble_eq_true rfl)
  · skip
    have hP : va_P G vwCl ((cA T na mo nm rs D mny nA rA) ++ (cN T (nA j) x2 x3 N f g)) H := hP
    have hD : va_D (va_A ((cA T na mo nm rs D mny nA rA) ++ (cN T (nA j) x2 x3 N f g)) s.heap.size) ((cA T na mo nm rs D mny nA rA) ++ (cN T (nA j) x2 x3 N f g)) := hD
    have hok3 := hw
    have e1 := hj hok3
    refine lv_aload_n hx hb dX2_sign_6 rfl (lv_at hl 0 rfl) ?_
    refine va_get (D := G) (ci := 2) (v := .ref nm) (C := RX2) (T := TX2) (N := 6) hx hb hts hiRX2 hown hK hP 0 rfl rfl 1 (by decide) (hts (.fieldLink RX2 15 "NameAuction" "names" "[LNameAuction$Name;") (by decide +kernel)) (fun _ h9 => h9) rfl dX2_sign_7 ?_
    refine lv_iload_n hx hb dX2_sign_10 rfl (lv_at hl 1 rfl) ?_
    refine galdr (j := j) hx hb hK hP 2 2 rfl rfl e1.1 e1.2 (by decide) dX2_sign_11 ?_
    refine lv_astore_n (lv' := [(3, .ref (nA j)), (0, .ref na), (1, .int p0), (2, .int p1)]) hx hb dX2_sign_12 rfl hl (by decide) rfl (fun ls hl => ?_)
    refine lv_aload_n hx hb dX2_sign_13 rfl (lv_at hl 0 rfl) ?_
    refine va_getN (D := G) (ci := 0) (v := .int (N 0)) (C := RX0) (T := TX0) (N := 11) hx hb hts hiRX0 hown hK hP 4 rfl rfl 0 (by decide) (va_Nw.use rfl (hE.1 (.fieldLinkNest RX2 36 "NameAuction$Name" "phase" "I" RX2) (by decide +kernel))) (fun _ h9 => h9) rfl dX2_sign_14 ?_
    refine gcr (va_runS (As := [.int (N 0)]) (rest := []) ⟨hx, hb, hml, hown, hts⟩ (kX2_wordOf l G T aK aV (N 0) _) (va_cwS 1 hts gX2_sign_X2_wordOf rfl rfl rfl (by decide +kernel) ⟨Nat.le_of_ble_eq_true rfl, Nat.le_of_ble_eq_true rfl⟩) ⟨gblindW, gpreW hWs hE hK hP hD hS hA [] rfl rfl⟩ rfl rfl hl.1 rfl (lv_room (Nat.le_of_ble_eq_true rfl)) dX2_sign_17 ⟨Nat.le_of_ble_eq_true rfl, Nat.le_of_ble_eq_true rfl⟩) hP hD hS hA [] rfl rfl (fun H locs hw hP hD hS => ?_)
    have hP : va_P G vwCl ((cA T na mo nm rs D mny nA rA) ++ (cN T (nA j) x2 x3 N f g)) H := hP
    have hD : va_D (va_A ((cA T na mo nm rs D mny nA rA) ++ (cN T (nA j) x2 x3 N f g)) s.heap.size) ((cA T na mo nm rs D mny nA rA) ++ (cN T (nA j) x2 x3 N f g)) := hD
    refine lv_astore (lv' := [(4, .ref (aK (wIx (N 0)))), (3, .ref (nA j)), (0, .ref na), (1, .int p0), (2, .int p1)]) hx hb dX2_sign_20 hl (by decide) rfl (fun ls hl => ?_)
    refine lv_aload hx hb dX2_sign_22 (lv_at hl 0 rfl) ?_
    refine gci (va_runV (As := []) (rest := []) ⟨hx, hb, hml, hown, hts⟩ (kJ0_length_8abf5 l G T aK aV (wIx (N 0)) _ (wIx_lt _)) (cwV 0 hts gX2_sign_J0_length_8abf5 rfl rfl rfl (by decide +kernel) ⟨Nat.le_of_ble_eq_true rfl, Nat.le_of_ble_eq_true rfl⟩) ⟨gblindW, vk_recv hWs.1 (wIx_lt _) hS, gpreW hWs hE hK hP hD hS hA [] rfl rfl⟩ rfl rfl hl.1 rfl (lv_room (Nat.le_of_ble_eq_true rfl)) dX2_sign_24 ⟨Nat.le_of_ble_eq_true rfl, Nat.le_of_ble_eq_true rfl⟩) hP hD hS hA [] rfl rfl (fun r9 H locs hw hP hD hS => ?_)
    have hP : va_P G vwCl ((cA T na mo nm rs D mny nA rA) ++ (cN T (nA j) x2 x3 N f g)) H := hP
    have hD : va_D (va_A ((cA T na mo nm rs D mny nA rA) ++ (cN T (nA j) x2 x3 N f g)) s.heap.size) ((cA T na mo nm rs D mny nA rA) ++ (cN T (nA j) x2 x3 N f g)) := hD
    subst hw
    refine lv_iconst (v := 1) hx hb dX2_sign_27 (by decide) ?_
    refine lv_iadd hx hb dX2_sign_28 ?_
    refine gtop (y := nI ((wLen (wIx (N 0))) + 1)) (nI_add (wLen (wIx (N 0))) 1) ?_
    refine lv_istore (lv' := [(5, .int (nI ((wLen (wIx (N 0))) + 1))), (4, .ref (aK (wIx (N 0)))), (3, .ref (nA j)), (0, .ref na), (1, .int p0), (2, .int p1)]) hx hb dX2_sign_29 hl (by decide) rfl (fun ls hl => ?_)
    refine lv_iload_n hx hb dX2_sign_31 rfl (lv_at hl 5 rfl) ?_
    refine lv_aload_n hx hb dX2_sign_32 rfl (lv_at hl 2 rfl) ?_
    refine va_getN (D := G) (ci := 0) (v := .int (N 1)) (C := RX0) (T := TX0) (N := 11) hx hb hts hiRX0 hown hK hP 4 rfl rfl 1 (by decide) (va_Nw.use rfl (hE.1 (.fieldLinkNest RX2 74 "NameAuction$Name" "holder" "I" RX2) (by decide +kernel))) (fun _ h9 => h9) rfl dX2_sign_33 ?_
    refine lv_iconst (v := (-1)) hx hb dX2_sign_36 (by decide) ?_
    refine lv_icmp_ne (tgt := 48) hx hb dX2_sign_37 (by decide) (fun c37 => ?_) (fun c37 => ?_)
    · skip
      refine lv_iload hx hb dX2_sign_48 (lv_at hl 0 rfl) ?_
      refine lv_iconst (v := 1) hx hb dX2_sign_50 (by decide) ?_
      refine lv_iadd hx hb dX2_sign_51 ?_
      refine gtop (y := nI (((wLen (wIx (N 0))) + 1) + 1)) (nI_add ((wLen (wIx (N 0))) + 1) 1) ?_
      refine gxv (vx_runS (As := [.int p1, .int (nI (((wLen (wIx (N 0))) + 1) + 1))]) (rest := []) ⟨hx, hb, hml, hown, hts⟩ (kX2_checkIndex l hl0 G T p1 (nI (((wLen (wIx (N 0))) + 1) + 1)) _) (va_cwS 2 hts gX2_sign_X2_checkIndex rfl rfl rfl (by decide +kernel) ⟨Nat.le_of_ble_eq_true rfl, Nat.le_of_ble_eq_true rfl⟩) ⟨gblind, gpre hE hK hP hD hS hA [] rfl rfl⟩ rfl rfl hl.1 rfl (lv_room (Nat.le_of_ble_eq_true rfl)) dX2_sign_52 ⟨Nat.le_of_ble_eq_true rfl, Nat.le_of_ble_eq_true rfl⟩) hP hD hS hA [] rfl rfl (fun E9 ce9 q9 H locs he hP hD hS hce hcv hcl => ?_) (fun H locs hw hP hD hS => ?_)
      · skip
        have hP : va_P G vwCl ((cA T na mo nm rs D mny nA rA) ++ (cN T (nA j) x2 x3 N f g)) H := hP
        have hD : va_D (va_A ((cA T na mo nm rs D mny nA rA) ++ (cN T (nA j) x2 x3 N f g)) s.heap.size) ((cA T na mo nm rs D mny nA rA) ++ (cN T (nA j) x2 x3 N f g)) := hD
        exact gout (pe := fun E => pK (kSign N p0 p1) E) ht hlocks (by obtain ⟨h8, h9⟩ := he; subst h8; simp [pK, kSign, h9, c37, hok3]) hP hS hce hcv hcl (Nat.le_of_ble_eq_true rfl) (Nat.le_of_ble_eq_true rfl)
      · skip
        have hP : va_P G vwCl ((cA T na mo nm rs D mny nA rA) ++ (cN T (nA j) x2 x3 N f g)) H := hP
        have hD : va_D (va_A ((cA T na mo nm rs D mny nA rA) ++ (cN T (nA j) x2 x3 N f g)) s.heap.size) ((cA T na mo nm rs D mny nA rA) ++ (cN T (nA j) x2 x3 N f g)) := hD
        have hok52 := hw
        refine lv_iload_n hx hb dX2_sign_55 rfl (lv_at hl 5 rfl) ?_
        refine lv_aload hx hb dX2_sign_56 (lv_at hl 1 rfl) ?_
        refine gci (va_runV (As := []) (rest := [.int p1]) ⟨hx, hb, hml, hown, hts⟩ (kJ0_length_8abf5 l G T aK aV (wIx (N 0)) _ (wIx_lt _)) (cwV 0 hts gX2_sign_J0_length_8abf5 rfl rfl rfl (by decide +kernel) ⟨Nat.le_of_ble_eq_true rfl, Nat.le_of_ble_eq_true rfl⟩) ⟨gblindW, vk_recv hWs.1 (wIx_lt _) hS, gpreW hWs hE hK hP hD hS hA [] rfl rfl⟩ rfl rfl hl.1 rfl (lv_room (Nat.le_of_ble_eq_true rfl)) dX2_sign_58 ⟨Nat.le_of_ble_eq_true rfl, Nat.le_of_ble_eq_true rfl⟩) hP hD hS hA [] rfl rfl (fun r9 H locs hw hP hD hS => ?_)
        have hP : va_P G vwCl ((cA T na mo nm rs D mny nA rA) ++ (cN T (nA j) x2 x3 N f g)) H := hP
        have hD : va_D (va_A ((cA T na mo nm rs D mny nA rA) ++ (cN T (nA j) x2 x3 N f g)) s.heap.size) ((cA T na mo nm rs D mny nA rA) ++ (cN T (nA j) x2 x3 N f g)) := hD
        subst hw
        refine lv_icmp_ge (tgt := 71) hx hb dX2_sign_61 (by decide) (fun c61 => ?_) (fun c61 => ?_)
        · skip
          refine lv_iload_n hx hb dX2_sign_71 rfl (lv_at hl 5 rfl) ?_
          refine lv_iload hx hb dX2_sign_72 (lv_at hl 0 rfl) ?_
          refine lv_icmp_ne (tgt := 88) hx hb dX2_sign_74 (by decide) (fun c74 => ?_) (fun c74 => ?_)
          · skip
            refine lv_bipush (v := 58) hx hb dX2_sign_88 (by decide) ?_
            refine vx_ret ?_
            exact W.zret (v := 58) hx hb hr (by decide) (fun t ht9 hW => ⟨⟨58, (), rfl, ⟨(by simp [kSign, eq_false c37, eq_true c61, eq_false c74, hok3, hok52]), by rw [sSign, if_neg (Int32.not_lt.mpr c61), if_neg c74]⟩, gBi ht9 (gfin hP (rfl))⟩, hS.F ht9⟩) hS.2.2 dX2_sign_90
          · skip
            refine lv_bipush (v := 48) hx hb dX2_sign_77 (by decide) ?_
            refine lv_aload_n hx hb dX2_sign_79 rfl (lv_at hl 2 rfl) ?_
            refine va_getN (D := G) (ci := 0) (v := .int (N 1)) (C := RX0) (T := TX0) (N := 11) hx hb hts hiRX0 hown hK hP 4 rfl rfl 1 (by decide) (va_Nw.use rfl (hE.1 (.fieldLinkNest RX2 74 "NameAuction$Name" "holder" "I" RX2) (by decide +kernel))) (fun _ h9 => h9) rfl dX2_sign_80 ?_
            refine lv_iadd hx hb dX2_sign_83 ?_
            refine lv_i2c (v := nI ((48 + N 1).toBitVec.toNat % 65536)) hx hb dX2_sign_84 (pk_char _) ?_
            refine lv_goto (tgt := 90) hx hb dX2_sign_85 (by decide) ?_
            refine vx_ret ?_
            exact W.zret (v := nI ((48 + N 1).toBitVec.toNat % 65536)) hx hb hr (pk_charN (Nat.mod_lt _ (by decide))).1 (fun t ht9 hW => ⟨⟨nI ((48 + N 1).toBitVec.toNat % 65536), (), rfl, ⟨(by simp [kSign, eq_false c37, eq_true c61, eq_true c74, hok3, hok52]), by rw [sSign, if_neg (Int32.not_lt.mpr c61), if_pos c74]⟩, gBi ht9 (gfin hP (rfl))⟩, hS.F ht9⟩) hS.2.2 dX2_sign_90
        · skip
          obtain ⟨k9, hk9, e9⟩ : ∃ k : Nat, k < wLen (wIx (N 0)) ∧ p1 = nI k := by
            obtain ⟨k9, h91, h92⟩ := nI_of (okI_of hok52).1
            refine ⟨k9, ?_, h92⟩
            rcases Nat.lt_or_ge k9 (wLen (wIx (N 0))) with q | q
            · exact q
            · exact absurd (show nI (wLen (wIx (N 0))) ≤ p1 by rw [h92]; exact nI_le q h91) c61
          refine lv_aload hx hb dX2_sign_64 (lv_at hl 1 rfl) ?_
          refine lv_iload_n hx hb dX2_sign_66 rfl (lv_at hl 5 rfl) ?_
          refine gtop (y := nI k9) e9 ?_
          refine gci (va_runV (As := [.int (nI k9)]) (rest := []) ⟨hx, hb, hml, hown, hts⟩ (kJ0_charAt_5068e l G T aK aV (wIx (N 0)) k9 _ (wIx_lt _) hk9) (cwV 1 hts gX2_sign_J0_charAt_5068e rfl rfl rfl (by decide +kernel) ⟨Nat.le_of_ble_eq_true rfl, Nat.le_of_ble_eq_true rfl⟩) ⟨gblindW, vk_recv hWs.1 (wIx_lt _) hS, gpreW hWs hE hK hP hD hS hA [] rfl rfl⟩ rfl rfl hl.1 rfl (lv_room (Nat.le_of_ble_eq_true rfl)) dX2_sign_67 ⟨Nat.le_of_ble_eq_true rfl, Nat.le_of_ble_eq_true rfl⟩) hP hD hS hA [] rfl rfl (fun r9 H locs hw hP hD hS => ?_)
          have hP : va_P G vwCl ((cA T na mo nm rs D mny nA rA) ++ (cN T (nA j) x2 x3 N f g)) H := hP
          have hD : va_D (va_A ((cA T na mo nm rs D mny nA rA) ++ (cN T (nA j) x2 x3 N f g)) s.heap.size) ((cA T na mo nm rs D mny nA rA) ++ (cN T (nA j) x2 x3 N f g)) := hD
          subst hw
          refine vx_ret ?_
          exact W.zret (v := chW (wIx (N 0)) k9) hx hb hr (chW_nar (wIx_lt _) hk9) (fun t ht9 hW => ⟨⟨chW (wIx (N 0)) k9, (), rfl, ⟨(by simp [kSign, eq_false c37, eq_false c61, hok3, hok52]), by rw [sSign, if_pos (Int32.not_le.mp c61), e9, nI_clamp (Nat.lt_trans hk9 (wLen_31 (wIx_lt _)))]⟩, gBi ht9 (gfin hP (rfl))⟩, hS.F ht9⟩) hS.2.2 dX2_sign_70
    · skip
      refine lv_aload hx hb dX2_sign_40 (lv_at hl 1 rfl) ?_
      refine gci (va_runV (As := []) (rest := [.int p1]) ⟨hx, hb, hml, hown, hts⟩ (kJ0_length_8abf5 l G T aK aV (wIx (N 0)) _ (wIx_lt _)) (cwV 0 hts gX2_sign_J0_length_8abf5 rfl rfl rfl (by decide +kernel) ⟨Nat.le_of_ble_eq_true rfl, Nat.le_of_ble_eq_true rfl⟩) ⟨gblindW, vk_recv hWs.1 (wIx_lt _) hS, gpreW hWs hE hK hP hD hS hA [] rfl rfl⟩ rfl rfl hl.1 rfl (lv_room (Nat.le_of_ble_eq_true rfl)) dX2_sign_42 ⟨Nat.le_of_ble_eq_true rfl, Nat.le_of_ble_eq_true rfl⟩) hP hD hS hA [] rfl rfl (fun r9 H locs hw hP hD hS => ?_)
      have hP : va_P G vwCl ((cA T na mo nm rs D mny nA rA) ++ (cN T (nA j) x2 x3 N f g)) H := hP
      have hD : va_D (va_A ((cA T na mo nm rs D mny nA rA) ++ (cN T (nA j) x2 x3 N f g)) s.heap.size) ((cA T na mo nm rs D mny nA rA) ++ (cN T (nA j) x2 x3 N f g)) := hD
      subst hw
      refine lv_goto (tgt := 52) hx hb dX2_sign_45 (by decide) ?_
      refine gxv (vx_runS (As := [.int p1, .int (nI (wLen (wIx (N 0))))]) (rest := []) ⟨hx, hb, hml, hown, hts⟩ (kX2_checkIndex l hl0 G T p1 (nI (wLen (wIx (N 0)))) _) (va_cwS 2 hts gX2_sign_X2_checkIndex rfl rfl rfl (by decide +kernel) ⟨Nat.le_of_ble_eq_true rfl, Nat.le_of_ble_eq_true rfl⟩) ⟨gblind, gpre hE hK hP hD hS hA [] rfl rfl⟩ rfl rfl hl.1 rfl (lv_room (Nat.le_of_ble_eq_true rfl)) dX2_sign_52 ⟨Nat.le_of_ble_eq_true rfl, Nat.le_of_ble_eq_true rfl⟩) hP hD hS hA [] rfl rfl (fun E9 ce9 q9 H locs he hP hD hS hce hcv hcl => ?_) (fun H locs hw hP hD hS => ?_)
      · skip
        have hP : va_P G vwCl ((cA T na mo nm rs D mny nA rA) ++ (cN T (nA j) x2 x3 N f g)) H := hP
        have hD : va_D (va_A ((cA T na mo nm rs D mny nA rA) ++ (cN T (nA j) x2 x3 N f g)) s.heap.size) ((cA T na mo nm rs D mny nA rA) ++ (cN T (nA j) x2 x3 N f g)) := hD
        exact gout (pe := fun E => pK (kSign N p0 p1) E) ht hlocks (by obtain ⟨h8, h9⟩ := he; subst h8; simp [pK, kSign, h9, c37, hok3]) hP hS hce hcv hcl (Nat.le_of_ble_eq_true rfl) (Nat.le_of_ble_eq_true rfl)
      · skip
        have hP : va_P G vwCl ((cA T na mo nm rs D mny nA rA) ++ (cN T (nA j) x2 x3 N f g)) H := hP
        have hD : va_D (va_A ((cA T na mo nm rs D mny nA rA) ++ (cN T (nA j) x2 x3 N f g)) s.heap.size) ((cA T na mo nm rs D mny nA rA) ++ (cN T (nA j) x2 x3 N f g)) := hD
        have hok52 := hw
        refine lv_iload_n hx hb dX2_sign_55 rfl (lv_at hl 5 rfl) ?_
        refine lv_aload hx hb dX2_sign_56 (lv_at hl 1 rfl) ?_
        refine gci (va_runV (As := []) (rest := [.int p1]) ⟨hx, hb, hml, hown, hts⟩ (kJ0_length_8abf5 l G T aK aV (wIx (N 0)) _ (wIx_lt _)) (cwV 0 hts gX2_sign_J0_length_8abf5 rfl rfl rfl (by decide +kernel) ⟨Nat.le_of_ble_eq_true rfl, Nat.le_of_ble_eq_true rfl⟩) ⟨gblindW, vk_recv hWs.1 (wIx_lt _) hS, gpreW hWs hE hK hP hD hS hA [] rfl rfl⟩ rfl rfl hl.1 rfl (lv_room (Nat.le_of_ble_eq_true rfl)) dX2_sign_58 ⟨Nat.le_of_ble_eq_true rfl, Nat.le_of_ble_eq_true rfl⟩) hP hD hS hA [] rfl rfl (fun r9 H locs hw hP hD hS => ?_)
        have hP : va_P G vwCl ((cA T na mo nm rs D mny nA rA) ++ (cN T (nA j) x2 x3 N f g)) H := hP
        have hD : va_D (va_A ((cA T na mo nm rs D mny nA rA) ++ (cN T (nA j) x2 x3 N f g)) s.heap.size) ((cA T na mo nm rs D mny nA rA) ++ (cN T (nA j) x2 x3 N f g)) := hD
        subst hw
        refine lv_icmp_ge (tgt := 71) hx hb dX2_sign_61 (by decide) (fun c61 => ?_) (fun c61 => ?_)
        · skip
          refine lv_iload_n hx hb dX2_sign_71 rfl (lv_at hl 5 rfl) ?_
          refine lv_iload hx hb dX2_sign_72 (lv_at hl 0 rfl) ?_
          refine lv_icmp_ne (tgt := 88) hx hb dX2_sign_74 (by decide) (fun c74 => ?_) (fun c74 => ?_)
          · skip
            refine lv_bipush (v := 58) hx hb dX2_sign_88 (by decide) ?_
            refine vx_ret ?_
            exact W.zret (v := 58) hx hb hr (by decide) (fun t ht9 hW => ⟨⟨58, (), rfl, ⟨(by simp [kSign, eq_true c37, eq_true c61, eq_false c74, hok3, hok52]), by rw [sSign, if_neg (Int32.not_lt.mpr c61), if_neg c74]⟩, gBi ht9 (gfin hP (rfl))⟩, hS.F ht9⟩) hS.2.2 dX2_sign_90
          · skip
            refine lv_bipush (v := 48) hx hb dX2_sign_77 (by decide) ?_
            refine lv_aload_n hx hb dX2_sign_79 rfl (lv_at hl 2 rfl) ?_
            refine va_getN (D := G) (ci := 0) (v := .int (N 1)) (C := RX0) (T := TX0) (N := 11) hx hb hts hiRX0 hown hK hP 4 rfl rfl 1 (by decide) (va_Nw.use rfl (hE.1 (.fieldLinkNest RX2 74 "NameAuction$Name" "holder" "I" RX2) (by decide +kernel))) (fun _ h9 => h9) rfl dX2_sign_80 ?_
            refine lv_iadd hx hb dX2_sign_83 ?_
            refine lv_i2c (v := nI ((48 + N 1).toBitVec.toNat % 65536)) hx hb dX2_sign_84 (pk_char _) ?_
            refine lv_goto (tgt := 90) hx hb dX2_sign_85 (by decide) ?_
            refine vx_ret ?_
            exact W.zret (v := nI ((48 + N 1).toBitVec.toNat % 65536)) hx hb hr (pk_charN (Nat.mod_lt _ (by decide))).1 (fun t ht9 hW => ⟨⟨nI ((48 + N 1).toBitVec.toNat % 65536), (), rfl, ⟨(by simp [kSign, eq_true c37, eq_true c61, eq_true c74, hok3, hok52]), by rw [sSign, if_neg (Int32.not_lt.mpr c61), if_pos c74]⟩, gBi ht9 (gfin hP (rfl))⟩, hS.F ht9⟩) hS.2.2 dX2_sign_90
        · skip
          obtain ⟨k9, hk9, e9⟩ : ∃ k : Nat, k < wLen (wIx (N 0)) ∧ p1 = nI k := by
            obtain ⟨k9, h91, h92⟩ := nI_of (okI_of hok52).1
            refine ⟨k9, ?_, h92⟩
            rcases Nat.lt_or_ge k9 (wLen (wIx (N 0))) with q | q
            · exact q
            · exact absurd (show nI (wLen (wIx (N 0))) ≤ p1 by rw [h92]; exact nI_le q h91) c61
          refine lv_aload hx hb dX2_sign_64 (lv_at hl 1 rfl) ?_
          refine lv_iload_n hx hb dX2_sign_66 rfl (lv_at hl 5 rfl) ?_
          refine gtop (y := nI k9) e9 ?_
          refine gci (va_runV (As := [.int (nI k9)]) (rest := []) ⟨hx, hb, hml, hown, hts⟩ (kJ0_charAt_5068e l G T aK aV (wIx (N 0)) k9 _ (wIx_lt _) hk9) (cwV 1 hts gX2_sign_J0_charAt_5068e rfl rfl rfl (by decide +kernel) ⟨Nat.le_of_ble_eq_true rfl, Nat.le_of_ble_eq_true rfl⟩) ⟨gblindW, vk_recv hWs.1 (wIx_lt _) hS, gpreW hWs hE hK hP hD hS hA [] rfl rfl⟩ rfl rfl hl.1 rfl (lv_room (Nat.le_of_ble_eq_true rfl)) dX2_sign_67 ⟨Nat.le_of_ble_eq_true rfl, Nat.le_of_ble_eq_true rfl⟩) hP hD hS hA [] rfl rfl (fun r9 H locs hw hP hD hS => ?_)
          have hP : va_P G vwCl ((cA T na mo nm rs D mny nA rA) ++ (cN T (nA j) x2 x3 N f g)) H := hP
          have hD : va_D (va_A ((cA T na mo nm rs D mny nA rA) ++ (cN T (nA j) x2 x3 N f g)) s.heap.size) ((cA T na mo nm rs D mny nA rA) ++ (cN T (nA j) x2 x3 N f g)) := hD
          subst hw
          refine vx_ret ?_
          exact W.zret (v := chW (wIx (N 0)) k9) hx hb hr (chW_nar (wIx_lt _) hk9) (fun t ht9 hW => ⟨⟨chW (wIx (N 0)) k9, (), rfl, ⟨(by simp [kSign, eq_true c37, eq_false c61, hok3, hok52]), by rw [sSign, if_pos (Int32.not_le.mp c61), e9, nI_clamp (Nat.lt_trans hk9 (wLen_31 (wIx_lt _)))]⟩, gBi ht9 (gfin hP (rfl))⟩, hS.F ht9⟩) hS.2.2 dX2_sign_70
