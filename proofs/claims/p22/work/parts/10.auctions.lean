/-! AUCTIONS THAT CLOSE, DAYS THAT PASS: the class -/
def eO : Option Nat → Int32
  | none => -1
  | some b => nI b
def sBest (f g mny : Nat → Int32) (out : Int32) : Nat → Option Nat
  | 0 => none
  | k + 1 => if nI k = out then sBest f g mny out k else if f k ≤ 0 then sBest f g mny out k else if sCan mny (nI k) (f k) = 0 then sBest f g mny out k else
      match sBest f g mny out k with
      | none => some k
      | some b => if sAhead f g k b = 0 then some b else some k
theorem sBest_lt {f g mny : Nat → Int32} {out : Int32} : ∀ {n b : Nat}, sBest f g mny out n = some b → b < n
  | 0, b, h => by cases h
  | n + 1, b, h => by
    simp only [sBest] at h
    split at h
    · exact Nat.lt_succ_of_lt (sBest_lt h)
    · split at h
      · exact Nat.lt_succ_of_lt (sBest_lt h)
      · split at h
        · exact Nat.lt_succ_of_lt (sBest_lt h)
        · split at h
          · cases h; exact Nat.lt_succ_self _
          · rename_i q
            split at h
            · cases h; exact Nat.lt_succ_of_lt (sBest_lt q)
            · cases h; exact Nat.lt_succ_self _
theorem nI_m1 : ∀ b, b < 96 → ¬ nI b = -1 := by decide +kernel
theorem eO_none {o : Option Nat} (h : eO o = -1) (hb : ∀ b, o = some b → b < 6) : o = none := by
  cases o with
  | none => rfl
  | some b => exact absurd h (nI_m1 b (by have := hb b rfl; omega))
theorem eO_some {o : Option Nat} (h : ¬ eO o = -1) (hb : ∀ b, o = some b → b < 6) : ∃ b, o = some b ∧ b < 6 := by
  cases o with
  | none => exact absurd rfl h
  | some b => exact ⟨b, rfl, hb b rfl⟩
def sPrice (f g mny : Nat → Int32) (w : Nat) : Int32 := match sBest f g mny (nI w) 6 with
  | none => 10
  | some r => f r
def sClR (f g mny : Nat → Int32) : Int32 := match sBest f g mny (-1) 6 with
  | none => 0
  | some _ => 1
def sClN (D N f g mny : Nat → Int32) : Nat → Int32 := match sBest f g mny (-1) 6 with
  | none => upd (upd N 0 0) 1 (-1)
  | some w => upd (upd (upd (upd (upd N 0 2) 1 (nI w)) 3 ((sPayD D mny (nI w) (sPrice f g mny w)) 3 + 100)) 4 0) 5 10
def sClD (D f g mny : Nat → Int32) : Nat → Int32 := match sBest f g mny (-1) 6 with
  | none => D
  | some w => sPayD D mny (nI w) (sPrice f g mny w)
def sClM (f g mny : Nat → Int32) : Nat → Int32 := match sBest f g mny (-1) 6 with
  | none => mny
  | some w => sPayF mny (nI w) (sPrice f g mny w)
theorem updA_self (F : Nat → Nat → Int32) (i : Nat) : updA F i (F i) = F := by
  funext j
  simp only [updA]
  by_cases h : j = i
  · rw [if_pos h, h]
  · rw [if_neg h]
abbrev PX2_bestBidder (G : va_G) (T : Nat → ClassId) (na mo nm rs : Nat) (D mny : Nat → Int32) (nA rA : Nat → Nat) (x1 x2 x3 : Nat) (N f g : Nat → Int32) (p1 : Int32) (sz : Nat) : Array Value → State → Prop := gPc G T [.ref na, .ref x1, .int p1] ((cA T na mo nm rs D mny nA rA) ++ (cN T x1 x2 x3 N f g)) sz
abbrev QX2_bestBidder (G : va_G) (T : Nat → ClassId) (na mo nm rs : Nat) (D mny : Nat → Int32) (nA rA : Nat → Nat) (x1 x2 x3 : Nat) (N f g : Nat → Int32) (p1 : Int32) (sz : Nat) : Array Value → State → Outcome → State → Prop := va_Qi (fun (r : Int32) (_ : Unit) => r = eO (sBest f g mny p1 6)) (gB G ((cA T na mo nm rs D mny nA rA) ++ (cN T x1 x2 x3 N f g))) (va_A ((cA T na mo nm rs D mny nA rA) ++ (cN T x1 x2 x3 N f g)) sz)
set_option maxHeartbeats 4000000 in
set_option maxRecDepth 100000 in
theorem kX2_bestBidder (l : Launch) (G : va_G) (T : Nat → ClassId) (na mo nm rs : Nat) (D mny : Nat → Int32) (nA rA : Nat → Nat) (x1 x2 x3 : Nat) (N f g : Nat → Int32) (p1 : Int32) (sz : Nat)  : Met l yX2_bestBidder wsX2_bestBidder ({ frames := 1, cells := 0, slots := 0, locals := 22 } : Room) (PX2_bestBidder G T na mo nm rs D mny nA rA x1 x2 x3 N f g p1 sz) (QX2_bestBidder G T na mo nm rs D mny nA rA x1 x2 x3 N f g p1 sz) 0 0 (va_A ((cA T na mo nm rs D mny nA rA) ++ (cN T x1 x2 x3 N f g)) sz) := by
  refine Met.ofW (cc := cX2_bestBidder) (maxL := 6) (ret := (some .int)) (by decide) rfl ?_
  intro p e s m args below meth c s₁ B hml hv
  obtain ⟨rfl, hsz, hP, hK, hD0, hE⟩ := hv
  have hx := B.exec
  have hb := B.bytes
  have hr := B.returns
  have hts := atoms_spec (ws := wsX2_bestBidder) B.pre
  have hown : s.vm.findClass RX2 = some m.cls := findClass_of_methodNamed B.named
  have hlocks := B.notSynchronized
  subst hsz
  have hD := hD0.self (sz := s.heap.size)
  have hA : ∀ q : Nat, s.heap.size ≤ q → (va_A ((cA T na mo nm rs D mny nA rA) ++ (cN T x1 x2 x3 N f g)) s.heap.size) q := fun q h => Or.inr h
  have hS : va_S (va_A ((cA T na mo nm rs D mny nA rA) ++ (cN T x1 x2 x3 N f g)) s.heap.size) s.heap s.heap [] := va_S.rf
  have hiRX0 : ∀ w ∈ u_ws RX0 TX0 11, w ∈ wsX2_bestBidder := by decide +kernel
  have hl := lv_entry ([.ref na, .ref x1, .int p1]) (n := 6) (Nat.le_of_ble_eq_true rfl)
  rw [lg_entry_eq]
  generalize (lg_sl ([.ref na, .ref x1, .int p1]) ++ List.replicate (6 - (lg_sl ([.ref na, .ref x1, .int p1])).length) Slot.unset).toArray = ls at hl ⊢
  have hl : lv_has ls 6 [(0, .ref na), (1, .ref x1), (2, .int p1)] := hl
  have hP : va_P G vwCl ((cA T na mo nm rs D mny nA rA) ++ (cN T x1 x2 x3 N f g)) s.heap := hP
  refine lv_iconst (v := (-1)) hx hb dX2_bestBidder_0 (by decide) ?_
  refine lv_istore_n (lv' := [(3, .int (-1)), (0, .ref na), (1, .ref x1), (2, .int p1)]) hx hb dX2_bestBidder_1 rfl hl (by decide) rfl (fun ls hl => ?_)
  refine lv_iconst (v := 0) hx hb dX2_bestBidder_2 (by decide) ?_
  refine lv_istore (lv' := [(4, .int 0), (3, .int (-1)), (0, .ref na), (1, .ref x1), (2, .int p1)]) hx hb dX2_bestBidder_3 hl (by decide) rfl (fun ls hl => ?_)
  have J5 : ∀ n9 : Nat, ∀ (i : Nat) (o : Option Nat) (H : Heap) (locs : List Loc) (ls : Array Slot), (i ≤ 6) → (7 ≤ i + n9) → (sBest f g mny p1 i = o) → (∀ b, o = some b → b < 6) → va_P G vwCl ((cA T na mo nm rs D mny nA rA) ++ (cN T x1 x2 x3 N f g)) H → va_D (va_A ((cA T na mo nm rs D mny nA rA) ++ (cN T x1 x2 x3 N f g)) s.heap.size) ((cA T na mo nm rs D mny nA rA) ++ (cN T x1 x2 x3 N f g)) → va_S (va_A ((cA T na mo nm rs D mny nA rA) ++ (cN T x1 x2 x3 N f g)) s.heap.size) s.heap H locs → lv_has ls 6 [(0, .ref na), (1, .ref x1), (2, .int p1), (3, .int (eO o)), (4, .int (nI i))] → W p l e (headSpec wsX2_bestBidder ({ frames := 1, cells := 0, slots := 0, locals := 22 } : Room)).room s m ([.ref na, .ref x1, .int p1] : List Value).toArray below meth c H locs 0 0 (MQ below (QX2_bestBidder G T na mo nm rs D mny nA rA x1 x2 x3 N f g p1 s.heap.size) ([.ref na, .ref x1, .int p1] : List Value).toArray s 0 0 (va_A ((cA T na mo nm rs D mny nA rA) ++ (cN T x1 x2 x3 N f g)) s.heap.size)) (F0 m 5 ls []) := by
    intro n9
    induction n9 with
    | zero => intro i o H locs ls hi hm ho hb6 hP hD hS hl; exact absurd (hm) (by omega)
    | succ n9 ih5 =>
      intro i o H locs ls hi hm ho hb6 hP hD hS hl
      refine lv_iload hx hb dX2_bestBidder_5 (lv_at hl 4 rfl) ?_
      refine lv_bipush (v := 6) hx hb dX2_bestBidder_7 (by decide) ?_
      refine lv_icmp_ge (tgt := 80) hx hb dX2_bestBidder_9 (by decide) (fun c9 => ?_) (fun c9 => ?_)
      · skip
        have hge : i = 6 := by
          rcases Nat.lt_or_ge i 6 with q | q
          · exact absurd c9 (nI_ge (b := 6) q (by omega))
          · omega
        refine lv_iload_n hx hb dX2_bestBidder_80 rfl (lv_at hl 3 rfl) ?_
        exact W.iret (v := eO o) hx hb hr (fun t ht9 hW => ⟨⟨eO o, (), rfl, by rw [← hge, ho], gBi ht9 (gfin hP (rfl))⟩, hS.F ht9⟩) hS.2.2 dX2_bestBidder_81
      · skip
        have hlt : i < 6 := by
          rcases Nat.lt_or_ge i 6 with q | q
          · exact q
          · exact absurd (show (6 : Int32) ≤ nI i from nI_le (a := 6) q (by omega)) c9
        refine lv_iload hx hb dX2_bestBidder_12 (lv_at hl 4 rfl) ?_
        refine lv_iload_n hx hb dX2_bestBidder_14 rfl (lv_at hl 2 rfl) ?_
        refine lv_icmp_eq (tgt := 48) hx hb dX2_bestBidder_15 (by decide) (fun c15 => ?_) (fun c15 => ?_)
        · skip
          refine lv_iconst (v := 0) hx hb dX2_bestBidder_48 (by decide) ?_
          refine lv_istore (lv' := [(5, .int 0), (0, .ref na), (1, .ref x1), (2, .int p1), (3, .int (eO o)), (4, .int (nI i))]) hx hb dX2_bestBidder_49 hl (by decide) rfl (fun ls hl => ?_)
          refine lv_iload hx hb dX2_bestBidder_51 (lv_at hl 0 rfl) ?_
          refine lv_if_eq (tgt := 74) hx hb dX2_bestBidder_53 (by decide) (fun c53 => ?_) (fun c53 => ?_)
          · skip
            refine lv_iinc (v := nI (i + 1)) (lv' := [(4, .int (nI (i + 1))), (5, .int 0), (0, .ref na), (1, .ref x1), (2, .int p1), (3, .int (eO o))]) hx hb dX2_bestBidder_74 hl (k := 5) rfl (by first | rfl | exact (nI_add i 1)) (by decide) rfl (fun ls hl => ?_)
            refine lv_goto (tgt := 5) hx hb dX2_bestBidder_77 (by decide) ?_
            exact ih5 (i + 1) o _ _ _ (by omega) (by omega) (by simp [sBest, ho, c9, c15, c53]) hb6 hP hD hS (lv_sub hl [2, 3, 4, 5, 0] rfl)
          · exact absurd c53 (by decide)
        · skip
          refine lv_aload_n hx hb dX2_bestBidder_18 rfl (lv_at hl 1 rfl) ?_
          refine va_getN (D := G) (ci := 0) (v := .ref x2) (C := RX0) (T := TX0) (N := 11) hx hb hts hiRX0 hown hK hP 4 rfl rfl 9 (by decide) (va_Nw.use rfl (hE.1 (.fieldLinkNest RX2 54 "NameAuction$Name" "amounts" "[I" RX2) (by decide +kernel))) (fun _ h9 => h9) rfl dX2_bestBidder_19 ?_
          refine lv_iload hx hb dX2_bestBidder_22 (lv_at hl 4 rfl) ?_
          refine giald (j := i) hx hb hK hP 5 0 rfl rfl (show (nI i : Int32) = nI i from rfl) (by omega) (by decide) dX2_bestBidder_24 ?_
          refine lv_if_le (tgt := 48) hx hb dX2_bestBidder_25 (by decide) (fun c25 => ?_) (fun c25 => ?_)
          · skip
            refine lv_iconst (v := 0) hx hb dX2_bestBidder_48 (by decide) ?_
            refine lv_istore (lv' := [(5, .int 0), (0, .ref na), (1, .ref x1), (2, .int p1), (3, .int (eO o)), (4, .int (nI i))]) hx hb dX2_bestBidder_49 hl (by decide) rfl (fun ls hl => ?_)
            refine lv_iload hx hb dX2_bestBidder_51 (lv_at hl 0 rfl) ?_
            refine lv_if_eq (tgt := 74) hx hb dX2_bestBidder_53 (by decide) (fun c53 => ?_) (fun c53 => ?_)
            · skip
              refine lv_iinc (v := nI (i + 1)) (lv' := [(4, .int (nI (i + 1))), (5, .int 0), (0, .ref na), (1, .ref x1), (2, .int p1), (3, .int (eO o))]) hx hb dX2_bestBidder_74 hl (k := 5) rfl (by first | rfl | exact (nI_add i 1)) (by decide) rfl (fun ls hl => ?_)
              refine lv_goto (tgt := 5) hx hb dX2_bestBidder_77 (by decide) ?_
              exact ih5 (i + 1) o _ _ _ (by omega) (by omega) (by simp [sBest, ho, c9, c15, c25, c53]) hb6 hP hD hS (lv_sub hl [2, 3, 4, 5, 0] rfl)
            · exact absurd c53 (by decide)
          · skip
            refine lv_aload_n hx hb dX2_bestBidder_28 rfl (lv_at hl 0 rfl) ?_
            refine lv_iload hx hb dX2_bestBidder_29 (lv_at hl 4 rfl) ?_
            refine lv_aload_n hx hb dX2_bestBidder_31 rfl (lv_at hl 1 rfl) ?_
            refine va_getN (D := G) (ci := 0) (v := .ref x2) (C := RX0) (T := TX0) (N := 11) hx hb hts hiRX0 hown hK hP 4 rfl rfl 9 (by decide) (va_Nw.use rfl (hE.1 (.fieldLinkNest RX2 54 "NameAuction$Name" "amounts" "[I" RX2) (by decide +kernel))) (fun _ h9 => h9) rfl dX2_bestBidder_32 ?_
            refine lv_iload hx hb dX2_bestBidder_35 (lv_at hl 4 rfl) ?_
            refine giald (j := i) hx hb hK hP 5 0 rfl rfl (show (nI i : Int32) = nI i from rfl) (by omega) (by decide) dX2_bestBidder_37 ?_
            refine gci (va_runV (As := [.int (nI i), .int (f i)]) (rest := []) ⟨hx, hb, hml, hown, hts⟩ (kX2_canPay l G T na mo nm rs D mny nA rA (nI i) (f i) _) (cwV 2 hts gX2_bestBidder_X2_canPay rfl rfl rfl (by decide +kernel) ⟨Nat.le_of_ble_eq_true rfl, Nat.le_of_ble_eq_true rfl⟩) ⟨gblind, va_recv hK hP (ci := 2) (q0 := 0) rfl rfl, gpre hE hK hP hD hS hA [0, 1, 2, 3] rfl rfl⟩ rfl rfl hl.1 rfl (lv_room (Nat.le_of_ble_eq_true rfl)) dX2_bestBidder_38 ⟨Nat.le_of_ble_eq_true rfl, Nat.le_of_ble_eq_true rfl⟩) hP hD hS hA [0, 1, 2, 3] rfl rfl (fun r9 H locs hw hP hD hS => ?_)
            have hP : va_P G vwCl ((cA T na mo nm rs D mny nA rA) ++ (cN T x1 x2 x3 N f g)) H := hP
            have hD : va_D (va_A ((cA T na mo nm rs D mny nA rA) ++ (cN T x1 x2 x3 N f g)) s.heap.size) ((cA T na mo nm rs D mny nA rA) ++ (cN T x1 x2 x3 N f g)) := hD
            subst hw
            refine lv_if_eq (tgt := 48) hx hb dX2_bestBidder_41 (by decide) (fun c41 => ?_) (fun c41 => ?_)
            · skip
              refine lv_iconst (v := 0) hx hb dX2_bestBidder_48 (by decide) ?_
              refine lv_istore (lv' := [(5, .int 0), (0, .ref na), (1, .ref x1), (2, .int p1), (3, .int (eO o)), (4, .int (nI i))]) hx hb dX2_bestBidder_49 hl (by decide) rfl (fun ls hl => ?_)
              refine lv_iload hx hb dX2_bestBidder_51 (lv_at hl 0 rfl) ?_
              refine lv_if_eq (tgt := 74) hx hb dX2_bestBidder_53 (by decide) (fun c53 => ?_) (fun c53 => ?_)
              · skip
                refine lv_iinc (v := nI (i + 1)) (lv' := [(4, .int (nI (i + 1))), (5, .int 0), (0, .ref na), (1, .ref x1), (2, .int p1), (3, .int (eO o))]) hx hb dX2_bestBidder_74 hl (k := 5) rfl (by first | rfl | exact (nI_add i 1)) (by decide) rfl (fun ls hl => ?_)
                refine lv_goto (tgt := 5) hx hb dX2_bestBidder_77 (by decide) ?_
                exact ih5 (i + 1) o _ _ _ (by omega) (by omega) (by simp [sBest, ho, c9, c15, c25, c41, c53]) hb6 hP hD hS (lv_sub hl [2, 3, 4, 5, 0] rfl)
              · exact absurd c53 (by decide)
            · skip
              refine lv_iconst (v := 1) hx hb dX2_bestBidder_44 (by decide) ?_
              refine lv_goto (tgt := 49) hx hb dX2_bestBidder_45 (by decide) ?_
              refine lv_istore (lv' := [(5, .int 1), (0, .ref na), (1, .ref x1), (2, .int p1), (3, .int (eO o)), (4, .int (nI i))]) hx hb dX2_bestBidder_49 hl (by decide) rfl (fun ls hl => ?_)
              refine lv_iload hx hb dX2_bestBidder_51 (lv_at hl 0 rfl) ?_
              refine lv_if_eq (tgt := 74) hx hb dX2_bestBidder_53 (by decide) (fun c53 => ?_) (fun c53 => ?_)
              · exact absurd c53 (by decide)
              · skip
                refine lv_iload_n hx hb dX2_bestBidder_56 rfl (lv_at hl 4 rfl) ?_
                refine lv_iconst (v := (-1)) hx hb dX2_bestBidder_57 (by decide) ?_
                refine lv_icmp_eq (tgt := 71) hx hb dX2_bestBidder_58 (by decide) (fun c58 => ?_) (fun c58 => ?_)
                · skip
                  have ho2 : o = none := eO_none c58 hb6
                  refine lv_iload hx hb dX2_bestBidder_71 (lv_at hl 5 rfl) ?_
                  refine lv_istore_n (lv' := [(3, .int (nI i)), (5, .int 1), (0, .ref na), (1, .ref x1), (2, .int p1), (4, .int (nI i))]) hx hb dX2_bestBidder_73 rfl hl (by decide) rfl (fun ls hl => ?_)
                  refine lv_iinc (v := nI (i + 1)) (lv' := [(4, .int (nI (i + 1))), (3, .int (nI i)), (5, .int 1), (0, .ref na), (1, .ref x1), (2, .int p1)]) hx hb dX2_bestBidder_74 hl (k := 5) rfl (by first | rfl | exact (nI_add i 1)) (by decide) rfl (fun ls hl => ?_)
                  refine lv_goto (tgt := 5) hx hb dX2_bestBidder_77 (by decide) ?_
                  rw [show (nI i) = (eO (some i)) from rfl] at hl
                  exact ih5 (i + 1) (some i) _ _ _ (by omega) (by omega) (by simp [sBest, ho, c9, c15, c25, c41, c53, c58, ho2]) (fun b h => by cases h; omega) hP hD hS (lv_sub hl [3, 4, 5, 1, 0] rfl)
                · skip
                  obtain ⟨b, ho2, hb7⟩ := eO_some c58 hb6
                  refine lv_aload_n hx hb dX2_bestBidder_61 rfl (lv_at hl 2 rfl) ?_
                  refine lv_iload hx hb dX2_bestBidder_62 (lv_at hl 5 rfl) ?_
                  refine lv_iload_n hx hb dX2_bestBidder_64 rfl (lv_at hl 4 rfl) ?_
                  refine gtop (y := nI b) (by rw [ho2]; rfl) ?_
                  refine gci (va_runVN (As := [.int (nI i), .int (nI b)]) (rest := []) ⟨hx, hb, hml, hown, hts⟩ (kX0_isAhead l G T x1 x2 x3 N f g i b _ (by omega) (by omega)) ⟨(va_cnB 2 hts ggX2_bestBidder_X0_isAhead rfl rfl rfl (hE.1 (.methodLinkNest RX2 176 yX0_isAhead RX2) (by decide +kernel)) (hts (.initialized RX0) (by decide +kernel)) (by decide +kernel) ⟨Nat.le_of_ble_eq_true rfl, Nat.le_of_ble_eq_true rfl⟩), hts (.instanceMethod yX0_isAhead) (by decide +kernel), hts (.selects RX0 yX0_isAhead yX0_isAhead) (by decide +kernel)⟩ ⟨gblind, va_recv hK hP (ci := 0) (q0 := 4) rfl rfl, gpre hE hK hP hD hS hA [4, 5, 6] rfl rfl⟩ rfl rfl hl.1 rfl (lv_room (Nat.le_of_ble_eq_true rfl)) dX2_bestBidder_65 ⟨Nat.le_of_ble_eq_true rfl, Nat.le_of_ble_eq_true rfl⟩) hP hD hS hA [4, 5, 6] rfl rfl (fun r9 H locs hw hP hD hS => ?_)
                  have hP : va_P G vwCl ((cA T na mo nm rs D mny nA rA) ++ (cN T x1 x2 x3 N f g)) H := hP
                  have hD : va_D (va_A ((cA T na mo nm rs D mny nA rA) ++ (cN T x1 x2 x3 N f g)) s.heap.size) ((cA T na mo nm rs D mny nA rA) ++ (cN T x1 x2 x3 N f g)) := hD
                  subst hw
                  refine lv_if_eq (tgt := 74) hx hb dX2_bestBidder_68 (by decide) (fun c68 => ?_) (fun c68 => ?_)
                  · skip
                    refine lv_iinc (v := nI (i + 1)) (lv' := [(4, .int (nI (i + 1))), (5, .int 1), (0, .ref na), (1, .ref x1), (2, .int p1), (3, .int (eO o))]) hx hb dX2_bestBidder_74 hl (k := 5) rfl (by first | rfl | exact (nI_add i 1)) (by decide) rfl (fun ls hl => ?_)
                    refine lv_goto (tgt := 5) hx hb dX2_bestBidder_77 (by decide) ?_
                    exact ih5 (i + 1) o _ _ _ (by omega) (by omega) (by simp [sBest, ho, c9, c15, c25, c41, c53, c58, c68, ho2]) hb6 hP hD hS (lv_sub hl [2, 3, 4, 5, 0] rfl)
                  · skip
                    refine lv_iload hx hb dX2_bestBidder_71 (lv_at hl 5 rfl) ?_
                    refine lv_istore_n (lv' := [(3, .int (nI i)), (5, .int 1), (0, .ref na), (1, .ref x1), (2, .int p1), (4, .int (nI i))]) hx hb dX2_bestBidder_73 rfl hl (by decide) rfl (fun ls hl => ?_)
                    refine lv_iinc (v := nI (i + 1)) (lv' := [(4, .int (nI (i + 1))), (3, .int (nI i)), (5, .int 1), (0, .ref na), (1, .ref x1), (2, .int p1)]) hx hb dX2_bestBidder_74 hl (k := 5) rfl (by first | rfl | exact (nI_add i 1)) (by decide) rfl (fun ls hl => ?_)
                    refine lv_goto (tgt := 5) hx hb dX2_bestBidder_77 (by decide) ?_
                    rw [show (nI i) = (eO (some i)) from rfl] at hl
                    exact ih5 (i + 1) (some i) _ _ _ (by omega) (by omega) (by simp [sBest, ho, c9, c15, c25, c41, c53, c58, c68, ho2]) (fun b h => by cases h; omega) hP hD hS (lv_sub hl [3, 4, 5, 1, 0] rfl)
  rw [show ((-1)) = (eO none) from rfl] at hl
  exact J5 7 0 none _ _ _ (by omega) (by omega) rfl (fun b h => nomatch h) hP hD hS (lv_sub hl [2, 3, 4, 1, 0] rfl)
abbrev PX2_closeAuction (G : va_G) (T : Nat → ClassId) (na mo nm rs : Nat) (D mny : Nat → Int32) (nA rA : Nat → Nat) (x1 x2 x3 : Nat) (N f g : Nat → Int32) (sz : Nat) : Array Value → State → Prop := gPc G T [.ref na, .ref x1] ((cA T na mo nm rs D mny nA rA) ++ (cN T x1 x2 x3 N f g)) sz
abbrev QX2_closeAuction (G : va_G) (T : Nat → ClassId) (na mo nm rs : Nat) (D mny : Nat → Int32) (nA rA : Nat → Nat) (x1 x2 x3 : Nat) (N f g : Nat → Int32) (sz : Nat) : Array Value → State → Outcome → State → Prop := va_Qi (fun (r : Int32) (_ : Unit) => r = sClR f g mny) (gB G ((cA T na mo nm rs (sClD D f g mny) (sClM f g mny) nA rA) ++ (cN T x1 x2 x3 (sClN D N f g mny) (fun _ => 0) g))) (va_A ((cA T na mo nm rs D mny nA rA) ++ (cN T x1 x2 x3 N f g)) sz)
set_option maxHeartbeats 4000000 in
set_option maxRecDepth 100000 in
theorem kX2_closeAuction (l : Launch) (G : va_G) (T : Nat → ClassId) (na mo nm rs : Nat) (D mny : Nat → Int32) (nA rA : Nat → Nat) (x1 x2 x3 : Nat) (N f g : Nat → Int32) (sz : Nat)  : Met l yX2_closeAuction wsX2_closeAuction ({ frames := 3, cells := 0, slots := 0, locals := 65 } : Room) (PX2_closeAuction G T na mo nm rs D mny nA rA x1 x2 x3 N f g sz) (QX2_closeAuction G T na mo nm rs D mny nA rA x1 x2 x3 N f g sz) 0 0 (va_A ((cA T na mo nm rs D mny nA rA) ++ (cN T x1 x2 x3 N f g)) sz) := by
  refine Met.ofW (cc := cX2_closeAuction) (maxL := 4) (ret := (some .boolean)) (by decide) rfl ?_
  intro p e s m args below meth c s₁ B hml hv
  obtain ⟨rfl, hsz, hP, hK, hD0, hE⟩ := hv
  have hx := B.exec
  have hb := B.bytes
  have hr := B.returns
  have hts := atoms_spec (ws := wsX2_closeAuction) B.pre
  have hown : s.vm.findClass RX2 = some m.cls := findClass_of_methodNamed B.named
  have hlocks := B.notSynchronized
  subst hsz
  have hD := hD0.self (sz := s.heap.size)
  have hA : ∀ q : Nat, s.heap.size ≤ q → (va_A ((cA T na mo nm rs D mny nA rA) ++ (cN T x1 x2 x3 N f g)) s.heap.size) q := fun q h => Or.inr h
  have hS : va_S (va_A ((cA T na mo nm rs D mny nA rA) ++ (cN T x1 x2 x3 N f g)) s.heap.size) s.heap s.heap [] := va_S.rf
  have hiRX0 : ∀ w ∈ u_ws RX0 TX0 11, w ∈ wsX2_closeAuction := by decide +kernel
  have hiRX2 : ∀ w ∈ u_ws RX2 TX2 6, w ∈ wsX2_closeAuction := by decide +kernel
  have hl := lv_entry ([.ref na, .ref x1]) (n := 4) (Nat.le_of_ble_eq_true rfl)
  rw [lg_entry_eq]
  generalize (lg_sl ([.ref na, .ref x1]) ++ List.replicate (4 - (lg_sl ([.ref na, .ref x1])).length) Slot.unset).toArray = ls at hl ⊢
  have hl : lv_has ls 4 [(0, .ref na), (1, .ref x1)] := hl
  have hP : va_P G vwCl ((cA T na mo nm rs D mny nA rA) ++ (cN T x1 x2 x3 N f g)) s.heap := hP
  refine lv_aload_n hx hb dX2_closeAuction_0 rfl (lv_at hl 0 rfl) ?_
  refine lv_aload_n hx hb dX2_closeAuction_1 rfl (lv_at hl 1 rfl) ?_
  refine lv_iconst (v := (-1)) hx hb dX2_closeAuction_2 (by decide) ?_
  refine gci (va_runV (As := [.ref x1, .int (-1)]) (rest := []) ⟨hx, hb, hml, hown, hts⟩ (kX2_bestBidder l G T na mo nm rs D mny nA rA x1 x2 x3 N f g (-1) _) (cwV 2 hts gX2_closeAuction_X2_bestBidder rfl rfl rfl (by decide +kernel) ⟨Nat.le_of_ble_eq_true rfl, Nat.le_of_ble_eq_true rfl⟩) ⟨gblind, va_recv hK hP (ci := 2) (q0 := 0) rfl rfl, gpre hE hK hP hD hS hA [0, 1, 2, 3, 4, 5, 6] rfl rfl⟩ rfl rfl hl.1 rfl (lv_room (Nat.le_of_ble_eq_true rfl)) dX2_closeAuction_3 ⟨Nat.le_of_ble_eq_true rfl, Nat.le_of_ble_eq_true rfl⟩) hP hD hS hA [0, 1, 2, 3, 4, 5, 6] rfl rfl (fun r9 H locs hw hP hD hS => ?_)
  have hP : va_P G vwCl ((cA T na mo nm rs D mny nA rA) ++ (cN T x1 x2 x3 N f g)) H := hP
  have hD : va_D (va_A ((cA T na mo nm rs D mny nA rA) ++ (cN T x1 x2 x3 N f g)) s.heap.size) ((cA T na mo nm rs D mny nA rA) ++ (cN T x1 x2 x3 N f g)) := hD
  subst hw
  refine lv_istore_n (lv' := [(2, .int (eO (sBest f g mny (-1) 6))), (0, .ref na), (1, .ref x1)]) hx hb dX2_closeAuction_6 rfl hl (by decide) rfl (fun ls hl => ?_)
  refine lv_iload_n hx hb dX2_closeAuction_7 rfl (lv_at hl 0 rfl) ?_
  refine lv_iconst (v := (-1)) hx hb dX2_closeAuction_8 (by decide) ?_
  refine lv_icmp_ne (tgt := 18) hx hb dX2_closeAuction_9 (by decide) (fun c9 => ?_) (fun c9 => ?_)
  · skip
    obtain ⟨w, hw2, hw26⟩ := eO_some c9 (fun b h => sBest_lt h)
    rw [show eO (sBest f g mny (-1) 6) = nI w from by rw [hw2]; rfl] at hl
    refine lv_aload_n hx hb dX2_closeAuction_18 rfl (lv_at hl 1 rfl) ?_
    refine lv_aload_n hx hb dX2_closeAuction_19 rfl (lv_at hl 2 rfl) ?_
    refine lv_iload_n hx hb dX2_closeAuction_20 rfl (lv_at hl 0 rfl) ?_
    refine gci (va_runV (As := [.ref x1, .int (nI w)]) (rest := []) ⟨hx, hb, hml, hown, hts⟩ (kX2_bestBidder l G T na mo nm rs D mny nA rA x1 x2 x3 N f g (nI w) _) (cwV 2 hts gX2_closeAuction_X2_bestBidder rfl rfl rfl (by decide +kernel) ⟨Nat.le_of_ble_eq_true rfl, Nat.le_of_ble_eq_true rfl⟩) ⟨gblind, va_recv hK hP (ci := 2) (q0 := 0) rfl rfl, gpre hE hK hP hD hS hA [0, 1, 2, 3, 4, 5, 6] rfl rfl⟩ rfl rfl hl.1 rfl (lv_room (Nat.le_of_ble_eq_true rfl)) dX2_closeAuction_21 ⟨Nat.le_of_ble_eq_true rfl, Nat.le_of_ble_eq_true rfl⟩) hP hD hS hA [0, 1, 2, 3, 4, 5, 6] rfl rfl (fun r9 H locs hw hP hD hS => ?_)
    have hP : va_P G vwCl ((cA T na mo nm rs D mny nA rA) ++ (cN T x1 x2 x3 N f g)) H := hP
    have hD : va_D (va_A ((cA T na mo nm rs D mny nA rA) ++ (cN T x1 x2 x3 N f g)) s.heap.size) ((cA T na mo nm rs D mny nA rA) ++ (cN T x1 x2 x3 N f g)) := hD
    subst hw
    refine lv_istore_n (lv' := [(3, .int (eO (sBest f g mny (nI w) 6))), (2, .int (nI w)), (0, .ref na), (1, .ref x1)]) hx hb dX2_closeAuction_24 rfl hl (by decide) rfl (fun ls hl => ?_)
    refine lv_aload_n hx hb dX2_closeAuction_25 rfl (lv_at hl 2 rfl) ?_
    refine lv_iload_n hx hb dX2_closeAuction_26 rfl (lv_at hl 1 rfl) ?_
    refine lv_iload_n hx hb dX2_closeAuction_27 rfl (lv_at hl 0 rfl) ?_
    refine lv_iconst (v := (-1)) hx hb dX2_closeAuction_28 (by decide) ?_
    refine lv_icmp_ne (tgt := 37) hx hb dX2_closeAuction_29 (by decide) (fun c29 => ?_) (fun c29 => ?_)
    · skip
      obtain ⟨r, hr2, hr26⟩ := eO_some c29 (fun b h => sBest_lt h)
      rw [show eO (sBest f g mny (nI w) 6) = nI r from by rw [hr2]; rfl] at hl
      refine lv_aload_n hx hb dX2_closeAuction_37 rfl (lv_at hl 3 rfl) ?_
      refine va_getN (D := G) (ci := 0) (v := .ref x2) (C := RX0) (T := TX0) (N := 11) hx hb hts hiRX0 hown hK hP 4 rfl rfl 9 (by decide) (va_Nw.use rfl (hE.1 (.fieldLinkNest RX2 54 "NameAuction$Name" "amounts" "[I" RX2) (by decide +kernel))) (fun _ h9 => h9) rfl dX2_closeAuction_38 ?_
      refine lv_iload_n hx hb dX2_closeAuction_41 rfl (lv_at hl 0 rfl) ?_
      refine giald (j := r) hx hb hK hP 5 0 rfl rfl (show (nI r : Int32) = nI r from rfl) (by omega) (by decide) dX2_closeAuction_42 ?_
      refine gcv (va_runV (As := [.int (nI w), .int (f r)]) (rest := []) ⟨hx, hb, hml, hown, hts⟩ (kX2_pay l G T na mo nm rs D mny nA rA (nI w) (f r) _) (cwV 2 hts gX2_closeAuction_X2_pay rfl rfl rfl (by decide +kernel) ⟨Nat.le_of_ble_eq_true rfl, Nat.le_of_ble_eq_true rfl⟩) ⟨gblind, va_recv hK hP (ci := 2) (q0 := 0) rfl rfl, gpre hE hK hP hD hS hA [0, 1, 2, 3] rfl rfl⟩ rfl rfl hl.1 rfl (lv_room (Nat.le_of_ble_eq_true rfl)) dX2_closeAuction_43 ⟨Nat.le_of_ble_eq_true rfl, Nat.le_of_ble_eq_true rfl⟩) hP hD hS hA [0, 1, 2, 3] rfl rfl (fun H locs hw hP hD hS => ?_)
      have hP : va_P G vwCl ((cA T na mo nm rs (sPayD D mny (nI w) (f r)) (sPayF mny (nI w) (f r)) nA rA) ++ (cN T x1 x2 x3 N f g)) H := hP
      have hD : va_D (va_A ((cA T na mo nm rs D mny nA rA) ++ (cN T x1 x2 x3 N f g)) s.heap.size) ((cA T na mo nm rs (sPayD D mny (nI w) (f r)) (sPayF mny (nI w) (f r)) nA rA) ++ (cN T x1 x2 x3 N f g)) := hD
      refine lv_aload_n hx hb dX2_closeAuction_46 rfl (lv_at hl 3 rfl) ?_
      refine lv_iload_n hx hb dX2_closeAuction_47 rfl (lv_at hl 1 rfl) ?_
      refine lv_aload_n hx hb dX2_closeAuction_48 rfl (lv_at hl 2 rfl) ?_
      refine va_get (D := G) (ci := 2) (v := .int ((sPayD D mny (nI w) (f r)) 3)) (C := RX2) (T := TX2) (N := 6) hx hb hts hiRX2 hown hK hP 0 rfl rfl 3 (by decide) (hts (.fieldLink RX2 44 "NameAuction" "day" "I") (by decide +kernel)) (fun _ h9 => h9) rfl dX2_closeAuction_49 ?_
      refine gcv (va_runVN (As := [.int (nI w), .int ((sPayD D mny (nI w) (f r)) 3)]) (rest := []) ⟨hx, hb, hml, hown, hts⟩ (kX0_leaseTo l G T x1 x2 x3 N f g (nI w) ((sPayD D mny (nI w) (f r)) 3) _) ⟨(va_cnB 2 hts ggX2_closeAuction_X0_leaseTo rfl rfl rfl (hE.1 (.methodLinkNest RX2 84 yX0_leaseTo RX2) (by decide +kernel)) (hts (.initialized RX0) (by decide +kernel)) (by decide +kernel) ⟨Nat.le_of_ble_eq_true rfl, Nat.le_of_ble_eq_true rfl⟩), hts (.instanceMethod yX0_leaseTo) (by decide +kernel), hts (.selects RX0 yX0_leaseTo yX0_leaseTo) (by decide +kernel)⟩ ⟨gblind, va_recv hK hP (ci := 0) (q0 := 4) rfl rfl, gpre hE hK hP hD hS hA [4, 5, 6] rfl rfl⟩ rfl rfl hl.1 rfl (lv_room (Nat.le_of_ble_eq_true rfl)) dX2_closeAuction_52 ⟨Nat.le_of_ble_eq_true rfl, Nat.le_of_ble_eq_true rfl⟩) hP hD hS hA [4, 5, 6] rfl rfl (fun H locs hw hP hD hS => ?_)
      have hP : va_P G vwCl ((cA T na mo nm rs (sPayD D mny (nI w) (f r)) (sPayF mny (nI w) (f r)) nA rA) ++ (cN T x1 x2 x3 (upd (upd (upd (upd (upd N 0 2) 1 (nI w)) 3 (((sPayD D mny (nI w) (f r)) 3) + 100)) 4 0) 5 10) (fun _ => 0) g)) H := hP
      have hD : va_D (va_A ((cA T na mo nm rs D mny nA rA) ++ (cN T x1 x2 x3 N f g)) s.heap.size) ((cA T na mo nm rs (sPayD D mny (nI w) (f r)) (sPayF mny (nI w) (f r)) nA rA) ++ (cN T x1 x2 x3 (upd (upd (upd (upd (upd N 0 2) 1 (nI w)) 3 (((sPayD D mny (nI w) (f r)) 3) + 100)) 4 0) 5 10) (fun _ => 0) g)) := hD
      refine lv_iconst (v := 1) hx hb dX2_closeAuction_55 (by decide) ?_
      exact W.zret (v := 1) hx hb hr (by decide) (fun t ht9 hW => ⟨⟨1, (), rfl, by simp [sClR, c9, c29, hw2, hr2], gBi ht9 (gfin hP (by simp [sClD, sClM, sClN, sPrice, c9, c29, hw2, hr2]))⟩, hS.F ht9⟩) hS.2.2 dX2_closeAuction_56
    · skip
      have hr2 := eO_none c29 (fun b h => sBest_lt h)
      refine lv_bipush (v := 10) hx hb dX2_closeAuction_32 (by decide) ?_
      refine lv_goto (tgt := 43) hx hb dX2_closeAuction_34 (by decide) ?_
      refine gcv (va_runV (As := [.int (nI w), .int 10]) (rest := []) ⟨hx, hb, hml, hown, hts⟩ (kX2_pay l G T na mo nm rs D mny nA rA (nI w) 10 _) (cwV 2 hts gX2_closeAuction_X2_pay rfl rfl rfl (by decide +kernel) ⟨Nat.le_of_ble_eq_true rfl, Nat.le_of_ble_eq_true rfl⟩) ⟨gblind, va_recv hK hP (ci := 2) (q0 := 0) rfl rfl, gpre hE hK hP hD hS hA [0, 1, 2, 3] rfl rfl⟩ rfl rfl hl.1 rfl (lv_room (Nat.le_of_ble_eq_true rfl)) dX2_closeAuction_43 ⟨Nat.le_of_ble_eq_true rfl, Nat.le_of_ble_eq_true rfl⟩) hP hD hS hA [0, 1, 2, 3] rfl rfl (fun H locs hw hP hD hS => ?_)
      have hP : va_P G vwCl ((cA T na mo nm rs (sPayD D mny (nI w) 10) (sPayF mny (nI w) 10) nA rA) ++ (cN T x1 x2 x3 N f g)) H := hP
      have hD : va_D (va_A ((cA T na mo nm rs D mny nA rA) ++ (cN T x1 x2 x3 N f g)) s.heap.size) ((cA T na mo nm rs (sPayD D mny (nI w) 10) (sPayF mny (nI w) 10) nA rA) ++ (cN T x1 x2 x3 N f g)) := hD
      refine lv_aload_n hx hb dX2_closeAuction_46 rfl (lv_at hl 3 rfl) ?_
      refine lv_iload_n hx hb dX2_closeAuction_47 rfl (lv_at hl 1 rfl) ?_
      refine lv_aload_n hx hb dX2_closeAuction_48 rfl (lv_at hl 2 rfl) ?_
      refine va_get (D := G) (ci := 2) (v := .int ((sPayD D mny (nI w) 10) 3)) (C := RX2) (T := TX2) (N := 6) hx hb hts hiRX2 hown hK hP 0 rfl rfl 3 (by decide) (hts (.fieldLink RX2 44 "NameAuction" "day" "I") (by decide +kernel)) (fun _ h9 => h9) rfl dX2_closeAuction_49 ?_
      refine gcv (va_runVN (As := [.int (nI w), .int ((sPayD D mny (nI w) 10) 3)]) (rest := []) ⟨hx, hb, hml, hown, hts⟩ (kX0_leaseTo l G T x1 x2 x3 N f g (nI w) ((sPayD D mny (nI w) 10) 3) _) ⟨(va_cnB 2 hts ggX2_closeAuction_X0_leaseTo rfl rfl rfl (hE.1 (.methodLinkNest RX2 84 yX0_leaseTo RX2) (by decide +kernel)) (hts (.initialized RX0) (by decide +kernel)) (by decide +kernel) ⟨Nat.le_of_ble_eq_true rfl, Nat.le_of_ble_eq_true rfl⟩), hts (.instanceMethod yX0_leaseTo) (by decide +kernel), hts (.selects RX0 yX0_leaseTo yX0_leaseTo) (by decide +kernel)⟩ ⟨gblind, va_recv hK hP (ci := 0) (q0 := 4) rfl rfl, gpre hE hK hP hD hS hA [4, 5, 6] rfl rfl⟩ rfl rfl hl.1 rfl (lv_room (Nat.le_of_ble_eq_true rfl)) dX2_closeAuction_52 ⟨Nat.le_of_ble_eq_true rfl, Nat.le_of_ble_eq_true rfl⟩) hP hD hS hA [4, 5, 6] rfl rfl (fun H locs hw hP hD hS => ?_)
      have hP : va_P G vwCl ((cA T na mo nm rs (sPayD D mny (nI w) 10) (sPayF mny (nI w) 10) nA rA) ++ (cN T x1 x2 x3 (upd (upd (upd (upd (upd N 0 2) 1 (nI w)) 3 (((sPayD D mny (nI w) 10) 3) + 100)) 4 0) 5 10) (fun _ => 0) g)) H := hP
      have hD : va_D (va_A ((cA T na mo nm rs D mny nA rA) ++ (cN T x1 x2 x3 N f g)) s.heap.size) ((cA T na mo nm rs (sPayD D mny (nI w) 10) (sPayF mny (nI w) 10) nA rA) ++ (cN T x1 x2 x3 (upd (upd (upd (upd (upd N 0 2) 1 (nI w)) 3 (((sPayD D mny (nI w) 10) 3) + 100)) 4 0) 5 10) (fun _ => 0) g)) := hD
      refine lv_iconst (v := 1) hx hb dX2_closeAuction_55 (by decide) ?_
      exact W.zret (v := 1) hx hb hr (by decide) (fun t ht9 hW => ⟨⟨1, (), rfl, by simp [sClR, c9, c29, hw2, hr2], gBi ht9 (gfin hP (by simp [sClD, sClM, sClN, sPrice, c9, c29, hw2, hr2]))⟩, hS.F ht9⟩) hS.2.2 dX2_closeAuction_56
  · skip
    have hw2 := eO_none c9 (fun b h => sBest_lt h)
    refine lv_aload_n hx hb dX2_closeAuction_12 rfl (lv_at hl 2 rfl) ?_
    refine gcv (va_runVN (As := []) (rest := []) ⟨hx, hb, hml, hown, hts⟩ (kX0_release l G T x1 x2 x3 N f g _) ⟨(va_cnB 0 hts ggX2_closeAuction_X0_release rfl rfl rfl (hE.1 (.methodLinkNest RX2 173 yX0_release RX2) (by decide +kernel)) (hts (.initialized RX0) (by decide +kernel)) (by decide +kernel) ⟨Nat.le_of_ble_eq_true rfl, Nat.le_of_ble_eq_true rfl⟩), hts (.instanceMethod yX0_release) (by decide +kernel), hts (.selects RX0 yX0_release yX0_release) (by decide +kernel)⟩ ⟨gblind, va_recv hK hP (ci := 0) (q0 := 4) rfl rfl, gpre hE hK hP hD hS hA [4, 5, 6] rfl rfl⟩ rfl rfl hl.1 rfl (lv_room (Nat.le_of_ble_eq_true rfl)) dX2_closeAuction_13 ⟨Nat.le_of_ble_eq_true rfl, Nat.le_of_ble_eq_true rfl⟩) hP hD hS hA [4, 5, 6] rfl rfl (fun H locs hw hP hD hS => ?_)
    have hP : va_P G vwCl ((cA T na mo nm rs D mny nA rA) ++ (cN T x1 x2 x3 (upd (upd N 0 0) 1 (-1)) (fun _ => 0) g)) H := hP
    have hD : va_D (va_A ((cA T na mo nm rs D mny nA rA) ++ (cN T x1 x2 x3 N f g)) s.heap.size) ((cA T na mo nm rs D mny nA rA) ++ (cN T x1 x2 x3 (upd (upd N 0 0) 1 (-1)) (fun _ => 0) g)) := hD
    refine lv_iconst (v := 0) hx hb dX2_closeAuction_16 (by decide) ?_
    exact W.zret (v := 0) hx hb hr (by decide) (fun t ht9 hW => ⟨⟨0, (), rfl, by simp [sClR, c9, hw2], gBi ht9 (gfin hP (by simp [sClD, sClM, sClN, sPrice, c9, hw2]))⟩, hS.F ht9⟩) hS.2.2 dX2_closeAuction_17
/-- the sixteen names -/
abbrev cNs (T : Nat → ClassId) (x1 x2 x3 : Nat → Nat) (N f g : Nat → Nat → Int32) : va_W := cN T (x1 0) (x2 0) (x3 0) (N 0) (f 0) (g 0) ++ (cN T (x1 1) (x2 1) (x3 1) (N 1) (f 1) (g 1) ++ (cN T (x1 2) (x2 2) (x3 2) (N 2) (f 2) (g 2) ++ (cN T (x1 3) (x2 3) (x3 3) (N 3) (f 3) (g 3) ++ (cN T (x1 4) (x2 4) (x3 4) (N 4) (f 4) (g 4) ++ (cN T (x1 5) (x2 5) (x3 5) (N 5) (f 5) (g 5) ++ (cN T (x1 6) (x2 6) (x3 6) (N 6) (f 6) (g 6) ++ (cN T (x1 7) (x2 7) (x3 7) (N 7) (f 7) (g 7) ++ (cN T (x1 8) (x2 8) (x3 8) (N 8) (f 8) (g 8) ++ (cN T (x1 9) (x2 9) (x3 9) (N 9) (f 9) (g 9) ++ (cN T (x1 10) (x2 10) (x3 10) (N 10) (f 10) (g 10) ++ (cN T (x1 11) (x2 11) (x3 11) (N 11) (f 11) (g 11) ++ (cN T (x1 12) (x2 12) (x3 12) (N 12) (f 12) (g 12) ++ (cN T (x1 13) (x2 13) (x3 13) (N 13) (f 13) (g 13) ++ (cN T (x1 14) (x2 14) (x3 14) (N 14) (f 14) (g 14) ++ (cN T (x1 15) (x2 15) (x3 15) (N 15) (f 15) (g 15))))))))))))))))
theorem cS_fst {T : Nat → ClassId} {na mo nm rs : Nat} {D mny : Nat → Int32} {nA rA : Nat → Nat} {x1 x2 x3 : Nat → Nat} {N f g : Nat → Nat → Int32} {D1 m1 : Nat → Int32} {N1 f1 g1 : Nat → Nat → Int32} : (cA T na mo nm rs D1 m1 nA rA ++ cNs T x1 x2 x3 N1 f1 g1).map Prod.fst = (cA T na mo nm rs D mny nA rA ++ cNs T x1 x2 x3 N f g).map Prod.fst := rfl
set_option maxRecDepth 100000 in
set_option maxHeartbeats 4000000 in
theorem cNs_at {T : Nat → ClassId} {na mo nm rs : Nat} {D mny : Nat → Int32} {nA rA : Nat → Nat} {x1 x2 x3 : Nat → Nat} {N f g : Nat → Nat → Int32} : ∀ {i : Nat}, i < 16 → (cA T na mo nm rs D mny nA rA ++ cNs T x1 x2 x3 N f g)[4 + 3 * i]? = some (x1 i, .inr (0, [.int (N i 0), .int (N i 1), .int (N i 2), .int (N i 3), .int (N i 4), .int (N i 5), .int (N i 6), .int (N i 7), .int (N i 8), .ref (x2 i), .ref (x3 i)]))
  | 0, _ => rfl
  | 1, _ => rfl
  | 2, _ => rfl
  | 3, _ => rfl
  | 4, _ => rfl
  | 5, _ => rfl
  | 6, _ => rfl
  | 7, _ => rfl
  | 8, _ => rfl
  | 9, _ => rfl
  | 10, _ => rfl
  | 11, _ => rfl
  | 12, _ => rfl
  | 13, _ => rfl
  | 14, _ => rfl
  | 15, _ => rfl
  | n + 16, h => absurd h (by omega)
set_option maxRecDepth 100000 in
set_option maxHeartbeats 4000000 in
theorem cNs_cut {T : Nat → ClassId} {na mo nm rs : Nat} {D mny : Nat → Int32} {nA rA : Nat → Nat} {x1 x2 x3 : Nat → Nat} {N f g : Nat → Nat → Int32} : ∀ {i : Nat}, i < 16 → [4 + 3 * i, 5 + 3 * i, 6 + 3 * i].map (fun k => (cA T na mo nm rs D mny nA rA ++ cNs T x1 x2 x3 N f g)[k]?) = (cN T (x1 i) (x2 i) (x3 i) (N i) (f i) (g i)).map some
  | 0, _ => rfl
  | 1, _ => rfl
  | 2, _ => rfl
  | 3, _ => rfl
  | 4, _ => rfl
  | 5, _ => rfl
  | 6, _ => rfl
  | 7, _ => rfl
  | 8, _ => rfl
  | 9, _ => rfl
  | 10, _ => rfl
  | 11, _ => rfl
  | 12, _ => rfl
  | 13, _ => rfl
  | 14, _ => rfl
  | 15, _ => rfl
  | n + 16, h => absurd h (by omega)
set_option maxRecDepth 100000 in
set_option maxHeartbeats 4000000 in
theorem cNs_cutA {T : Nat → ClassId} {na mo nm rs : Nat} {D mny : Nat → Int32} {nA rA : Nat → Nat} {x1 x2 x3 : Nat → Nat} {N f g : Nat → Nat → Int32} : ∀ {i : Nat}, i < 16 → [0, 1, 2, 3, 4 + 3 * i, 5 + 3 * i, 6 + 3 * i].map (fun k => (cA T na mo nm rs D mny nA rA ++ cNs T x1 x2 x3 N f g)[k]?) = (cA T na mo nm rs D mny nA rA ++ cN T (x1 i) (x2 i) (x3 i) (N i) (f i) (g i)).map some
  | 0, _ => rfl
  | 1, _ => rfl
  | 2, _ => rfl
  | 3, _ => rfl
  | 4, _ => rfl
  | 5, _ => rfl
  | 6, _ => rfl
  | 7, _ => rfl
  | 8, _ => rfl
  | 9, _ => rfl
  | 10, _ => rfl
  | 11, _ => rfl
  | 12, _ => rfl
  | 13, _ => rfl
  | 14, _ => rfl
  | 15, _ => rfl
  | n + 16, h => absurd h (by omega)
theorem cNs_nd (i : Nat) : va_nd [4 + 3 * i, 5 + 3 * i, 6 + 3 * i] = true := by simp [va_nd]
theorem cNs_ndA (i : Nat) : va_nd [0, 1, 2, 3, 4 + 3 * i, 5 + 3 * i, 6 + 3 * i] = true := by simp [va_nd]; omega
set_option maxRecDepth 100000 in
set_option maxHeartbeats 4000000 in
theorem cNs_rep {T : Nat → ClassId} {na mo nm rs : Nat} {D mny : Nat → Int32} {nA rA : Nat → Nat} {x1 x2 x3 : Nat → Nat} {N f g : Nat → Nat → Int32} {N1 f1 g1 : Nat → Int32} : ∀ {i : Nat}, i < 16 → gRep (cA T na mo nm rs D mny nA rA ++ cNs T x1 x2 x3 N f g) [4 + 3 * i, 5 + 3 * i, 6 + 3 * i] (cN T (x1 i) (x2 i) (x3 i) N1 f1 g1) = cA T na mo nm rs D mny nA rA ++ cNs T x1 x2 x3 (updA N i N1) (updA f i f1) (updA g i g1)
  | 0, _ => rfl
  | 1, _ => rfl
  | 2, _ => rfl
  | 3, _ => rfl
  | 4, _ => rfl
  | 5, _ => rfl
  | 6, _ => rfl
  | 7, _ => rfl
  | 8, _ => rfl
  | 9, _ => rfl
  | 10, _ => rfl
  | 11, _ => rfl
  | 12, _ => rfl
  | 13, _ => rfl
  | 14, _ => rfl
  | 15, _ => rfl
  | n + 16, h => absurd h (by omega)
set_option maxRecDepth 100000 in
set_option maxHeartbeats 4000000 in
theorem cNs_repA {T : Nat → ClassId} {na mo nm rs : Nat} {D mny : Nat → Int32} {nA rA : Nat → Nat} {x1 x2 x3 : Nat → Nat} {N f g : Nat → Nat → Int32} {D1 m1 N1 f1 g1 : Nat → Int32} : ∀ {i : Nat}, i < 16 → gRep (cA T na mo nm rs D mny nA rA ++ cNs T x1 x2 x3 N f g) [0, 1, 2, 3, 4 + 3 * i, 5 + 3 * i, 6 + 3 * i] (cA T na mo nm rs D1 m1 nA rA ++ cN T (x1 i) (x2 i) (x3 i) N1 f1 g1) = cA T na mo nm rs D1 m1 nA rA ++ cNs T x1 x2 x3 (updA N i N1) (updA f i f1) (updA g i g1)
  | 0, _ => rfl
  | 1, _ => rfl
  | 2, _ => rfl
  | 3, _ => rfl
  | 4, _ => rfl
  | 5, _ => rfl
  | 6, _ => rfl
  | 7, _ => rfl
  | 8, _ => rfl
  | 9, _ => rfl
  | 10, _ => rfl
  | 11, _ => rfl
  | 12, _ => rfl
  | 13, _ => rfl
  | 14, _ => rfl
  | 15, _ => rfl
  | n + 16, h => absurd h (by omega)
/-- the class over all names: D, the money, the names' ints, their amounts, auctions won -/
abbrev NS : Type := (Nat → Int32) × (Nat → Int32) × (Nat → Nat → Int32) × (Nat → Nat → Int32) × Int32
def sChg (g : Nat → Nat → Int32) : Nat → NS → NS
  | 0, S => S
  | i + 1, S => match sChg g i S with
    | (D, mny, N, f, w) =>
      if sDay (N i) = D 3 then
        (if N i 0 = 1 then (sClD D (f i) (g i) mny, sClM (f i) (g i) mny, updA N i (sClN D (N i) (f i) (g i) mny), updA f i (fun _ => 0), if sClR (f i) (g i) mny = 0 then w else w + 1)
         else (D, mny, updA N i (sGoOn (N i)), updA f i (sGoOnF (N i) (f i)), w))
      else (D, mny, N, f, w)
def sAdd (w : Int32) (R : NS) : NS := (R.1, R.2.1, R.2.2.1, R.2.2.2.1, w + R.2.2.2.2)
def sDay1 (g : Nat → Nat → Int32) (S : NS) : NS := sAdd S.2.2.2.2 (sChg g 16 (upd S.1 3 (S.1 3 + 1), S.2.1, S.2.2.1, S.2.2.2.1, 0))
def sDays (g : Nat → Nat → Int32) : Nat → NS → NS
  | 0, S => S
  | k + 1, S => sDay1 g (sDays g k S)
theorem sDays_step {g : Nat → Nat → Int32} {k : Nat} {S : NS} {D mny D2 m2 : Nat → Int32} {N f N2 f2 : Nat → Nat → Int32} {w w2 : Int32} (h1 : sDays g k S = (D, mny, N, f, w)) (h2 : sChg g 16 (upd D 3 (D 3 + 1), mny, N, f, 0) = (D2, m2, N2, f2, w2)) : sDays g (k + 1) S = (D2, m2, N2, f2, w + w2) := by
  rw [sDays, h1]
  show sAdd w (sChg g 16 (upd D 3 (D 3 + 1), mny, N, f, 0)) = _
  rw [h2]
  rfl
theorem okR_nat {x : Int32} (h : okR x 1 200 = true) : ∃ n : Nat, n < 2 ^ 31 ∧ x = nI n := by
  obtain ⟨h1, -⟩ := okR_of h
  refine nI_of (fun z => h1 ?_)
  have e1 : (1 : Int32).toInt = 1 := rfl
  have e0 : (0 : Int32).toInt = 0 := rfl
  rw [Int32.lt_iff_toInt_lt] at z ⊢
  omega
def kDays (p0 : Int32) : Nat := if okR p0 1 200 then 0 else 2
abbrev PX2_changeNames (G : va_G) (T : Nat → ClassId) (na mo nm rs : Nat) (D mny : Nat → Int32) (rA : Nat → Nat) (x1 x2 x3 : Nat → Nat) (N f g : Nat → Nat → Int32) (sz : Nat) : Array Value → State → Prop := gPc G T [.ref na] ((cA T na mo nm rs D mny x1 rA) ++ (cNs T x1 x2 x3 N f g)) sz
abbrev QX2_changeNames (G : va_G) (T : Nat → ClassId) (na mo nm rs : Nat) (D mny : Nat → Int32) (rA : Nat → Nat) (x1 x2 x3 : Nat → Nat) (N f g : Nat → Nat → Int32) (sz : Nat) : Array Value → State → Outcome → State → Prop := va_Qi (fun (r : Int32) (_ : Unit) => r = (sChg g 16 (D, mny, N, f, 0)).2.2.2.2) (gB G ((cA T na mo nm rs ((sChg g 16 (D, mny, N, f, 0)).1) ((sChg g 16 (D, mny, N, f, 0)).2.1) x1 rA) ++ (cNs T x1 x2 x3 ((sChg g 16 (D, mny, N, f, 0)).2.2.1) ((sChg g 16 (D, mny, N, f, 0)).2.2.2.1) g))) (va_A ((cA T na mo nm rs D mny x1 rA) ++ (cNs T x1 x2 x3 N f g)) sz)
set_option maxHeartbeats 4000000 in
set_option maxRecDepth 100000 in
theorem kX2_changeNames (l : Launch) (G : va_G) (T : Nat → ClassId) (na mo nm rs : Nat) (D mny : Nat → Int32) (rA : Nat → Nat) (x1 x2 x3 : Nat → Nat) (N f g : Nat → Nat → Int32) (sz : Nat)  : Met l yX2_changeNames wsX2_changeNames ({ frames := 4, cells := 0, slots := 0, locals := 88 } : Room) (PX2_changeNames G T na mo nm rs D mny rA x1 x2 x3 N f g sz) (QX2_changeNames G T na mo nm rs D mny rA x1 x2 x3 N f g sz) 0 0 (va_A ((cA T na mo nm rs D mny x1 rA) ++ (cNs T x1 x2 x3 N f g)) sz) := by
  refine Met.ofW (cc := cX2_changeNames) (maxL := 4) (ret := (some .int)) (by decide) rfl ?_
  intro p e s m args below meth c s₁ B hml hv
  obtain ⟨rfl, hsz, hP, hK, hD0, hE⟩ := hv
  have hx := B.exec
  have hb := B.bytes
  have hr := B.returns
  have hts := atoms_spec (ws := wsX2_changeNames) B.pre
  have hown : s.vm.findClass RX2 = some m.cls := findClass_of_methodNamed B.named
  have hlocks := B.notSynchronized
  subst hsz
  have hD := hD0.self (sz := s.heap.size)
  have hA : ∀ q : Nat, s.heap.size ≤ q → (va_A ((cA T na mo nm rs D mny x1 rA) ++ (cNs T x1 x2 x3 N f g)) s.heap.size) q := fun q h => Or.inr h
  have hS : va_S (va_A ((cA T na mo nm rs D mny x1 rA) ++ (cNs T x1 x2 x3 N f g)) s.heap.size) s.heap s.heap [] := va_S.rf
  have hiRX0 : ∀ w ∈ u_ws RX0 TX0 11, w ∈ wsX2_changeNames := by decide +kernel
  have hiRX2 : ∀ w ∈ u_ws RX2 TX2 6, w ∈ wsX2_changeNames := by decide +kernel
  have hl := lv_entry ([.ref na]) (n := 4) (Nat.le_of_ble_eq_true rfl)
  rw [lg_entry_eq]
  generalize (lg_sl ([.ref na]) ++ List.replicate (4 - (lg_sl ([.ref na])).length) Slot.unset).toArray = ls at hl ⊢
  have hl : lv_has ls 4 [(0, .ref na)] := hl
  have hP : va_P G vwCl ((cA T na mo nm rs D mny x1 rA) ++ (cNs T x1 x2 x3 N f g)) s.heap := hP
  refine lv_iconst (v := 0) hx hb dX2_changeNames_0 (by decide) ?_
  refine lv_istore_n (lv' := [(1, .int 0), (0, .ref na)]) hx hb dX2_changeNames_1 rfl hl (by decide) rfl (fun ls hl => ?_)
  refine lv_iconst (v := 0) hx hb dX2_changeNames_2 (by decide) ?_
  refine lv_istore_n (lv' := [(2, .int 0), (1, .int 0), (0, .ref na)]) hx hb dX2_changeNames_3 rfl hl (by decide) rfl (fun ls hl => ?_)
  have J4 : ∀ n9 : Nat, ∀ (i : Nat) (D1 : Nat → Int32) (m1 : Nat → Int32) (N1 : Nat → Nat → Int32) (f1 : Nat → Nat → Int32) (w1 : Int32) (H : Heap) (locs : List Loc) (ls : Array Slot), (i ≤ 16) → (17 ≤ i + n9) → (sChg g i (D, mny, N, f, 0) = (D1, m1, N1, f1, w1)) → va_P G vwCl ((cA T na mo nm rs D1 m1 x1 rA) ++ (cNs T x1 x2 x3 N1 f1 g)) H → va_D (va_A ((cA T na mo nm rs D mny x1 rA) ++ (cNs T x1 x2 x3 N f g)) s.heap.size) ((cA T na mo nm rs D1 m1 x1 rA) ++ (cNs T x1 x2 x3 N1 f1 g)) → va_S (va_A ((cA T na mo nm rs D mny x1 rA) ++ (cNs T x1 x2 x3 N f g)) s.heap.size) s.heap H locs → lv_has ls 4 [(0, .ref na), (1, .int w1), (2, .int (nI i))] → W p l e (headSpec wsX2_changeNames ({ frames := 4, cells := 0, slots := 0, locals := 88 } : Room)).room s m ([.ref na] : List Value).toArray below meth c H locs 0 0 (MQ below (QX2_changeNames G T na mo nm rs D mny rA x1 x2 x3 N f g s.heap.size) ([.ref na] : List Value).toArray s 0 0 (va_A ((cA T na mo nm rs D mny x1 rA) ++ (cNs T x1 x2 x3 N f g)) s.heap.size)) (F0 m 4 ls []) := by
    intro n9
    induction n9 with
    | zero => intro i D1 m1 N1 f1 w1 H locs ls hi hm hc hP hD hS hl; exact absurd (hm) (by omega)
    | succ n9 ih4 =>
      intro i D1 m1 N1 f1 w1 H locs ls hi hm hc hP hD hS hl
      refine lv_iload_n hx hb dX2_changeNames_4 rfl (lv_at hl 2 rfl) ?_
      refine lv_bipush (v := 16) hx hb dX2_changeNames_5 (by decide) ?_
      refine lv_icmp_ge (tgt := 63) hx hb dX2_changeNames_7 (by decide) (fun c7 => ?_) (fun c7 => ?_)
      · skip
        have hge : i = 16 := by
          rcases Nat.lt_or_ge i 16 with q | q
          · exact absurd c7 (nI_ge (b := 16) q (by omega))
          · omega
        subst hge
        refine lv_iload_n hx hb dX2_changeNames_63 rfl (lv_at hl 1 rfl) ?_
        exact W.iret (v := w1) hx hb hr (fun t ht9 hW => ⟨⟨w1, (), rfl, by rw [hc], gBi ht9 (gfin hP (by rw [hc]))⟩, hS.F ht9⟩) hS.2.2 dX2_changeNames_64
      · skip
        have hlt : i < 16 := by
          rcases Nat.lt_or_ge i 16 with q | q
          · exact q
          · exact absurd (show (16 : Int32) ≤ nI i from nI_le (a := 16) q (by omega)) c7
        refine lv_aload_n hx hb dX2_changeNames_10 rfl (lv_at hl 0 rfl) ?_
        refine va_get (D := G) (ci := 2) (v := .ref nm) (C := RX2) (T := TX2) (N := 6) hx hb hts hiRX2 hown hK hP 0 rfl rfl 1 (by decide) (hts (.fieldLink RX2 15 "NameAuction" "names" "[LNameAuction$Name;") (by decide +kernel)) (fun _ h9 => h9) rfl dX2_changeNames_11 ?_
        refine lv_iload_n hx hb dX2_changeNames_14 rfl (lv_at hl 2 rfl) ?_
        refine galdr (j := i) hx hb hK hP 2 2 rfl rfl (show (nI i : Int32) = nI i from rfl) (by omega) (by decide) dX2_changeNames_15 ?_
        refine lv_astore_n (lv' := [(3, .ref (x1 i)), (0, .ref na), (1, .int w1), (2, .int (nI i))]) hx hb dX2_changeNames_16 rfl hl (by decide) rfl (fun ls hl => ?_)
        refine lv_aload_n hx hb dX2_changeNames_17 rfl (lv_at hl 0 rfl) ?_
        refine gci (va_runVN (As := []) (rest := []) ⟨hx, hb, hml, hown, hts⟩ (kX0_dayOfChange l G T (x1 i) (x2 i) (x3 i) (N1 i) (f1 i) (g i) _) ⟨(va_cnB 0 hts ggX2_changeNames_X0_dayOfChange rfl rfl rfl (hE.1 (.methodLinkNest RX2 106 yX0_dayOfChange RX2) (by decide +kernel)) (hts (.initialized RX0) (by decide +kernel)) (by decide +kernel) ⟨Nat.le_of_ble_eq_true rfl, Nat.le_of_ble_eq_true rfl⟩), hts (.instanceMethod yX0_dayOfChange) (by decide +kernel), hts (.selects RX0 yX0_dayOfChange yX0_dayOfChange) (by decide +kernel)⟩ ⟨gblind, va_recv hK hP (ci := 0) (q0 := (4 + 3 * i)) rfl (cNs_at hlt), gpre hE hK hP hD hS hA [4 + 3 * i, 5 + 3 * i, 6 + 3 * i] (cNs_nd i) (cNs_cut hlt)⟩ rfl rfl hl.1 rfl (lv_room (Nat.le_of_ble_eq_true rfl)) dX2_changeNames_18 ⟨Nat.le_of_ble_eq_true rfl, Nat.le_of_ble_eq_true rfl⟩) hP hD hS hA [4 + 3 * i, 5 + 3 * i, 6 + 3 * i] (cNs_cut hlt) rfl (fun r9 H locs hw hP hD hS => ?_)
        have hP : va_P G vwCl ((cA T na mo nm rs D1 m1 x1 rA) ++ (cNs T x1 x2 x3 N1 f1 g)) H := gfin hP ((cNs_rep hlt).trans (by simp only [updA_self]))
        have hD : va_D (va_A ((cA T na mo nm rs D mny x1 rA) ++ (cNs T x1 x2 x3 N f g)) s.heap.size) ((cA T na mo nm rs D1 m1 x1 rA) ++ (cNs T x1 x2 x3 N1 f1 g)) := gfinD hD ((cNs_rep hlt).trans (by simp only [updA_self]))
        subst hw
        refine lv_aload_n hx hb dX2_changeNames_21 rfl (lv_at hl 1 rfl) ?_
        refine va_get (D := G) (ci := 2) (v := .int (D1 3)) (C := RX2) (T := TX2) (N := 6) hx hb hts hiRX2 hown hK hP 0 rfl rfl 3 (by decide) (hts (.fieldLink RX2 44 "NameAuction" "day" "I") (by decide +kernel)) (fun _ h9 => h9) rfl dX2_changeNames_22 ?_
        refine lv_icmp_eq (tgt := 31) hx hb dX2_changeNames_25 (by decide) (fun c25 => ?_) (fun c25 => ?_)
        · skip
          refine lv_aload_n hx hb dX2_changeNames_31 rfl (lv_at hl 0 rfl) ?_
          refine va_getN (D := G) (ci := 0) (v := .int ((N1 i) 0)) (C := RX0) (T := TX0) (N := 11) hx hb hts hiRX0 hown hK hP (4 + 3 * i) (cNs_at hlt) rfl 0 (by decide) (va_Nw.use rfl (hE.1 (.fieldLinkNest RX2 36 "NameAuction$Name" "phase" "I" RX2) (by decide +kernel))) (fun _ h9 => h9) rfl dX2_changeNames_32 ?_
          refine lv_iconst (v := 1) hx hb dX2_changeNames_35 (by decide) ?_
          refine lv_icmp_eq (tgt := 46) hx hb dX2_changeNames_36 (by decide) (fun c36 => ?_) (fun c36 => ?_)
          · skip
            refine lv_aload_n hx hb dX2_changeNames_46 rfl (lv_at hl 1 rfl) ?_
            refine lv_aload_n hx hb dX2_changeNames_47 rfl (lv_at hl 0 rfl) ?_
            refine gci (va_runV (As := [.ref (x1 i)]) (rest := []) ⟨hx, hb, hml, hown, hts⟩ (kX2_closeAuction l G T na mo nm rs D1 m1 x1 rA (x1 i) (x2 i) (x3 i) (N1 i) (f1 i) (g i) _) (cwV 1 hts gX2_changeNames_X2_closeAuction rfl rfl rfl (by decide +kernel) ⟨Nat.le_of_ble_eq_true rfl, Nat.le_of_ble_eq_true rfl⟩) ⟨gblind, va_recv hK hP (ci := 2) (q0 := 0) rfl rfl, gpre hE hK hP hD hS hA [0, 1, 2, 3, 4 + 3 * i, 5 + 3 * i, 6 + 3 * i] (cNs_ndA i) (cNs_cutA hlt)⟩ rfl rfl hl.1 rfl (lv_room (Nat.le_of_ble_eq_true rfl)) dX2_changeNames_48 ⟨Nat.le_of_ble_eq_true rfl, Nat.le_of_ble_eq_true rfl⟩) hP hD hS hA [0, 1, 2, 3, 4 + 3 * i, 5 + 3 * i, 6 + 3 * i] (cNs_cutA hlt) rfl (fun r9 H locs hw hP hD hS => ?_)
            have hP : va_P G vwCl ((cA T na mo nm rs (sClD D1 (f1 i) (g i) m1) (sClM (f1 i) (g i) m1) x1 rA) ++ (cNs T x1 x2 x3 (updA N1 i (sClN D1 (N1 i) (f1 i) (g i) m1)) (updA f1 i (fun _ => 0)) g)) H := gfin hP ((cNs_repA hlt).trans (by simp only [updA_self]))
            have hD : va_D (va_A ((cA T na mo nm rs D mny x1 rA) ++ (cNs T x1 x2 x3 N f g)) s.heap.size) ((cA T na mo nm rs (sClD D1 (f1 i) (g i) m1) (sClM (f1 i) (g i) m1) x1 rA) ++ (cNs T x1 x2 x3 (updA N1 i (sClN D1 (N1 i) (f1 i) (g i) m1)) (updA f1 i (fun _ => 0)) g)) := gfinD hD ((cNs_repA hlt).trans (by simp only [updA_self]))
            subst hw
            refine lv_if_eq (tgt := 57) hx hb dX2_changeNames_51 (by decide) (fun c51 => ?_) (fun c51 => ?_)
            · skip
              refine lv_iinc (v := nI (i + 1)) (lv' := [(2, .int (nI (i + 1))), (3, .ref (x1 i)), (0, .ref na), (1, .int w1)]) hx hb dX2_changeNames_57 hl (k := 3) rfl (by first | rfl | exact (nI_add i 1)) (by decide) rfl (fun ls hl => ?_)
              refine lv_goto (tgt := 4) hx hb dX2_changeNames_60 (by decide) ?_
              exact ih4 (i + 1) (sClD D1 (f1 i) (g i) m1) (sClM (f1 i) (g i) m1) (updA N1 i (sClN D1 (N1 i) (f1 i) (g i) m1)) (updA f1 i (fun _ => 0)) w1 _ _ _ (by omega) (by omega) (by simp [sChg, hc, c7, c25, c36, c51]) hP hD hS (lv_sub hl [2, 3, 0] rfl)
            · skip
              refine lv_iinc (v := w1 + 1) (lv' := [(1, .int (w1 + 1)), (3, .ref (x1 i)), (0, .ref na), (2, .int (nI i))]) hx hb dX2_changeNames_54 hl (k := 2) rfl rfl (by decide) rfl (fun ls hl => ?_)
              refine lv_iinc (v := nI (i + 1)) (lv' := [(2, .int (nI (i + 1))), (1, .int (w1 + 1)), (3, .ref (x1 i)), (0, .ref na)]) hx hb dX2_changeNames_57 hl (k := 3) rfl (by first | rfl | exact (nI_add i 1)) (by decide) rfl (fun ls hl => ?_)
              refine lv_goto (tgt := 4) hx hb dX2_changeNames_60 (by decide) ?_
              exact ih4 (i + 1) (sClD D1 (f1 i) (g i) m1) (sClM (f1 i) (g i) m1) (updA N1 i (sClN D1 (N1 i) (f1 i) (g i) m1)) (updA f1 i (fun _ => 0)) (w1 + 1) _ _ _ (by omega) (by omega) (by simp [sChg, hc, c7, c25, c36, c51]) hP hD hS (lv_sub hl [3, 1, 0] rfl)
          · skip
            refine lv_aload_n hx hb dX2_changeNames_39 rfl (lv_at hl 0 rfl) ?_
            refine gcv (va_runVN (As := []) (rest := []) ⟨hx, hb, hml, hown, hts⟩ (kX0_goOn l G T (x1 i) (x2 i) (x3 i) (N1 i) (f1 i) (g i) _) ⟨(va_cnB 0 hts ggX2_changeNames_X0_goOn rfl rfl rfl (hE.1 (.methodLinkNest RX2 162 yX0_goOn RX2) (by decide +kernel)) (hts (.initialized RX0) (by decide +kernel)) (by decide +kernel) ⟨Nat.le_of_ble_eq_true rfl, Nat.le_of_ble_eq_true rfl⟩), hts (.instanceMethod yX0_goOn) (by decide +kernel), hts (.selects RX0 yX0_goOn yX0_goOn) (by decide +kernel)⟩ ⟨gblind, va_recv hK hP (ci := 0) (q0 := (4 + 3 * i)) rfl (cNs_at hlt), gpre hE hK hP hD hS hA [4 + 3 * i, 5 + 3 * i, 6 + 3 * i] (cNs_nd i) (cNs_cut hlt)⟩ rfl rfl hl.1 rfl (lv_room (Nat.le_of_ble_eq_true rfl)) dX2_changeNames_40 ⟨Nat.le_of_ble_eq_true rfl, Nat.le_of_ble_eq_true rfl⟩) hP hD hS hA [4 + 3 * i, 5 + 3 * i, 6 + 3 * i] (cNs_cut hlt) rfl (fun H locs hw hP hD hS => ?_)
            have hP : va_P G vwCl ((cA T na mo nm rs D1 m1 x1 rA) ++ (cNs T x1 x2 x3 (updA N1 i (sGoOn (N1 i))) (updA f1 i (sGoOnF (N1 i) (f1 i))) g)) H := gfin hP ((cNs_rep hlt).trans (by simp only [updA_self]))
            have hD : va_D (va_A ((cA T na mo nm rs D mny x1 rA) ++ (cNs T x1 x2 x3 N f g)) s.heap.size) ((cA T na mo nm rs D1 m1 x1 rA) ++ (cNs T x1 x2 x3 (updA N1 i (sGoOn (N1 i))) (updA f1 i (sGoOnF (N1 i) (f1 i))) g)) := gfinD hD ((cNs_rep hlt).trans (by simp only [updA_self]))
            refine lv_goto (tgt := 57) hx hb dX2_changeNames_43 (by decide) ?_
            refine lv_iinc (v := nI (i + 1)) (lv' := [(2, .int (nI (i + 1))), (3, .ref (x1 i)), (0, .ref na), (1, .int w1)]) hx hb dX2_changeNames_57 hl (k := 3) rfl (by first | rfl | exact (nI_add i 1)) (by decide) rfl (fun ls hl => ?_)
            refine lv_goto (tgt := 4) hx hb dX2_changeNames_60 (by decide) ?_
            exact ih4 (i + 1) D1 m1 (updA N1 i (sGoOn (N1 i))) (updA f1 i (sGoOnF (N1 i) (f1 i))) w1 _ _ _ (by omega) (by omega) (by simp [sChg, hc, c7, c25, c36]) hP hD hS (lv_sub hl [2, 3, 0] rfl)
        · skip
          refine lv_goto (tgt := 57) hx hb dX2_changeNames_28 (by decide) ?_
          refine lv_iinc (v := nI (i + 1)) (lv' := [(2, .int (nI (i + 1))), (3, .ref (x1 i)), (0, .ref na), (1, .int w1)]) hx hb dX2_changeNames_57 hl (k := 3) rfl (by first | rfl | exact (nI_add i 1)) (by decide) rfl (fun ls hl => ?_)
          refine lv_goto (tgt := 4) hx hb dX2_changeNames_60 (by decide) ?_
          exact ih4 (i + 1) D1 m1 N1 f1 w1 _ _ _ (by omega) (by omega) (by simp [sChg, hc, c7, c25]) hP hD hS (lv_sub hl [2, 3, 0] rfl)
  exact J4 17 0 D mny N f 0 _ _ _ (by omega) (by omega) rfl hP hD hS (lv_sub hl [2, 1, 0] rfl)
abbrev PX2_pass (G : va_G) (T : Nat → ClassId) (na mo nm rs : Nat) (D mny : Nat → Int32) (rA : Nat → Nat) (x1 x2 x3 : Nat → Nat) (N f g : Nat → Nat → Int32) (p0 : Int32) (sz : Nat) : Array Value → State → Prop := gPc G T [.ref na, .int p0] ((cA T na mo nm rs D mny x1 rA) ++ (cNs T x1 x2 x3 N f g)) sz
abbrev QX2_pass (G : va_G) (T : Nat → ClassId) (na mo nm rs : Nat) (D mny : Nat → Int32) (rA : Nat → Nat) (x1 x2 x3 : Nat → Nat) (N f g : Nat → Nat → Int32) (p0 : Int32) (sz : Nat) : Array Value → State → Outcome → State → Prop := va_Qi (fun (r : Int32) (_ : Unit) => kDays p0 = 0 ∧ r = (sDays g p0.toNatClampNeg (D, mny, N, f, 0)).2.2.2.2) (gB G ((cA T na mo nm rs ((sDays g p0.toNatClampNeg (D, mny, N, f, 0)).1) ((sDays g p0.toNatClampNeg (D, mny, N, f, 0)).2.1) x1 rA) ++ (cNs T x1 x2 x3 ((sDays g p0.toNatClampNeg (D, mny, N, f, 0)).2.2.1) ((sDays g p0.toNatClampNeg (D, mny, N, f, 0)).2.2.2.1) g))) (va_A ((cA T na mo nm rs D mny x1 rA) ++ (cNs T x1 x2 x3 N f g)) sz)
abbrev XX2_pass (G : va_G) (T : Nat → ClassId) (na mo nm rs : Nat) (D mny : Nat → Int32) (rA : Nat → Nat) (x1 x2 x3 : Nat → Nat) (N f g : Nat → Nat → Int32) (p0 : Int32) (sz : Nat) : String → State → State → Prop := gX G ((cA T na mo nm rs D mny x1 rA) ++ (cNs T x1 x2 x3 N f g)) sz (fun E => pK (kDays p0) E)
set_option maxHeartbeats 4000000 in
set_option maxRecDepth 100000 in
theorem kX2_pass (l : Launch) (hl0 : l.stackTraces = false) (G : va_G) (T : Nat → ClassId) (na mo nm rs : Nat) (D mny : Nat → Int32) (rA : Nat → Nat) (x1 x2 x3 : Nat → Nat) (N f g : Nat → Nat → Int32) (p0 : Int32) (sz : Nat)  : vx_Met l yX2_pass wsX2_pass ({ frames := 7, cells := 1, slots := 6, locals := 111 } : Room) (PX2_pass G T na mo nm rs D mny rA x1 x2 x3 N f g p0 sz) (QX2_pass G T na mo nm rs D mny rA x1 x2 x3 N f g p0 sz) (XX2_pass G T na mo nm rs D mny rA x1 x2 x3 N f g p0 sz) 1 6 (va_A ((cA T na mo nm rs D mny x1 rA) ++ (cNs T x1 x2 x3 N f g)) sz) := by
  refine vx_ofW (cc := cX2_pass) (maxL := 4) (ret := (some .int)) (by decide) rfl ?_
  intro p e s m args below meth c s₁ B hml ht hv
  obtain ⟨rfl, hsz, hP, hK, hD0, hE⟩ := hv
  have hx := B.exec
  have hb := B.bytes
  have hr := B.returns
  have hts := atoms_spec (ws := wsX2_pass) B.pre
  have hown : s.vm.findClass RX2 = some m.cls := findClass_of_methodNamed B.named
  have hlocks := B.notSynchronized
  subst hsz
  have hD := hD0.self (sz := s.heap.size)
  have hA : ∀ q : Nat, s.heap.size ≤ q → (va_A ((cA T na mo nm rs D mny x1 rA) ++ (cNs T x1 x2 x3 N f g)) s.heap.size) q := fun q h => Or.inr h
  have hS : va_S (va_A ((cA T na mo nm rs D mny x1 rA) ++ (cNs T x1 x2 x3 N f g)) s.heap.size) s.heap s.heap [] := va_S.rf
  have hiRX2 : ∀ w ∈ u_ws RX2 TX2 6, w ∈ wsX2_pass := by decide +kernel
  have hl := lv_entry ([.ref na, .int p0]) (n := 4) (Nat.le_of_ble_eq_true rfl)
  rw [lg_entry_eq]
  generalize (lg_sl ([.ref na, .int p0]) ++ List.replicate (4 - (lg_sl ([.ref na, .int p0])).length) Slot.unset).toArray = ls at hl ⊢
  have hl : lv_has ls 4 [(0, .ref na), (1, .int p0)] := hl
  have hP : va_P G vwCl ((cA T na mo nm rs D mny x1 rA) ++ (cNs T x1 x2 x3 N f g)) s.heap := hP
  refine lv_iload_n hx hb dX2_pass_0 rfl (lv_at hl 1 rfl) ?_
  refine lv_iconst (v := 1) hx hb dX2_pass_1 (by decide) ?_
  refine lv_sipush (v := 200) hx hb dX2_pass_2 (by decide) ?_
  refine gxv (vx_runS (As := [.int p0, .int 1, .int 200]) (rest := []) ⟨hx, hb, hml, hown, hts⟩ (kX2_checkRange l hl0 G T p0 1 200 _) (va_cwS 3 hts gX2_pass_X2_checkRange rfl rfl rfl (by decide +kernel) ⟨Nat.le_of_ble_eq_true rfl, Nat.le_of_ble_eq_true rfl⟩) ⟨gblind, gpre hE hK hP hD hS hA [] rfl rfl⟩ rfl rfl hl.1 rfl (lv_room (Nat.le_of_ble_eq_true rfl)) dX2_pass_5 ⟨Nat.le_of_ble_eq_true rfl, Nat.le_of_ble_eq_true rfl⟩) hP hD hS hA [] rfl rfl (fun E9 ce9 q9 H locs he hP hD hS hce hcv hcl => ?_) (fun H locs hw hP hD hS => ?_)
  · skip
    have hP : va_P G vwCl ((cA T na mo nm rs D mny x1 rA) ++ (cNs T x1 x2 x3 N f g)) H := hP
    have hD : va_D (va_A ((cA T na mo nm rs D mny x1 rA) ++ (cNs T x1 x2 x3 N f g)) s.heap.size) ((cA T na mo nm rs D mny x1 rA) ++ (cNs T x1 x2 x3 N f g)) := hD
    exact gout (pe := fun E => pK (kDays p0) E) ht hlocks (by obtain ⟨h8, h9⟩ := he; subst h8; simp [pK, kDays, h9]) hP hS hce hcv hcl (Nat.le_of_ble_eq_true rfl) (Nat.le_of_ble_eq_true rfl)
  · skip
    have hP : va_P G vwCl ((cA T na mo nm rs D mny x1 rA) ++ (cNs T x1 x2 x3 N f g)) H := hP
    have hD : va_D (va_A ((cA T na mo nm rs D mny x1 rA) ++ (cNs T x1 x2 x3 N f g)) s.heap.size) ((cA T na mo nm rs D mny x1 rA) ++ (cNs T x1 x2 x3 N f g)) := hD
    have hok5 := hw
    obtain ⟨n, hn, en⟩ := okR_nat hok5
    refine lv_iconst (v := 0) hx hb dX2_pass_8 (by decide) ?_
    refine lv_istore_n (lv' := [(2, .int 0), (0, .ref na), (1, .int p0)]) hx hb dX2_pass_9 rfl hl (by decide) rfl (fun ls hl => ?_)
    refine lv_iconst (v := 0) hx hb dX2_pass_10 (by decide) ?_
    refine lv_istore_n (lv' := [(3, .int 0), (2, .int 0), (0, .ref na), (1, .int p0)]) hx hb dX2_pass_11 rfl hl (by decide) rfl (fun ls hl => ?_)
    have J12 : ∀ n9 : Nat, ∀ (k : Nat) (D1 : Nat → Int32) (m1 : Nat → Int32) (N1 : Nat → Nat → Int32) (f1 : Nat → Nat → Int32) (w1 : Int32) (H : Heap) (locs : List Loc) (ls : Array Slot), (k ≤ n) → (n + 1 ≤ k + n9) → (sDays g k (D, mny, N, f, 0) = (D1, m1, N1, f1, w1)) → va_P G vwCl ((cA T na mo nm rs D1 m1 x1 rA) ++ (cNs T x1 x2 x3 N1 f1 g)) H → va_D (va_A ((cA T na mo nm rs D mny x1 rA) ++ (cNs T x1 x2 x3 N f g)) s.heap.size) ((cA T na mo nm rs D1 m1 x1 rA) ++ (cNs T x1 x2 x3 N1 f1 g)) → va_S (va_A ((cA T na mo nm rs D mny x1 rA) ++ (cNs T x1 x2 x3 N f g)) s.heap.size) s.heap H locs → lv_has ls 4 [(0, .ref na), (1, .int p0), (2, .int w1), (3, .int (nI k))] → W p l e (headSpec wsX2_pass ({ frames := 7, cells := 1, slots := 6, locals := 111 } : Room)).room s m ([.ref na, .int p0] : List Value).toArray below meth c H locs 1 6 (vx_MQ below (QX2_pass G T na mo nm rs D mny rA x1 x2 x3 N f g p0 s.heap.size) (XX2_pass G T na mo nm rs D mny rA x1 x2 x3 N f g p0 s.heap.size) ([.ref na, .int p0] : List Value).toArray s 1 6 (va_A ((cA T na mo nm rs D mny x1 rA) ++ (cNs T x1 x2 x3 N f g)) s.heap.size)) (F0 m 12 ls []) := by
      intro n9
      induction n9 with
      | zero => intro k D1 m1 N1 f1 w1 H locs ls hi hm hc hP hD hS hl; exact absurd (hm) (by omega)
      | succ n9 ih12 =>
        intro k D1 m1 N1 f1 w1 H locs ls hi hm hc hP hD hS hl
        refine lv_iload_n hx hb dX2_pass_12 rfl (lv_at hl 3 rfl) ?_
        refine lv_iload_n hx hb dX2_pass_13 rfl (lv_at hl 1 rfl) ?_
        refine lv_icmp_ge (tgt := 40) hx hb dX2_pass_14 (by decide) (fun c14 => ?_) (fun c14 => ?_)
        · skip
          rw [en] at c14
          have hge : k = n := by
            rcases Nat.lt_or_ge k n with q | q
            · exact absurd c14 (nI_ge q (by omega))
            · omega
          have hn9 : p0.toNatClampNeg = k := by rw [en, hge]; exact nI_clamp (by omega)
          refine lv_iload_n hx hb dX2_pass_40 rfl (lv_at hl 2 rfl) ?_
          refine vx_ret ?_
          exact W.iret (v := w1) hx hb hr (fun t ht9 hW => ⟨⟨w1, (), rfl, ⟨(by simp [kDays, hok5]), by rw [hn9, hc]⟩, gBi ht9 (gfin hP (by rw [hn9, hc]))⟩, hS.F ht9⟩) hS.2.2 dX2_pass_41
        · skip
          rw [en] at c14
          have hlt : k < n := by
            rcases Nat.lt_or_ge k n with q | q
            · exact q
            · exact absurd (nI_le q (by omega)) c14
          refine lv_aload_n hx hb dX2_pass_17 rfl (lv_at hl 0 rfl) ?_
          refine lv_dup hx hb dX2_pass_18 rfl ?_
          refine va_get (D := G) (ci := 2) (v := .int (D1 3)) (C := RX2) (T := TX2) (N := 6) hx hb hts hiRX2 hown hK hP 0 rfl rfl 3 (by decide) (hts (.fieldLink RX2 44 "NameAuction" "day" "I") (by decide +kernel)) (fun _ h9 => h9) rfl dX2_pass_19 ?_
          refine lv_iconst (v := 1) hx hb dX2_pass_22 (by decide) ?_
          refine lv_iadd hx hb dX2_pass_23 ?_
          refine va_put (D := G) (ci := 2) (v := .int ((D1 3) + 1)) (ty := .int) (C := RX2) (T := TX2) (N := 6) hx hb hts hiRX2 tyX2 tyX2_ok nmX2 hown hK hP hD hS 0 rfl rfl 3 (by decide) (hts (.fieldLink RX2 44 "NameAuction" "day" "I") (by decide +kernel)) (fun _ h9 => h9) rfl (by decide +kernel) rfl rfl (Nat.le_of_ble_eq_true rfl) dX2_pass_24 (fun H locs hP hD hS => ?_)
          have hP : va_P G vwCl ((cA T na mo nm rs (upd D1 3 ((D1 3) + 1)) m1 x1 rA) ++ (cNs T x1 x2 x3 N1 f1 g)) H := hP
          have hD : va_D (va_A ((cA T na mo nm rs D mny x1 rA) ++ (cNs T x1 x2 x3 N f g)) s.heap.size) ((cA T na mo nm rs (upd D1 3 ((D1 3) + 1)) m1 x1 rA) ++ (cNs T x1 x2 x3 N1 f1 g)) := hD
          refine lv_iload_n hx hb dX2_pass_27 rfl (lv_at hl 2 rfl) ?_
          refine lv_aload_n hx hb dX2_pass_28 rfl (lv_at hl 0 rfl) ?_
          refine gciT (X := ([] : va_W)) (va_runV (As := []) (rest := [.int w1]) ⟨hx, hb, hml, hown, hts⟩ (kX2_changeNames l G T na mo nm rs (upd D1 3 ((D1 3) + 1)) m1 rA x1 x2 x3 N1 f1 g _) (cwV 0 hts gX2_pass_X2_changeNames rfl rfl rfl (by decide +kernel) ⟨Nat.le_of_ble_eq_true rfl, Nat.le_of_ble_eq_true rfl⟩) ⟨gblind, va_recv hK hP (ci := 2) (q0 := 0) rfl rfl, gpreT (X := ([] : va_W)) hE hK hP hD hS hA⟩ rfl rfl hl.1 rfl (lv_room (Nat.le_of_ble_eq_true rfl)) dX2_pass_29 ⟨Nat.le_of_ble_eq_true rfl, Nat.le_of_ble_eq_true rfl⟩) hP hD hS hA cS_fst (fun r9 H locs hw hP hD hS => ?_)
          generalize hSc : sChg g 16 (upd D1 3 (D1 3 + 1), m1, N1, f1, 0) = Sx at hP hD hw
          obtain ⟨D2, m2, N2, f2, w2⟩ := Sx
          refine gtop (y := w2) hw ?_
          have hP : va_P G vwCl ((cA T na mo nm rs D2 m2 x1 rA) ++ (cNs T x1 x2 x3 N2 f2 g)) H := hP
          have hD : va_D (va_A ((cA T na mo nm rs D mny x1 rA) ++ (cNs T x1 x2 x3 N f g)) s.heap.size) ((cA T na mo nm rs D2 m2 x1 rA) ++ (cNs T x1 x2 x3 N2 f2 g)) := hD
          refine lv_iadd hx hb dX2_pass_32 ?_
          refine lv_istore_n (lv' := [(2, .int (w1 + w2)), (0, .ref na), (1, .int p0), (3, .int (nI k))]) hx hb dX2_pass_33 rfl hl (by decide) rfl (fun ls hl => ?_)
          refine lv_iinc (v := nI (k + 1)) (lv' := [(3, .int (nI (k + 1))), (2, .int (w1 + w2)), (0, .ref na), (1, .int p0)]) hx hb dX2_pass_34 hl (k := 3) rfl (by first | rfl | exact (nI_add k 1)) (by decide) rfl (fun ls hl => ?_)
          refine lv_goto (tgt := 12) hx hb dX2_pass_37 (by decide) ?_
          exact ih12 (k + 1) D2 m2 N2 f2 (w1 + w2) _ _ _ (by omega) (by omega) (sDays_step hc hSc) hP hD hS (lv_sub hl [2, 3, 1, 0] rfl)
    exact J12 (n + 1) 0 D mny N f 0 _ _ _ (by omega) (by omega) rfl hP hD hS (lv_sub hl [2, 3, 1, 0] rfl)
