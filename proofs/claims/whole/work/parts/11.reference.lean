/-! THE REFERENCE'S METHODS -/
section GCT2
variable {p : Program} {l : Launch} {e : Env} {R : Room} {s : State} {m : MethodId} {args : Array Value} {below : List Frame} {meth : Method} {c : Code} {H : Heap} {locs : List Loc} {cells slots : Nat} {Q : State → Prop}
variable {pc : Nat} {ls : Array Slot} {rest st0 : List Value} {a : Array Value} {A0 : Nat → Prop} {mc ms : Nat} {G : va_G} {X wc w1 : va_W}
theorem gcvT {post : Unit → Prop} (hr : va_Run p l e R s m args below meth c H locs cells slots mc ms (F0 m pc ls st0) rest (va_Qv post (gB G w1) (va_A wc H.size) a) (va_A wc H.size))
    (hP : va_P G vwCl (X ++ wc) H) (hD : va_D A0 (X ++ wc)) (hS : va_S A0 s.heap H locs) (hA : ∀ q, s.heap.size ≤ q → A0 q) (h1 : w1.map Prod.fst = wc.map Prod.fst)
    (kk : ∀ (H1 : Heap) (locs1 : List Loc), post () → va_P G vwCl (X ++ w1) H1 → va_D A0 (X ++ w1) → va_S A0 s.heap H1 locs1 → W p l e R s m args below meth c H1 locs1 (cells + mc) (slots + ms) Q (F0 m (pc + 3) ls rest)) : W p l e R s m args below meth c H locs cells slots Q (F0 m pc ls st0) := by
  have hF := gtailF hD hS hA
  refine va_callv hr hS (fun q _ h => hF q h) hF (fun u t H1 locs1 ht hvm hw hB hz1 hk1 hS1 => ?_)
  have hB : va_P G vwCl w1 t.heap := hB
  rw [ht] at hB
  obtain ⟨h2, h3⟩ := gjoinT hP hD h1 hk1 hB
  exact kk H1 locs1 hw h2 h3 hS1
end GCT2
theorem cM_fst {T : Nat → ClassId} {x1 : Nat} {A : Nat → Nat} {I1 I2 : Nat → Int32} {F F2 : Nat → Nat → Int32} : (cM T x1 A I2 F2).map Prod.fst = (cM T x1 A I1 F).map Prod.fst := rfl
theorem bI_t {b : Bool} (h : ¬ bI b = 0) : b = true := by cases b; exact absurd rfl h; rfl
theorem bI_f {b : Bool} (h : bI b = 0) : b = false := by cases b; rfl; exact absurd h (by decide)
theorem i32_le_pred {x a b : Int32} (h : a.toInt + 1 = b.toInt) : (a < x) = (b ≤ x) := by
  rw [Int32.lt_iff_toInt_lt, Int32.le_iff_toInt_le]
  apply propext
  omega
theorem okR_15 (x : Int32) : okR x 0 15 = okI x 16 := by simp only [okR, okI, i32_le_pred (x := x) (a := 15) (b := 16) rfl]
theorem okR_5 (x : Int32) : okR x 0 5 = okI x 6 := by simp only [okR, okI, i32_le_pred (x := x) (a := 5) (b := 6) rfl]
theorem okR_2 (x : Int32) : okR x 0 2 = okI x 3 := by simp only [okR, okI, i32_le_pred (x := x) (a := 2) (b := 3) rfl]
def w3 : Nat → Int32
  | 0 => 0
  | 1 => 1
  | 2 => 2
  | _ => 3
def w13 : Nat → Int32
  | 0 => 0
  | 1 => 1
  | _ => 2
def w1 : Nat → Int32
  | 0 => 0
  | _ => 1
def mLease (F : Nat → Nat → Int32) (j : Nat) (o t : Int32) : Nat → Nat → Int32 := updA (updA (updA (updA (updA F 3 (upd (F 3) j 2)) 4 (upd (F 4) j o)) 5 (upd (F 5) j (t + 100))) 6 (upd (F 6) j 0)) 7 (upd (F 7) j 10)
def mClr (f : Nat → Int32) (j i : Nat) : Nat → Int32 := fun k => if 6 * j ≤ k ∧ k < 6 * j + i then 0 else f k
theorem mClr_0 (f : Nat → Int32) (j : Nat) : mClr f j 0 = f := by
  funext k; simp only [mClr]; rw [if_neg (by omega)]
theorem mClr_up (f : Nat → Int32) (j i : Nat) : upd (mClr f j i) (6 * j + i) 0 = mClr f j (i + 1) := by
  funext k
  simp only [upd, mClr]
  by_cases h : k = 6 * j + i
  · rw [if_pos h, if_pos (by omega)]
  · rw [if_neg h]
    by_cases h2 : 6 * j ≤ k ∧ k < 6 * j + i
    · rw [if_pos h2, if_pos (by omega)]
    · rw [if_neg h2, if_neg (by omega)]
def mClear (F : Nat → Nat → Int32) (j : Nat) : Nat → Nat → Int32 := updA F 11 (mClr (F 11) j 6)
def mPayF (F : Nat → Nat → Int32) (o : Nat) (x : Int32) : Nat → Nat → Int32 := updA F 2 (upd (F 2) o (F 2 o - x))
def mCnt (f : Nat → Int32) (j : Nat) : Nat → Int32
  | 0 => 0
  | i + 1 => mCnt f j i + (if 0 < f (6 * j + i) then 1 else 0)
def mNext (F : Nat → Nat → Int32) (j : Nat) : Int32 := if F 3 j = 0 then -1 else if F 3 j = 5 then -1 else F 5 j + (if F 3 j = 3 then 10 else if F 3 j = 4 then 20 else 0)
def mBest (F : Nat → Nat → Int32) (j : Nat) (out : Int32) : Nat → Option Nat
  | 0 => none
  | k + 1 => if nI k = out then mBest F j out k else if F 11 (6 * j + k) ≤ 0 then mBest F j out k else if F 2 k < F 11 (6 * j + k) then mBest F j out k else
      match mBest F j out k with
      | none => some k
      | some b => if F 11 (6 * j + b) < F 11 (6 * j + k) then some k else if F 11 (6 * j + k) = F 11 (6 * j + b) then (if F 12 (6 * j + b) ≤ F 12 (6 * j + k) then some b else some k) else some b
theorem mBest_lt {F : Nat → Nat → Int32} {j : Nat} {out : Int32} : ∀ {n b : Nat}, mBest F j out n = some b → b < n
  | 0, b, h => by cases h
  | n + 1, b, h => by
    simp only [mBest] at h
    split at h
    · exact Nat.lt_succ_of_lt (mBest_lt h)
    · split at h
      · exact Nat.lt_succ_of_lt (mBest_lt h)
      · split at h
        · exact Nat.lt_succ_of_lt (mBest_lt h)
        · split at h
          · cases h; exact Nat.lt_succ_self _
          · rename_i q
            split at h
            · cases h; exact Nat.lt_succ_self _
            · split at h
              · split at h
                · cases h; exact Nat.lt_succ_of_lt (mBest_lt q)
                · cases h; exact Nat.lt_succ_self _
              · cases h; exact Nat.lt_succ_of_lt (mBest_lt q)
def mPrice (F : Nat → Nat → Int32) (j w : Nat) : Int32 := match mBest F j (nI w) 6 with
  | none => 10
  | some r => F 11 (6 * j + r)
def mFree (F : Nat → Nat → Int32) (j : Nat) : Nat → Nat → Int32 := updA (mClear F j) 3 (upd ((mClear F j) 3) j 0)
def mClF (F : Nat → Nat → Int32) (j : Nat) (t : Int32) : Nat → Nat → Int32 := match mBest F j (-1) 6 with
  | none => mFree F j
  | some w => mLease (mPayF (mFree F j) w (mPrice F j w)) j (nI w) t
def mClI (I1 : Nat → Int32) (F : Nat → Nat → Int32) (j : Nat) : Nat → Int32 := match mBest F j (-1) 6 with
  | none => I1
  | some w => upd I1 1 (I1 1 + mPrice F j w)
def mClR (F : Nat → Nat → Int32) (j : Nat) : Int32 := match mBest F j (-1) 6 with
  | none => 0
  | some _ => 1
def mRec (F : Nat → Nat → Int32) (j : Nat) : Int32 := if okR (F 3 j) 2 3 = true then 1 else if F 3 j = 5 then (if F 10 j = 1 then 0 else 1) else 0
def mAns (F : Nat → Nat → Int32) (j : Nat) : Int32 := if mRec F j = 0 then -1 else F 6 j
def mYoung (I1 : Nat → Int32) (F : Nat → Nat → Int32) (q : Nat) : Int32 := if F 14 q = -1 then 0 else if F 16 q ≤ I1 0 - F 14 q then 0 else 1
def mGoF (I1 : Nat → Int32) (F : Nat → Nat → Int32) (j : Nat) : Nat → Nat → Int32 := if mNext F j = I1 0 then (if F 3 j = 1 then mClF F j (I1 0) else if F 3 j = 4 then updA (updA F 3 (upd (F 3) j 0)) 4 (upd (F 4) j (-1)) else updA (updA F 3 (upd (F 3) j (F 3 j + 1))) 4 (upd (F 4) j (F 4 j))) else F
def mGoI (I1 : Nat → Int32) (F : Nat → Nat → Int32) (j : Nat) : Nat → Int32 := if mNext F j = I1 0 then (if F 3 j = 1 then mClI I1 F j else I1) else I1
def mGoR (I1 : Nat → Int32) (F : Nat → Nat → Int32) (j : Nat) : Int32 := if mNext F j = I1 0 then (if F 3 j = 1 then mClR F j else 0) else 0
abbrev MS : Type := (Nat → Int32) × (Nat → Nat → Int32) × Int32
def mChg : Nat → MS → MS
  | 0, S => S
  | i + 1, S => match mChg i S with
    | (I1, F, n) => (mGoI I1 F i, mGoF I1 F i, n + mGoR I1 F i)
def mDay1 (S : MS) : MS := mChg 16 (upd S.1 0 (S.1 0 + 1), S.2.1, S.2.2)
def mDays : Nat → MS → MS
  | 0, S => S
  | k + 1, S => mDay1 (mDays k S)
theorem mDays_step {k : Nat} {S : MS} {I1 I2 : Nat → Int32} {F F2 : Nat → Nat → Int32} {n n2 : Int32} (h1 : mDays k S = (I1, F, n)) (h2 : mChg 16 (upd I1 0 (I1 0 + 1), F, n) = (I2, F2, n2)) : mDays (k + 1) S = (I2, F2, n2) := by
  rw [mDays, h1]
  show mChg 16 (upd I1 0 (I1 0 + 1), F, n) = _
  rw [h2]
def cRenew (I1 : Nat → Int32) (F : Nat → Nat → Int32) (j o : Nat) (p0 p1 : Int32) : Nat := if okI p0 16 = true then (if okR p1 1 5 = true then (if okR (F 3 j) 2 3 = true then (if I1 0 + 600 < F 5 j + 100 * p1 then 3 else if F 2 o < 20 * p1 then 3 else 0) else 3) else 2) else 1
def cRedeem (F : Nat → Nat → Int32) (j o : Nat) (p0 : Int32) : Nat := if okI p0 16 = true then (if F 3 j = 4 then (if F 2 o < 50 then 3 else 0) else 3) else 1
def cBid (F : Nat → Nat → Int32) (j : Nat) (p0 p1 p2 : Int32) : Nat := if okI p0 6 = true then (if okI p1 16 = true then (if okR p2 10 100000 = true then (if F 3 j ≤ 1 then 0 else 3) else 2) else 1) else 1
def cSetRec (F : Nat → Nat → Int32) (j : Nat) (p0 p1 p2 : Int32) : Nat := if okI p0 16 = true then (if okR p1 0 999 = true then (if okR p2 1 50 = true then (if F 3 j = 2 then 0 else 3) else 2) else 2) else 1
def cDispute (F : Nat → Nat → Int32) (j : Nat) (p0 p1 : Int32) : Nat := if okI p0 6 = true then (if okI p1 16 = true then (if okR (F 3 j) 1 3 = true then (if F 4 j = p0 then 3 else 0) else 3) else 1) else 1
def cDecide (F : Nat → Nat → Int32) (j : Nat) (p0 : Int32) : Nat := if okI p0 16 = true then (if F 3 j = 5 then 0 else 3) else 1
def mBidF (I1 : Nat → Int32) (F : Nat → Nat → Int32) (j i : Nat) (p2 : Int32) : Nat → Nat → Int32 := if F 3 j = 0 then updA (updA (updA (updA F 3 (upd (F 3) j 1)) 5 (upd (F 5) j (I1 0 + 5))) 11 (upd (F 11) (6 * j + i) p2)) 12 (upd (F 12) (6 * j + i) (I1 13)) else updA (updA F 11 (upd (F 11) (6 * j + i) p2)) 12 (upd (F 12) (6 * j + i) (I1 13))
def mBidR (I1 : Nat → Int32) (F : Nat → Nat → Int32) (j : Nat) : Int32 := if F 3 j = 0 then I1 0 + 5 else F 5 j
def mDecF (I1 : Nat → Int32) (F : Nat → Nat → Int32) (j : Nat) (b : Int32) : Nat → Nat → Int32 := if F 10 j = 1 then (if b = 0 then updA F 3 (upd (F 3) j 0) else mLease (updA F 3 (upd (F 3) j 0)) j (F 8 j) (I1 0)) else updA (updA (updA F 3 (upd (F 3) j (F 10 j))) 5 (upd (F 5) j (F 5 j + (I1 0 - F 9 j)))) 4 (upd (F 4) j (if b = 0 then F 4 j else F 8 j))
def mLookF (I1 : Nat → Int32) (F : Nat → Nat → Int32) (q j : Nat) : Nat → Nat → Int32 := if mYoung I1 F q = 0 then updA (updA (updA F 14 (upd (F 14) q (I1 0))) 15 (upd (F 15) q (mAns F j))) 16 (upd (F 16) q (if mRec F j = 0 then 5 else F 7 j)) else F
def mKept (f : Nat → Int32) (r : Nat) : Nat → Int32
  | 0 => 0
  | i + 1 => mKept f r i + (if f (16 * r + i) = -1 then 0 else 1)
def mFls (f : Nat → Int32) (r i : Nat) : Nat → Int32 := fun k => if 16 * r ≤ k ∧ k < 16 * r + i then -1 else f k
theorem mFls_0 (f : Nat → Int32) (r : Nat) : mFls f r 0 = f := by
  funext k; simp only [mFls]; rw [if_neg (by omega)]
theorem mFls_up (f : Nat → Int32) (r i : Nat) : upd (mFls f r i) (16 * r + i) (-1) = mFls f r (i + 1) := by
  funext k
  simp only [upd, mFls]
  by_cases h : k = 16 * r + i
  · rw [if_pos h, if_pos (by omega)]
  · rw [if_neg h]
    by_cases h2 : 16 * r ≤ k ∧ k < 16 * r + i
    · rw [if_pos h2, if_pos (by omega)]
    · rw [if_neg h2, if_neg (by omega)]
abbrev PX3_thrown (G : va_G) (T : Nat → ClassId) (x1 : Nat) (A : Nat → Nat) (I1 : Nat → Int32) (F : Nat → Nat → Int32) (sz : Nat) : Array Value → State → Prop := gPc G T [.ref x1] (cM T x1 A I1 F) sz
abbrev QX3_thrown (G : va_G) (T : Nat → ClassId) (x1 : Nat) (A : Nat → Nat) (I1 : Nat → Int32) (F : Nat → Nat → Int32) (sz : Nat) : Array Value → State → Outcome → State → Prop := va_Qi (fun (r : Int32) (_ : Unit) => r = I1 17) (gB G (cM T x1 A I1 F)) (va_A (cM T x1 A I1 F) sz)
set_option maxHeartbeats 4000000 in
set_option maxRecDepth 100000 in
theorem kX3_thrown (l : Launch) (G : va_G) (T : Nat → ClassId) (x1 : Nat) (A : Nat → Nat) (I1 : Nat → Int32) (F : Nat → Nat → Int32) (sz : Nat)  : Met l yX3_thrown wsX3_thrown ({ frames := 0, cells := 0, slots := 0, locals := 0 } : Room) (PX3_thrown G T x1 A I1 F sz) (QX3_thrown G T x1 A I1 F sz) 0 0 (va_A (cM T x1 A I1 F) sz) := by
  refine Met.ofW (cc := cX3_thrown) (maxL := 1) (ret := (some .int)) (by decide) rfl ?_
  intro p e s m args below meth c s₁ B hml hv
  obtain ⟨rfl, hsz, hP, hK, hD0, hE⟩ := hv
  have hx := B.exec
  have hb := B.bytes
  have hr := B.returns
  have hts := atoms_spec (ws := wsX3_thrown) B.pre
  have hown : s.vm.findClass RX3 = some m.cls := findClass_of_methodNamed B.named
  have hlocks := B.notSynchronized
  subst hsz
  have hD := hD0.self (sz := s.heap.size)
  have hA : ∀ q : Nat, s.heap.size ≤ q → (va_A (cM T x1 A I1 F) s.heap.size) q := fun q h => Or.inr h
  have hS : va_S (va_A (cM T x1 A I1 F) s.heap.size) s.heap s.heap [] := va_S.rf
  have hiRX3 : ∀ w ∈ u_ws RX3 TX3 18, w ∈ wsX3_thrown := by decide +kernel
  have hl := lv_entry ([.ref x1]) (n := 1) (Nat.le_of_ble_eq_true rfl)
  rw [lg_entry_eq]
  generalize (lg_sl ([.ref x1]) ++ List.replicate (1 - (lg_sl ([.ref x1])).length) Slot.unset).toArray = ls at hl ⊢
  have hl : lv_has ls 1 [(0, .ref x1)] := hl
  have hP : va_P G vwCl (cM T x1 A I1 F) s.heap := hP
  refine lv_aload_n hx hb dX3_thrown_0 rfl (lv_at hl 0 rfl) ?_
  refine va_get (D := G) (ci := 3) (v := .int (I1 17)) (C := RX3) (T := TX3) (N := 18) hx hb hts hiRX3 hown hK hP 0 rfl rfl 17 (by decide) (hts (.fieldLink RX3 52 "NameAuctionModel" "thrown" "I") (by decide +kernel)) (fun _ h9 => h9) rfl dX3_thrown_1 ?_
  exact W.iret (v := I1 17) hx hb hr (fun t ht9 hW => ⟨⟨I1 17, (), rfl, rfl, gBi ht9 (gfin hP (rfl))⟩, hS.F ht9⟩) hS.2.2 dX3_thrown_4
abbrev PX3_fails (G : va_G) (T : Nat → ClassId) (x1 : Nat) (A : Nat → Nat) (I1 : Nat → Int32) (F : Nat → Nat → Int32) (p0 : Int32) (sz : Nat) : Array Value → State → Prop := gPc G T [.ref x1, .int p0] (cM T x1 A I1 F) sz
abbrev QX3_fails (G : va_G) (T : Nat → ClassId) (x1 : Nat) (A : Nat → Nat) (I1 : Nat → Int32) (F : Nat → Nat → Int32) (p0 : Int32) (sz : Nat) : Array Value → State → Outcome → State → Prop := va_Qi (fun (r : Int32) (_ : Unit) => r = bI (decide (0 < p0))) (gB G (cM T x1 A (upd I1 17 p0) F)) (va_A (cM T x1 A I1 F) sz)
set_option maxHeartbeats 4000000 in
set_option maxRecDepth 100000 in
theorem kX3_fails (l : Launch) (G : va_G) (T : Nat → ClassId) (x1 : Nat) (A : Nat → Nat) (I1 : Nat → Int32) (F : Nat → Nat → Int32) (p0 : Int32) (sz : Nat)  : Met l yX3_fails wsX3_fails ({ frames := 0, cells := 0, slots := 0, locals := 0 } : Room) (PX3_fails G T x1 A I1 F p0 sz) (QX3_fails G T x1 A I1 F p0 sz) 0 0 (va_A (cM T x1 A I1 F) sz) := by
  refine Met.ofW (cc := cX3_fails) (maxL := 2) (ret := (some .boolean)) (by decide) rfl ?_
  intro p e s m args below meth c s₁ B hml hv
  obtain ⟨rfl, hsz, hP, hK, hD0, hE⟩ := hv
  have hx := B.exec
  have hb := B.bytes
  have hr := B.returns
  have hts := atoms_spec (ws := wsX3_fails) B.pre
  have hown : s.vm.findClass RX3 = some m.cls := findClass_of_methodNamed B.named
  have hlocks := B.notSynchronized
  subst hsz
  have hD := hD0.self (sz := s.heap.size)
  have hA : ∀ q : Nat, s.heap.size ≤ q → (va_A (cM T x1 A I1 F) s.heap.size) q := fun q h => Or.inr h
  have hS : va_S (va_A (cM T x1 A I1 F) s.heap.size) s.heap s.heap [] := va_S.rf
  have hiRX3 : ∀ w ∈ u_ws RX3 TX3 18, w ∈ wsX3_fails := by decide +kernel
  have hl := lv_entry ([.ref x1, .int p0]) (n := 2) (Nat.le_of_ble_eq_true rfl)
  rw [lg_entry_eq]
  generalize (lg_sl ([.ref x1, .int p0]) ++ List.replicate (2 - (lg_sl ([.ref x1, .int p0])).length) Slot.unset).toArray = ls at hl ⊢
  have hl : lv_has ls 2 [(0, .ref x1), (1, .int p0)] := hl
  have hP : va_P G vwCl (cM T x1 A I1 F) s.heap := hP
  refine lv_aload_n hx hb dX3_fails_0 rfl (lv_at hl 0 rfl) ?_
  refine lv_iload_n hx hb dX3_fails_1 rfl (lv_at hl 1 rfl) ?_
  refine va_put (D := G) (ci := 3) (v := .int p0) (ty := .int) (C := RX3) (T := TX3) (N := 18) hx hb hts hiRX3 tyX3 tyX3_ok nmX3 hown hK hP hD hS 0 rfl rfl 17 (by decide) (hts (.fieldLink RX3 52 "NameAuctionModel" "thrown" "I") (by decide +kernel)) (fun _ h9 => h9) rfl (by decide +kernel) rfl rfl (Nat.le_of_ble_eq_true rfl) dX3_fails_2 (fun H locs hP hD hS => ?_)
  have hP : va_P G vwCl (cM T x1 A (upd I1 17 p0) F) H := hP
  have hD : va_D (va_A (cM T x1 A I1 F) s.heap.size) (cM T x1 A (upd I1 17 p0) F) := hD
  refine lv_iload_n hx hb dX3_fails_5 rfl (lv_at hl 1 rfl) ?_
  refine lv_if_le (tgt := 13) hx hb dX3_fails_6 (by decide) (fun c6 => ?_) (fun c6 => ?_)
  · skip
    refine lv_iconst (v := 0) hx hb dX3_fails_13 (by decide) ?_
    exact W.zret (v := 0) hx hb hr (by decide) (fun t ht9 hW => ⟨⟨0, (), rfl, by simp [bI, c6], gBi ht9 (gfin hP (rfl))⟩, hS.F ht9⟩) hS.2.2 dX3_fails_14
  · skip
    refine lv_iconst (v := 1) hx hb dX3_fails_9 (by decide) ?_
    refine lv_goto (tgt := 14) hx hb dX3_fails_10 (by decide) ?_
    exact W.zret (v := 1) hx hb hr (by decide) (fun t ht9 hW => ⟨⟨1, (), rfl, by simp [bI, c6], gBi ht9 (gfin hP (rfl))⟩, hS.F ht9⟩) hS.2.2 dX3_fails_14
abbrev PX3_isIn (G : va_G) (T : Nat → ClassId) (p0 p1 p2 : Int32) (sz : Nat) : Array Value → State → Prop := gPc G T [.int p0, .int p1, .int p2] ([] : va_W) sz
abbrev QX3_isIn (G : va_G) (T : Nat → ClassId) (p0 p1 p2 : Int32) (sz : Nat) : Array Value → State → Outcome → State → Prop := va_Qi (fun (r : Int32) (_ : Unit) => r = bI (okR p0 p1 p2)) (gB G (([] : va_W))) (va_A ([] : va_W) sz)
set_option maxHeartbeats 4000000 in
set_option maxRecDepth 100000 in
theorem kX3_isIn (l : Launch) (G : va_G) (T : Nat → ClassId) (p0 p1 p2 : Int32) (sz : Nat)  : Met l yX3_isIn wsX3_isIn ({ frames := 0, cells := 0, slots := 0, locals := 0 } : Room) (PX3_isIn G T p0 p1 p2 sz) (QX3_isIn G T p0 p1 p2 sz) 0 0 (va_A ([] : va_W) sz) := by
  refine Met.ofW (cc := cX3_isIn) (maxL := 3) (ret := (some .boolean)) (by decide) rfl ?_
  intro p e s m args below meth c s₁ B hml hv
  obtain ⟨rfl, hsz, hP, hK, hD0, hE⟩ := hv
  have hx := B.exec
  have hb := B.bytes
  have hr := B.returns
  have hts := atoms_spec (ws := wsX3_isIn) B.pre
  have hown : s.vm.findClass RX3 = some m.cls := findClass_of_methodNamed B.named
  have hlocks := B.notSynchronized
  subst hsz
  have hD := hD0.self (sz := s.heap.size)
  have hA : ∀ q : Nat, s.heap.size ≤ q → (va_A ([] : va_W) s.heap.size) q := fun q h => Or.inr h
  have hS : va_S (va_A ([] : va_W) s.heap.size) s.heap s.heap [] := va_S.rf
  have hl := lv_entry ([.int p0, .int p1, .int p2]) (n := 3) (Nat.le_of_ble_eq_true rfl)
  rw [lg_entry_eq]
  generalize (lg_sl ([.int p0, .int p1, .int p2]) ++ List.replicate (3 - (lg_sl ([.int p0, .int p1, .int p2])).length) Slot.unset).toArray = ls at hl ⊢
  have hl : lv_has ls 3 [(0, .int p0), (1, .int p1), (2, .int p2)] := hl
  have hP : va_P G vwCl (([] : va_W)) s.heap := hP
  refine lv_iload_n hx hb dX3_isIn_0 rfl (lv_at hl 0 rfl) ?_
  refine lv_iload_n hx hb dX3_isIn_1 rfl (lv_at hl 1 rfl) ?_
  refine lv_icmp_lt (tgt := 14) hx hb dX3_isIn_2 (by decide) (fun c2 => ?_) (fun c2 => ?_)
  · skip
    refine lv_iconst (v := 0) hx hb dX3_isIn_14 (by decide) ?_
    exact W.zret (v := 0) hx hb hr (by decide) (fun t ht9 hW => ⟨⟨0, (), rfl, by simp [bI, okR, c2], gBi ht9 (gfin hP (rfl))⟩, hS.F ht9⟩) hS.2.2 dX3_isIn_15
  · skip
    refine lv_iload_n hx hb dX3_isIn_5 rfl (lv_at hl 0 rfl) ?_
    refine lv_iload_n hx hb dX3_isIn_6 rfl (lv_at hl 2 rfl) ?_
    refine lv_icmp_gt (tgt := 14) hx hb dX3_isIn_7 (by decide) (fun c7 => ?_) (fun c7 => ?_)
    · skip
      refine lv_iconst (v := 0) hx hb dX3_isIn_14 (by decide) ?_
      exact W.zret (v := 0) hx hb hr (by decide) (fun t ht9 hW => ⟨⟨0, (), rfl, by simp [bI, okR, c2, c7], gBi ht9 (gfin hP (rfl))⟩, hS.F ht9⟩) hS.2.2 dX3_isIn_15
    · skip
      refine lv_iconst (v := 1) hx hb dX3_isIn_10 (by decide) ?_
      refine lv_goto (tgt := 15) hx hb dX3_isIn_11 (by decide) ?_
      exact W.zret (v := 1) hx hb hr (by decide) (fun t ht9 hW => ⟨⟨1, (), rfl, by simp [bI, okR, c2, c7], gBi ht9 (gfin hP (rfl))⟩, hS.F ht9⟩) hS.2.2 dX3_isIn_15
abbrev PX3_isName (G : va_G) (T : Nat → ClassId) (p0 : Int32) (sz : Nat) : Array Value → State → Prop := gPc G T [.int p0] ([] : va_W) sz
abbrev QX3_isName (G : va_G) (T : Nat → ClassId) (p0 : Int32) (sz : Nat) : Array Value → State → Outcome → State → Prop := va_Qi (fun (r : Int32) (_ : Unit) => r = bI (okI p0 16)) (gB G (([] : va_W))) (va_A ([] : va_W) sz)
set_option maxHeartbeats 4000000 in
set_option maxRecDepth 100000 in
theorem kX3_isName (l : Launch) (G : va_G) (T : Nat → ClassId) (p0 : Int32) (sz : Nat)  : Met l yX3_isName wsX3_isName ({ frames := 1, cells := 0, slots := 0, locals := 22 } : Room) (PX3_isName G T p0 sz) (QX3_isName G T p0 sz) 0 0 (va_A ([] : va_W) sz) := by
  refine Met.ofW (cc := cX3_isName) (maxL := 1) (ret := (some .boolean)) (by decide) rfl ?_
  intro p e s m args below meth c s₁ B hml hv
  obtain ⟨rfl, hsz, hP, hK, hD0, hE⟩ := hv
  have hx := B.exec
  have hb := B.bytes
  have hr := B.returns
  have hts := atoms_spec (ws := wsX3_isName) B.pre
  have hown : s.vm.findClass RX3 = some m.cls := findClass_of_methodNamed B.named
  have hlocks := B.notSynchronized
  subst hsz
  have hD := hD0.self (sz := s.heap.size)
  have hA : ∀ q : Nat, s.heap.size ≤ q → (va_A ([] : va_W) s.heap.size) q := fun q h => Or.inr h
  have hS : va_S (va_A ([] : va_W) s.heap.size) s.heap s.heap [] := va_S.rf
  have hl := lv_entry ([.int p0]) (n := 1) (Nat.le_of_ble_eq_true rfl)
  rw [lg_entry_eq]
  generalize (lg_sl ([.int p0]) ++ List.replicate (1 - (lg_sl ([.int p0])).length) Slot.unset).toArray = ls at hl ⊢
  have hl : lv_has ls 1 [(0, .int p0)] := hl
  have hP : va_P G vwCl (([] : va_W)) s.heap := hP
  refine lv_iload_n hx hb dX3_isName_0 rfl (lv_at hl 0 rfl) ?_
  refine lv_iconst (v := 0) hx hb dX3_isName_1 (by decide) ?_
  refine lv_bipush (v := 15) hx hb dX3_isName_2 (by decide) ?_
  refine gci (va_runS (As := [.int p0, .int 0, .int 15]) (rest := []) ⟨hx, hb, hml, hown, hts⟩ (kX3_isIn l G T p0 0 15 _) (va_cwS 3 hts gX3_isName_X3_isIn rfl rfl rfl (by decide +kernel) ⟨Nat.le_of_ble_eq_true rfl, Nat.le_of_ble_eq_true rfl⟩) ⟨gblind, gpre hE hK hP hD hS hA [] rfl rfl⟩ rfl rfl hl.1 rfl (lv_room (Nat.le_of_ble_eq_true rfl)) dX3_isName_4 ⟨Nat.le_of_ble_eq_true rfl, Nat.le_of_ble_eq_true rfl⟩) hP hD hS hA [] rfl rfl (fun r9 H locs hw hP hD hS => ?_)
  have hP : va_P G vwCl (([] : va_W)) H := hP
  have hD : va_D (va_A ([] : va_W) s.heap.size) (([] : va_W)) := hD
  subst hw
  exact W.zret (v := bI (okR p0 0 15)) hx hb hr (bI_ok _) (fun t ht9 hW => ⟨⟨bI (okR p0 0 15), (), rfl, by rw [okR_15], gBi ht9 (gfin hP (rfl))⟩, hS.F ht9⟩) hS.2.2 dX3_isName_7
abbrev PX3_isOwner (G : va_G) (T : Nat → ClassId) (p0 : Int32) (sz : Nat) : Array Value → State → Prop := gPc G T [.int p0] ([] : va_W) sz
abbrev QX3_isOwner (G : va_G) (T : Nat → ClassId) (p0 : Int32) (sz : Nat) : Array Value → State → Outcome → State → Prop := va_Qi (fun (r : Int32) (_ : Unit) => r = bI (okI p0 6)) (gB G (([] : va_W))) (va_A ([] : va_W) sz)
set_option maxHeartbeats 4000000 in
set_option maxRecDepth 100000 in
theorem kX3_isOwner (l : Launch) (G : va_G) (T : Nat → ClassId) (p0 : Int32) (sz : Nat)  : Met l yX3_isOwner wsX3_isOwner ({ frames := 1, cells := 0, slots := 0, locals := 22 } : Room) (PX3_isOwner G T p0 sz) (QX3_isOwner G T p0 sz) 0 0 (va_A ([] : va_W) sz) := by
  refine Met.ofW (cc := cX3_isOwner) (maxL := 1) (ret := (some .boolean)) (by decide) rfl ?_
  intro p e s m args below meth c s₁ B hml hv
  obtain ⟨rfl, hsz, hP, hK, hD0, hE⟩ := hv
  have hx := B.exec
  have hb := B.bytes
  have hr := B.returns
  have hts := atoms_spec (ws := wsX3_isOwner) B.pre
  have hown : s.vm.findClass RX3 = some m.cls := findClass_of_methodNamed B.named
  have hlocks := B.notSynchronized
  subst hsz
  have hD := hD0.self (sz := s.heap.size)
  have hA : ∀ q : Nat, s.heap.size ≤ q → (va_A ([] : va_W) s.heap.size) q := fun q h => Or.inr h
  have hS : va_S (va_A ([] : va_W) s.heap.size) s.heap s.heap [] := va_S.rf
  have hl := lv_entry ([.int p0]) (n := 1) (Nat.le_of_ble_eq_true rfl)
  rw [lg_entry_eq]
  generalize (lg_sl ([.int p0]) ++ List.replicate (1 - (lg_sl ([.int p0])).length) Slot.unset).toArray = ls at hl ⊢
  have hl : lv_has ls 1 [(0, .int p0)] := hl
  have hP : va_P G vwCl (([] : va_W)) s.heap := hP
  refine lv_iload_n hx hb dX3_isOwner_0 rfl (lv_at hl 0 rfl) ?_
  refine lv_iconst (v := 0) hx hb dX3_isOwner_1 (by decide) ?_
  refine lv_iconst (v := 5) hx hb dX3_isOwner_2 (by decide) ?_
  refine gci (va_runS (As := [.int p0, .int 0, .int 5]) (rest := []) ⟨hx, hb, hml, hown, hts⟩ (kX3_isIn l G T p0 0 5 _) (va_cwS 3 hts gX3_isOwner_X3_isIn rfl rfl rfl (by decide +kernel) ⟨Nat.le_of_ble_eq_true rfl, Nat.le_of_ble_eq_true rfl⟩) ⟨gblind, gpre hE hK hP hD hS hA [] rfl rfl⟩ rfl rfl hl.1 rfl (lv_room (Nat.le_of_ble_eq_true rfl)) dX3_isOwner_3 ⟨Nat.le_of_ble_eq_true rfl, Nat.le_of_ble_eq_true rfl⟩) hP hD hS hA [] rfl rfl (fun r9 H locs hw hP hD hS => ?_)
  have hP : va_P G vwCl (([] : va_W)) H := hP
  have hD : va_D (va_A ([] : va_W) s.heap.size) (([] : va_W)) := hD
  subst hw
  exact W.zret (v := bI (okR p0 0 5)) hx hb hr (bI_ok _) (fun t ht9 hW => ⟨⟨bI (okR p0 0 5), (), rfl, by rw [okR_5], gBi ht9 (gfin hP (rfl))⟩, hS.F ht9⟩) hS.2.2 dX3_isOwner_6
abbrev PX3_isPlace (G : va_G) (T : Nat → ClassId) (p0 p1 : Int32) (sz : Nat) : Array Value → State → Prop := gPc G T [.int p0, .int p1] ([] : va_W) sz
abbrev QX3_isPlace (G : va_G) (T : Nat → ClassId) (p0 p1 : Int32) (sz : Nat) : Array Value → State → Outcome → State → Prop := va_Qi (fun (r : Int32) (_ : Unit) => r = bI (okI p0 3 && okI p1 16)) (gB G (([] : va_W))) (va_A ([] : va_W) sz)
set_option maxHeartbeats 4000000 in
set_option maxRecDepth 100000 in
theorem kX3_isPlace (l : Launch) (G : va_G) (T : Nat → ClassId) (p0 p1 : Int32) (sz : Nat)  : Met l yX3_isPlace wsX3_isPlace ({ frames := 2, cells := 0, slots := 0, locals := 42 } : Room) (PX3_isPlace G T p0 p1 sz) (QX3_isPlace G T p0 p1 sz) 0 0 (va_A ([] : va_W) sz) := by
  refine Met.ofW (cc := cX3_isPlace) (maxL := 2) (ret := (some .boolean)) (by decide) rfl ?_
  intro p e s m args below meth c s₁ B hml hv
  obtain ⟨rfl, hsz, hP, hK, hD0, hE⟩ := hv
  have hx := B.exec
  have hb := B.bytes
  have hr := B.returns
  have hts := atoms_spec (ws := wsX3_isPlace) B.pre
  have hown : s.vm.findClass RX3 = some m.cls := findClass_of_methodNamed B.named
  have hlocks := B.notSynchronized
  subst hsz
  have hD := hD0.self (sz := s.heap.size)
  have hA : ∀ q : Nat, s.heap.size ≤ q → (va_A ([] : va_W) s.heap.size) q := fun q h => Or.inr h
  have hS : va_S (va_A ([] : va_W) s.heap.size) s.heap s.heap [] := va_S.rf
  have hl := lv_entry ([.int p0, .int p1]) (n := 2) (Nat.le_of_ble_eq_true rfl)
  rw [lg_entry_eq]
  generalize (lg_sl ([.int p0, .int p1]) ++ List.replicate (2 - (lg_sl ([.int p0, .int p1])).length) Slot.unset).toArray = ls at hl ⊢
  have hl : lv_has ls 2 [(0, .int p0), (1, .int p1)] := hl
  have hP : va_P G vwCl (([] : va_W)) s.heap := hP
  refine lv_iload_n hx hb dX3_isPlace_0 rfl (lv_at hl 0 rfl) ?_
  refine lv_iconst (v := 0) hx hb dX3_isPlace_1 (by decide) ?_
  refine lv_iconst (v := 2) hx hb dX3_isPlace_2 (by decide) ?_
  refine gci (va_runS (As := [.int p0, .int 0, .int 2]) (rest := []) ⟨hx, hb, hml, hown, hts⟩ (kX3_isIn l G T p0 0 2 _) (va_cwS 3 hts gX3_isPlace_X3_isIn rfl rfl rfl (by decide +kernel) ⟨Nat.le_of_ble_eq_true rfl, Nat.le_of_ble_eq_true rfl⟩) ⟨gblind, gpre hE hK hP hD hS hA [] rfl rfl⟩ rfl rfl hl.1 rfl (lv_room (Nat.le_of_ble_eq_true rfl)) dX3_isPlace_3 ⟨Nat.le_of_ble_eq_true rfl, Nat.le_of_ble_eq_true rfl⟩) hP hD hS hA [] rfl rfl (fun r9 H locs hw hP hD hS => ?_)
  have hP : va_P G vwCl (([] : va_W)) H := hP
  have hD : va_D (va_A ([] : va_W) s.heap.size) (([] : va_W)) := hD
  subst hw
  refine lv_if_eq (tgt := 20) hx hb dX3_isPlace_6 (by decide) (fun c6 => ?_) (fun c6 => ?_)
  · skip
    have t6 : (okR p0 0 2) = false := bI_f c6
    refine lv_iconst (v := 0) hx hb dX3_isPlace_20 (by decide) ?_
    exact W.zret (v := 0) hx hb hr (by decide) (fun t ht9 hW => ⟨⟨0, (), rfl, by rw [okR_2] at *; simp [bI, t6], gBi ht9 (gfin hP (rfl))⟩, hS.F ht9⟩) hS.2.2 dX3_isPlace_21
  · skip
    have t6 : (okR p0 0 2) = true := bI_t c6
    refine lv_iload_n hx hb dX3_isPlace_9 rfl (lv_at hl 1 rfl) ?_
    refine gci (va_runS (As := [.int p1]) (rest := []) ⟨hx, hb, hml, hown, hts⟩ (kX3_isName l G T p1 _) (va_cwS 1 hts gX3_isPlace_X3_isName rfl rfl rfl (by decide +kernel) ⟨Nat.le_of_ble_eq_true rfl, Nat.le_of_ble_eq_true rfl⟩) ⟨gblind, gpre hE hK hP hD hS hA [] rfl rfl⟩ rfl rfl hl.1 rfl (lv_room (Nat.le_of_ble_eq_true rfl)) dX3_isPlace_10 ⟨Nat.le_of_ble_eq_true rfl, Nat.le_of_ble_eq_true rfl⟩) hP hD hS hA [] rfl rfl (fun r9 H locs hw hP hD hS => ?_)
    have hP : va_P G vwCl (([] : va_W)) H := hP
    have hD : va_D (va_A ([] : va_W) s.heap.size) (([] : va_W)) := hD
    subst hw
    refine lv_if_eq (tgt := 20) hx hb dX3_isPlace_13 (by decide) (fun c13 => ?_) (fun c13 => ?_)
    · skip
      have t13 : (okI p1 16) = false := bI_f c13
      refine lv_iconst (v := 0) hx hb dX3_isPlace_20 (by decide) ?_
      exact W.zret (v := 0) hx hb hr (by decide) (fun t ht9 hW => ⟨⟨0, (), rfl, by rw [okR_2] at *; simp [bI, t6, t13], gBi ht9 (gfin hP (rfl))⟩, hS.F ht9⟩) hS.2.2 dX3_isPlace_21
    · skip
      have t13 : (okI p1 16) = true := bI_t c13
      refine lv_iconst (v := 1) hx hb dX3_isPlace_16 (by decide) ?_
      refine lv_goto (tgt := 21) hx hb dX3_isPlace_17 (by decide) ?_
      exact W.zret (v := 1) hx hb hr (by decide) (fun t ht9 hW => ⟨⟨1, (), rfl, by rw [okR_2] at *; simp [bI, t6, t13], gBi ht9 (gfin hP (rfl))⟩, hS.F ht9⟩) hS.2.2 dX3_isPlace_21
abbrev PX3_clears (G : va_G) (T : Nat → ClassId) (x1 : Nat) (A : Nat → Nat) (I1 : Nat → Int32) (F : Nat → Nat → Int32) (j : Nat) (sz : Nat) : Array Value → State → Prop := gPc G T [.ref x1, .int (nI j)] (cM T x1 A I1 F) sz
abbrev QX3_clears (G : va_G) (T : Nat → ClassId) (x1 : Nat) (A : Nat → Nat) (I1 : Nat → Int32) (F : Nat → Nat → Int32) (j : Nat) (sz : Nat) : Array Value → State → Outcome → State → Prop := va_Qv (fun _ : Unit => True) (gB G (cM T x1 A I1 (mClear F j))) (va_A (cM T x1 A I1 F) sz)
set_option maxHeartbeats 4000000 in
set_option maxRecDepth 100000 in
theorem kX3_clears (l : Launch) (G : va_G) (T : Nat → ClassId) (x1 : Nat) (A : Nat → Nat) (I1 : Nat → Int32) (F : Nat → Nat → Int32) (j : Nat) (sz : Nat) (hj : j < 16) : Met l yX3_clears wsX3_clears ({ frames := 0, cells := 0, slots := 0, locals := 0 } : Room) (PX3_clears G T x1 A I1 F j sz) (QX3_clears G T x1 A I1 F j sz) 0 0 (va_A (cM T x1 A I1 F) sz) := by
  refine Met.ofW (cc := cX3_clears) (maxL := 3) (ret := none) (by decide) rfl ?_
  intro p e s m args below meth c s₁ B hml hv
  obtain ⟨rfl, hsz, hP, hK, hD0, hE⟩ := hv
  have hx := B.exec
  have hb := B.bytes
  have hr := B.returns
  have hts := atoms_spec (ws := wsX3_clears) B.pre
  have hown : s.vm.findClass RX3 = some m.cls := findClass_of_methodNamed B.named
  have hlocks := B.notSynchronized
  subst hsz
  have hD := hD0.self (sz := s.heap.size)
  have hA : ∀ q : Nat, s.heap.size ≤ q → (va_A (cM T x1 A I1 F) s.heap.size) q := fun q h => Or.inr h
  have hS : va_S (va_A (cM T x1 A I1 F) s.heap.size) s.heap s.heap [] := va_S.rf
  have hiRX3 : ∀ w ∈ u_ws RX3 TX3 18, w ∈ wsX3_clears := by decide +kernel
  have hl := lv_entry ([.ref x1, .int (nI j)]) (n := 3) (Nat.le_of_ble_eq_true rfl)
  rw [lg_entry_eq]
  generalize (lg_sl ([.ref x1, .int (nI j)]) ++ List.replicate (3 - (lg_sl ([.ref x1, .int (nI j)])).length) Slot.unset).toArray = ls at hl ⊢
  have hl : lv_has ls 3 [(0, .ref x1), (1, .int (nI j))] := hl
  have hP : va_P G vwCl (cM T x1 A I1 F) s.heap := hP
  refine lv_bipush (v := 6) hx hb dX3_clears_0 (by decide) ?_
  refine lv_iload_n hx hb dX3_clears_2 rfl (lv_at hl 1 rfl) ?_
  refine lv_imul hx hb dX3_clears_3 ?_
  refine gtop (y := nI (6 * j)) (pk_mul 6 j) ?_
  refine lv_istore_n (lv' := [(2, .int (nI (6 * j))), (0, .ref x1), (1, .int (nI j))]) hx hb dX3_clears_4 rfl hl (by decide) rfl (fun ls hl => ?_)
  have J5 : ∀ n9 : Nat, ∀ (i : Nat) (H : Heap) (locs : List Loc) (ls : Array Slot), (i ≤ 6) → (7 ≤ i + n9) → va_P G vwCl (cM T x1 A I1 (updA F 11 (mClr (F 11) j i))) H → va_D (va_A (cM T x1 A I1 F) s.heap.size) (cM T x1 A I1 (updA F 11 (mClr (F 11) j i))) → va_S (va_A (cM T x1 A I1 F) s.heap.size) s.heap H locs → lv_has ls 3 [(0, .ref x1), (1, .int (nI j)), (2, .int (nI (6 * j + i)))] → W p l e (headSpec wsX3_clears ({ frames := 0, cells := 0, slots := 0, locals := 0 } : Room)).room s m ([.ref x1, .int (nI j)] : List Value).toArray below meth c H locs 0 0 (MQ below (QX3_clears G T x1 A I1 F j s.heap.size) ([.ref x1, .int (nI j)] : List Value).toArray s 0 0 (va_A (cM T x1 A I1 F) s.heap.size)) (F0 m 5 ls []) := by
    intro n9
    induction n9 with
    | zero => intro i H locs ls hi hm hP hD hS hl; exact absurd (hm) (by omega)
    | succ n9 ih5 =>
      intro i H locs ls hi hm hP hD hS hl
      refine lv_iload_n hx hb dX3_clears_5 rfl (lv_at hl 2 rfl) ?_
      refine lv_bipush (v := 6) hx hb dX3_clears_6 (by decide) ?_
      refine lv_iload_n hx hb dX3_clears_8 rfl (lv_at hl 1 rfl) ?_
      refine lv_imul hx hb dX3_clears_9 ?_
      refine gtop (y := nI (6 * j)) (pk_mul 6 j) ?_
      refine lv_bipush (v := 6) hx hb dX3_clears_10 (by decide) ?_
      refine lv_iadd hx hb dX3_clears_12 ?_
      refine gtop (y := nI ((6 * j) + 6)) (nI_add (6 * j) 6) ?_
      refine lv_icmp_ge (tgt := 29) hx hb dX3_clears_13 (by decide) (fun c13 => ?_) (fun c13 => ?_)
      · skip
        have hge : i = 6 := by
          rcases Nat.lt_or_ge i 6 with q | q
          · exact absurd c13 (nI_ge (show 6 * j + i < 6 * j + 6 by omega) (by omega))
          · omega
        exact W.vret hx hb hr (fun t ht9 hW => ⟨⟨(), rfl, trivial, gBi ht9 (gfin hP (by rw [hge]; rfl))⟩, hS.F ht9⟩) hS.2.2 dX3_clears_29
      · skip
        have hlt : i < 6 := by
          rcases Nat.lt_or_ge i 6 with q | q
          · exact q
          · exact absurd (nI_le (show 6 * j + 6 ≤ 6 * j + i by omega) (by omega)) c13
        refine lv_aload_n hx hb dX3_clears_16 rfl (lv_at hl 0 rfl) ?_
        refine va_get (D := G) (ci := 3) (v := .ref (A 11)) (C := RX3) (T := TX3) (N := 18) hx hb hts hiRX3 hown hK hP 0 rfl rfl 11 (by decide) (hts (.fieldLink RX3 37 "NameAuctionModel" "amount" "[I") (by decide +kernel)) (fun _ h9 => h9) rfl dX3_clears_17 ?_
        refine lv_iload_n hx hb dX3_clears_20 rfl (lv_at hl 2 rfl) ?_
        refine lv_iconst (v := 0) hx hb dX3_clears_21 (by decide) ?_
        refine giast (j := (6 * j + i)) hx hb hK hP hD hS 10 0 rfl rfl (show (nI (6 * j + i) : Int32) = nI (6 * j + i) from rfl) (by omega) (by decide) dX3_clears_22 (fun H locs hP hD hS => ?_)
        have hP : va_P G vwCl (cM T x1 A I1 (updA F 11 (upd (mClr (F 11) j i) (6 * j + i) 0))) H := hP
        have hD : va_D (va_A (cM T x1 A I1 F) s.heap.size) (cM T x1 A I1 (updA F 11 (upd (mClr (F 11) j i) (6 * j + i) 0))) := hD
        refine lv_iinc (v := nI ((6 * j + i) + 1)) (lv' := [(2, .int (nI ((6 * j + i) + 1))), (0, .ref x1), (1, .int (nI j))]) hx hb dX3_clears_23 hl (k := 2) rfl (by first | rfl | exact (nI_add (6 * j + i) 1)) (by decide) rfl (fun ls hl => ?_)
        refine lv_goto (tgt := 5) hx hb dX3_clears_26 (by decide) ?_
        exact ih5 (i + 1) _ _ _ (by omega) (by omega) (gfin hP (by rw [mClr_up])) (gfinD hD (by rw [mClr_up])) hS (lv_sub hl [1, 2, 0] rfl)
  exact J5 7 0 _ _ _ (by omega) (by omega) (gfin hP (by rw [mClr_0, updA_self])) (gfinD hD (by rw [mClr_0, updA_self])) hS (lv_sub hl [1, 2, 0] rfl)
abbrev PX3_leases (G : va_G) (T : Nat → ClassId) (x1 : Nat) (A : Nat → Nat) (I1 : Nat → Int32) (F : Nat → Nat → Int32) (j : Nat) (p1 : Int32) (sz : Nat) : Array Value → State → Prop := gPc G T [.ref x1, .int (nI j), .int p1] (cM T x1 A I1 F) sz
abbrev QX3_leases (G : va_G) (T : Nat → ClassId) (x1 : Nat) (A : Nat → Nat) (I1 : Nat → Int32) (F : Nat → Nat → Int32) (j : Nat) (p1 : Int32) (sz : Nat) : Array Value → State → Outcome → State → Prop := va_Qv (fun _ : Unit => True) (gB G (cM T x1 A I1 (mLease F j p1 (I1 0)))) (va_A (cM T x1 A I1 F) sz)
set_option maxHeartbeats 4000000 in
set_option maxRecDepth 100000 in
theorem kX3_leases (l : Launch) (G : va_G) (T : Nat → ClassId) (x1 : Nat) (A : Nat → Nat) (I1 : Nat → Int32) (F : Nat → Nat → Int32) (j : Nat) (p1 : Int32) (sz : Nat) (hj : j < 16) : Met l yX3_leases wsX3_leases ({ frames := 0, cells := 0, slots := 0, locals := 0 } : Room) (PX3_leases G T x1 A I1 F j p1 sz) (QX3_leases G T x1 A I1 F j p1 sz) 0 0 (va_A (cM T x1 A I1 F) sz) := by
  refine Met.ofW (cc := cX3_leases) (maxL := 3) (ret := none) (by decide) rfl ?_
  intro p e s m args below meth c s₁ B hml hv
  obtain ⟨rfl, hsz, hP, hK, hD0, hE⟩ := hv
  have hx := B.exec
  have hb := B.bytes
  have hr := B.returns
  have hts := atoms_spec (ws := wsX3_leases) B.pre
  have hown : s.vm.findClass RX3 = some m.cls := findClass_of_methodNamed B.named
  have hlocks := B.notSynchronized
  subst hsz
  have hD := hD0.self (sz := s.heap.size)
  have hA : ∀ q : Nat, s.heap.size ≤ q → (va_A (cM T x1 A I1 F) s.heap.size) q := fun q h => Or.inr h
  have hS : va_S (va_A (cM T x1 A I1 F) s.heap.size) s.heap s.heap [] := va_S.rf
  have hiRX3 : ∀ w ∈ u_ws RX3 TX3 18, w ∈ wsX3_leases := by decide +kernel
  have hl := lv_entry ([.ref x1, .int (nI j), .int p1]) (n := 3) (Nat.le_of_ble_eq_true rfl)
  rw [lg_entry_eq]
  generalize (lg_sl ([.ref x1, .int (nI j), .int p1]) ++ List.replicate (3 - (lg_sl ([.ref x1, .int (nI j), .int p1])).length) Slot.unset).toArray = ls at hl ⊢
  have hl : lv_has ls 3 [(0, .ref x1), (1, .int (nI j)), (2, .int p1)] := hl
  have hP : va_P G vwCl (cM T x1 A I1 F) s.heap := hP
  refine lv_aload_n hx hb dX3_leases_0 rfl (lv_at hl 0 rfl) ?_
  refine va_get (D := G) (ci := 3) (v := .ref (A 3)) (C := RX3) (T := TX3) (N := 18) hx hb hts hiRX3 hown hK hP 0 rfl rfl 3 (by decide) (hts (.fieldLink RX3 13 "NameAuctionModel" "state" "[I") (by decide +kernel)) (fun _ h9 => h9) rfl dX3_leases_1 ?_
  refine lv_iload_n hx hb dX3_leases_4 rfl (lv_at hl 1 rfl) ?_
  refine lv_iconst (v := 2) hx hb dX3_leases_5 (by decide) ?_
  refine giast (j := j) hx hb hK hP hD hS 2 0 rfl rfl (show (nI j : Int32) = nI j from rfl) (by omega) (by decide) dX3_leases_6 (fun H locs hP hD hS => ?_)
  have hP : va_P G vwCl (cM T x1 A I1 (updA F 3 (upd (F 3) j 2))) H := hP
  have hD : va_D (va_A (cM T x1 A I1 F) s.heap.size) (cM T x1 A I1 (updA F 3 (upd (F 3) j 2))) := hD
  refine lv_aload_n hx hb dX3_leases_7 rfl (lv_at hl 0 rfl) ?_
  refine va_get (D := G) (ci := 3) (v := .ref (A 4)) (C := RX3) (T := TX3) (N := 18) hx hb hts hiRX3 hown hK hP 0 rfl rfl 4 (by decide) (hts (.fieldLink RX3 16 "NameAuctionModel" "owner" "[I") (by decide +kernel)) (fun _ h9 => h9) rfl dX3_leases_8 ?_
  refine lv_iload_n hx hb dX3_leases_11 rfl (lv_at hl 1 rfl) ?_
  refine lv_iload_n hx hb dX3_leases_12 rfl (lv_at hl 2 rfl) ?_
  refine giast (j := j) hx hb hK hP hD hS 3 0 rfl rfl (show (nI j : Int32) = nI j from rfl) (by omega) (by decide) dX3_leases_13 (fun H locs hP hD hS => ?_)
  have hP : va_P G vwCl (cM T x1 A I1 (updA (updA F 3 (upd (F 3) j 2)) 4 (upd (F 4) j p1))) H := hP
  have hD : va_D (va_A (cM T x1 A I1 F) s.heap.size) (cM T x1 A I1 (updA (updA F 3 (upd (F 3) j 2)) 4 (upd (F 4) j p1))) := hD
  refine lv_aload_n hx hb dX3_leases_14 rfl (lv_at hl 0 rfl) ?_
  refine va_get (D := G) (ci := 3) (v := .ref (A 5)) (C := RX3) (T := TX3) (N := 18) hx hb hts hiRX3 hown hK hP 0 rfl rfl 5 (by decide) (hts (.fieldLink RX3 19 "NameAuctionModel" "day" "[I") (by decide +kernel)) (fun _ h9 => h9) rfl dX3_leases_15 ?_
  refine lv_iload_n hx hb dX3_leases_18 rfl (lv_at hl 1 rfl) ?_
  refine lv_aload_n hx hb dX3_leases_19 rfl (lv_at hl 0 rfl) ?_
  refine va_get (D := G) (ci := 3) (v := .int (I1 0)) (C := RX3) (T := TX3) (N := 18) hx hb hts hiRX3 hown hK hP 0 rfl rfl 0 (by decide) (hts (.fieldLink RX3 71 "NameAuctionModel" "today" "I") (by decide +kernel)) (fun _ h9 => h9) rfl dX3_leases_20 ?_
  refine lv_bipush (v := 100) hx hb dX3_leases_23 (by decide) ?_
  refine lv_iadd hx hb dX3_leases_25 ?_
  refine giast (j := j) hx hb hK hP hD hS 4 0 rfl rfl (show (nI j : Int32) = nI j from rfl) (by omega) (by decide) dX3_leases_26 (fun H locs hP hD hS => ?_)
  have hP : va_P G vwCl (cM T x1 A I1 (updA (updA (updA F 3 (upd (F 3) j 2)) 4 (upd (F 4) j p1)) 5 (upd (F 5) j ((I1 0) + 100)))) H := hP
  have hD : va_D (va_A (cM T x1 A I1 F) s.heap.size) (cM T x1 A I1 (updA (updA (updA F 3 (upd (F 3) j 2)) 4 (upd (F 4) j p1)) 5 (upd (F 5) j ((I1 0) + 100)))) := hD
  refine lv_aload_n hx hb dX3_leases_27 rfl (lv_at hl 0 rfl) ?_
  refine va_get (D := G) (ci := 3) (v := .ref (A 6)) (C := RX3) (T := TX3) (N := 18) hx hb hts hiRX3 hown hK hP 0 rfl rfl 6 (by decide) (hts (.fieldLink RX3 22 "NameAuctionModel" "record" "[I") (by decide +kernel)) (fun _ h9 => h9) rfl dX3_leases_28 ?_
  refine lv_iload_n hx hb dX3_leases_31 rfl (lv_at hl 1 rfl) ?_
  refine lv_iconst (v := 0) hx hb dX3_leases_32 (by decide) ?_
  refine giast (j := j) hx hb hK hP hD hS 5 0 rfl rfl (show (nI j : Int32) = nI j from rfl) (by omega) (by decide) dX3_leases_33 (fun H locs hP hD hS => ?_)
  have hP : va_P G vwCl (cM T x1 A I1 (updA (updA (updA (updA F 3 (upd (F 3) j 2)) 4 (upd (F 4) j p1)) 5 (upd (F 5) j ((I1 0) + 100))) 6 (upd (F 6) j 0))) H := hP
  have hD : va_D (va_A (cM T x1 A I1 F) s.heap.size) (cM T x1 A I1 (updA (updA (updA (updA F 3 (upd (F 3) j 2)) 4 (upd (F 4) j p1)) 5 (upd (F 5) j ((I1 0) + 100))) 6 (upd (F 6) j 0))) := hD
  refine lv_aload_n hx hb dX3_leases_34 rfl (lv_at hl 0 rfl) ?_
  refine va_get (D := G) (ci := 3) (v := .ref (A 7)) (C := RX3) (T := TX3) (N := 18) hx hb hts hiRX3 hown hK hP 0 rfl rfl 7 (by decide) (hts (.fieldLink RX3 25 "NameAuctionModel" "lifetime" "[I") (by decide +kernel)) (fun _ h9 => h9) rfl dX3_leases_35 ?_
  refine lv_iload_n hx hb dX3_leases_38 rfl (lv_at hl 1 rfl) ?_
  refine lv_bipush (v := 10) hx hb dX3_leases_39 (by decide) ?_
  refine giast (j := j) hx hb hK hP hD hS 6 0 rfl rfl (show (nI j : Int32) = nI j from rfl) (by omega) (by decide) dX3_leases_41 (fun H locs hP hD hS => ?_)
  have hP : va_P G vwCl (cM T x1 A I1 (updA (updA (updA (updA (updA F 3 (upd (F 3) j 2)) 4 (upd (F 4) j p1)) 5 (upd (F 5) j ((I1 0) + 100))) 6 (upd (F 6) j 0)) 7 (upd (F 7) j 10))) H := hP
  have hD : va_D (va_A (cM T x1 A I1 F) s.heap.size) (cM T x1 A I1 (updA (updA (updA (updA (updA F 3 (upd (F 3) j 2)) 4 (upd (F 4) j p1)) 5 (upd (F 5) j ((I1 0) + 100))) 6 (upd (F 6) j 0)) 7 (upd (F 7) j 10))) := hD
  exact W.vret hx hb hr (fun t ht9 hW => ⟨⟨(), rfl, trivial, gBi ht9 (gfin hP (rfl))⟩, hS.F ht9⟩) hS.2.2 dX3_leases_42
abbrev PX3_pays (G : va_G) (T : Nat → ClassId) (x1 : Nat) (A : Nat → Nat) (I1 : Nat → Int32) (F : Nat → Nat → Int32) (o : Nat) (p1 : Int32) (sz : Nat) : Array Value → State → Prop := gPc G T [.ref x1, .int (nI o), .int p1] (cM T x1 A I1 F) sz
abbrev QX3_pays (G : va_G) (T : Nat → ClassId) (x1 : Nat) (A : Nat → Nat) (I1 : Nat → Int32) (F : Nat → Nat → Int32) (o : Nat) (p1 : Int32) (sz : Nat) : Array Value → State → Outcome → State → Prop := va_Qv (fun _ : Unit => True) (gB G (cM T x1 A (upd I1 1 (I1 1 + p1)) (mPayF F o p1))) (va_A (cM T x1 A I1 F) sz)
set_option maxHeartbeats 4000000 in
set_option maxRecDepth 100000 in
theorem kX3_pays (l : Launch) (G : va_G) (T : Nat → ClassId) (x1 : Nat) (A : Nat → Nat) (I1 : Nat → Int32) (F : Nat → Nat → Int32) (o : Nat) (p1 : Int32) (sz : Nat) (ho : o < 6) : Met l yX3_pays wsX3_pays ({ frames := 0, cells := 0, slots := 0, locals := 0 } : Room) (PX3_pays G T x1 A I1 F o p1 sz) (QX3_pays G T x1 A I1 F o p1 sz) 0 0 (va_A (cM T x1 A I1 F) sz) := by
  refine Met.ofW (cc := cX3_pays) (maxL := 3) (ret := none) (by decide) rfl ?_
  intro p e s m args below meth c s₁ B hml hv
  obtain ⟨rfl, hsz, hP, hK, hD0, hE⟩ := hv
  have hx := B.exec
  have hb := B.bytes
  have hr := B.returns
  have hts := atoms_spec (ws := wsX3_pays) B.pre
  have hown : s.vm.findClass RX3 = some m.cls := findClass_of_methodNamed B.named
  have hlocks := B.notSynchronized
  subst hsz
  have hD := hD0.self (sz := s.heap.size)
  have hA : ∀ q : Nat, s.heap.size ≤ q → (va_A (cM T x1 A I1 F) s.heap.size) q := fun q h => Or.inr h
  have hS : va_S (va_A (cM T x1 A I1 F) s.heap.size) s.heap s.heap [] := va_S.rf
  have hiRX3 : ∀ w ∈ u_ws RX3 TX3 18, w ∈ wsX3_pays := by decide +kernel
  have hl := lv_entry ([.ref x1, .int (nI o), .int p1]) (n := 3) (Nat.le_of_ble_eq_true rfl)
  rw [lg_entry_eq]
  generalize (lg_sl ([.ref x1, .int (nI o), .int p1]) ++ List.replicate (3 - (lg_sl ([.ref x1, .int (nI o), .int p1])).length) Slot.unset).toArray = ls at hl ⊢
  have hl : lv_has ls 3 [(0, .ref x1), (1, .int (nI o)), (2, .int p1)] := hl
  have hP : va_P G vwCl (cM T x1 A I1 F) s.heap := hP
  refine lv_aload_n hx hb dX3_pays_0 rfl (lv_at hl 0 rfl) ?_
  refine va_get (D := G) (ci := 3) (v := .ref (A 2)) (C := RX3) (T := TX3) (N := 18) hx hb hts hiRX3 hown hK hP 0 rfl rfl 2 (by decide) (hts (.fieldLink RX3 7 "NameAuctionModel" "funds" "[I") (by decide +kernel)) (fun _ h9 => h9) rfl dX3_pays_1 ?_
  refine lv_iload_n hx hb dX3_pays_4 rfl (lv_at hl 1 rfl) ?_
  refine lv_dup2_11 hx hb dX3_pays_5 rfl rfl ?_
  refine giald (j := o) hx hb hK hP 1 0 rfl rfl (show (nI o : Int32) = nI o from rfl) (by omega) (by decide) dX3_pays_6 ?_
  refine lv_iload_n hx hb dX3_pays_7 rfl (lv_at hl 2 rfl) ?_
  refine lv_isub hx hb dX3_pays_8 ?_
  refine giast (j := o) hx hb hK hP hD hS 1 0 rfl rfl (show (nI o : Int32) = nI o from rfl) (by omega) (by decide) dX3_pays_9 (fun H locs hP hD hS => ?_)
  have hP : va_P G vwCl (cM T x1 A I1 (updA F 2 (upd (F 2) o (((F 2) o) - p1)))) H := hP
  have hD : va_D (va_A (cM T x1 A I1 F) s.heap.size) (cM T x1 A I1 (updA F 2 (upd (F 2) o (((F 2) o) - p1)))) := hD
  refine lv_aload_n hx hb dX3_pays_10 rfl (lv_at hl 0 rfl) ?_
  refine lv_dup hx hb dX3_pays_11 rfl ?_
  refine va_get (D := G) (ci := 3) (v := .int (I1 1)) (C := RX3) (T := TX3) (N := 18) hx hb hts hiRX3 hown hK hP 0 rfl rfl 1 (by decide) (hts (.fieldLink RX3 77 "NameAuctionModel" "takings" "I") (by decide +kernel)) (fun _ h9 => h9) rfl dX3_pays_12 ?_
  refine lv_iload_n hx hb dX3_pays_15 rfl (lv_at hl 2 rfl) ?_
  refine lv_iadd hx hb dX3_pays_16 ?_
  refine va_put (D := G) (ci := 3) (v := .int ((I1 1) + p1)) (ty := .int) (C := RX3) (T := TX3) (N := 18) hx hb hts hiRX3 tyX3 tyX3_ok nmX3 hown hK hP hD hS 0 rfl rfl 1 (by decide) (hts (.fieldLink RX3 77 "NameAuctionModel" "takings" "I") (by decide +kernel)) (fun _ h9 => h9) rfl (by decide +kernel) rfl rfl (Nat.le_of_ble_eq_true rfl) dX3_pays_17 (fun H locs hP hD hS => ?_)
  have hP : va_P G vwCl (cM T x1 A (upd I1 1 ((I1 1) + p1)) (updA F 2 (upd (F 2) o (((F 2) o) - p1)))) H := hP
  have hD : va_D (va_A (cM T x1 A I1 F) s.heap.size) (cM T x1 A (upd I1 1 ((I1 1) + p1)) (updA F 2 (upd (F 2) o (((F 2) o) - p1)))) := hD
  exact W.vret hx hb hr (fun t ht9 hW => ⟨⟨(), rfl, trivial, gBi ht9 (gfin hP (rfl))⟩, hS.F ht9⟩) hS.2.2 dX3_pays_20
abbrev PX3_nextOf (G : va_G) (T : Nat → ClassId) (x1 : Nat) (A : Nat → Nat) (I1 : Nat → Int32) (F : Nat → Nat → Int32) (j : Nat) (sz : Nat) : Array Value → State → Prop := gPc G T [.ref x1, .int (nI j)] (cM T x1 A I1 F) sz
abbrev QX3_nextOf (G : va_G) (T : Nat → ClassId) (x1 : Nat) (A : Nat → Nat) (I1 : Nat → Int32) (F : Nat → Nat → Int32) (j : Nat) (sz : Nat) : Array Value → State → Outcome → State → Prop := va_Qi (fun (r : Int32) (_ : Unit) => r = mNext F j) (gB G (cM T x1 A I1 F)) (va_A (cM T x1 A I1 F) sz)
set_option maxHeartbeats 4000000 in
set_option maxRecDepth 100000 in
theorem kX3_nextOf (l : Launch) (G : va_G) (T : Nat → ClassId) (x1 : Nat) (A : Nat → Nat) (I1 : Nat → Int32) (F : Nat → Nat → Int32) (j : Nat) (sz : Nat) (hj : j < 16) : Met l yX3_nextOf wsX3_nextOf ({ frames := 0, cells := 0, slots := 0, locals := 0 } : Room) (PX3_nextOf G T x1 A I1 F j sz) (QX3_nextOf G T x1 A I1 F j sz) 0 0 (va_A (cM T x1 A I1 F) sz) := by
  refine Met.ofW (cc := cX3_nextOf) (maxL := 3) (ret := (some .int)) (by decide) rfl ?_
  intro p e s m args below meth c s₁ B hml hv
  obtain ⟨rfl, hsz, hP, hK, hD0, hE⟩ := hv
  have hx := B.exec
  have hb := B.bytes
  have hr := B.returns
  have hts := atoms_spec (ws := wsX3_nextOf) B.pre
  have hown : s.vm.findClass RX3 = some m.cls := findClass_of_methodNamed B.named
  have hlocks := B.notSynchronized
  subst hsz
  have hD := hD0.self (sz := s.heap.size)
  have hA : ∀ q : Nat, s.heap.size ≤ q → (va_A (cM T x1 A I1 F) s.heap.size) q := fun q h => Or.inr h
  have hS : va_S (va_A (cM T x1 A I1 F) s.heap.size) s.heap s.heap [] := va_S.rf
  have hiRX3 : ∀ w ∈ u_ws RX3 TX3 18, w ∈ wsX3_nextOf := by decide +kernel
  have hl := lv_entry ([.ref x1, .int (nI j)]) (n := 3) (Nat.le_of_ble_eq_true rfl)
  rw [lg_entry_eq]
  generalize (lg_sl ([.ref x1, .int (nI j)]) ++ List.replicate (3 - (lg_sl ([.ref x1, .int (nI j)])).length) Slot.unset).toArray = ls at hl ⊢
  have hl : lv_has ls 3 [(0, .ref x1), (1, .int (nI j))] := hl
  have hP : va_P G vwCl (cM T x1 A I1 F) s.heap := hP
  refine lv_aload_n hx hb dX3_nextOf_0 rfl (lv_at hl 0 rfl) ?_
  refine va_get (D := G) (ci := 3) (v := .ref (A 3)) (C := RX3) (T := TX3) (N := 18) hx hb hts hiRX3 hown hK hP 0 rfl rfl 3 (by decide) (hts (.fieldLink RX3 13 "NameAuctionModel" "state" "[I") (by decide +kernel)) (fun _ h9 => h9) rfl dX3_nextOf_1 ?_
  refine lv_iload_n hx hb dX3_nextOf_4 rfl (lv_at hl 1 rfl) ?_
  refine giald (j := j) hx hb hK hP 2 0 rfl rfl (show (nI j : Int32) = nI j from rfl) (by omega) (by decide) dX3_nextOf_5 ?_
  refine lv_istore_n (lv' := [(2, .int ((F 3) j)), (0, .ref x1), (1, .int (nI j))]) hx hb dX3_nextOf_6 rfl hl (by decide) rfl (fun ls hl => ?_)
  refine lv_iload_n hx hb dX3_nextOf_7 rfl (lv_at hl 0 rfl) ?_
  refine lv_if_eq (tgt := 16) hx hb dX3_nextOf_8 (by decide) (fun c8 => ?_) (fun c8 => ?_)
  · skip
    refine lv_iconst (v := (-1)) hx hb dX3_nextOf_16 (by decide) ?_
    refine lv_goto (tgt := 48) hx hb dX3_nextOf_17 (by decide) ?_
    exact W.iret (v := (-1)) hx hb hr (fun t ht9 hW => ⟨⟨(-1), (), rfl, by simp [mNext, c8], gBi ht9 (gfin hP (rfl))⟩, hS.F ht9⟩) hS.2.2 dX3_nextOf_48
  · skip
    refine lv_iload_n hx hb dX3_nextOf_11 rfl (lv_at hl 0 rfl) ?_
    refine lv_iconst (v := 5) hx hb dX3_nextOf_12 (by decide) ?_
    refine lv_icmp_ne (tgt := 20) hx hb dX3_nextOf_13 (by decide) (fun c13 => ?_) (fun c13 => ?_)
    · skip
      refine lv_aload_n hx hb dX3_nextOf_20 rfl (lv_at hl 1 rfl) ?_
      refine va_get (D := G) (ci := 3) (v := .ref (A 5)) (C := RX3) (T := TX3) (N := 18) hx hb hts hiRX3 hown hK hP 0 rfl rfl 5 (by decide) (hts (.fieldLink RX3 19 "NameAuctionModel" "day" "[I") (by decide +kernel)) (fun _ h9 => h9) rfl dX3_nextOf_21 ?_
      refine lv_iload_n hx hb dX3_nextOf_24 rfl (lv_at hl 2 rfl) ?_
      refine giald (j := j) hx hb hK hP 4 0 rfl rfl (show (nI j : Int32) = nI j from rfl) (by omega) (by decide) dX3_nextOf_25 ?_
      refine lv_iload_n hx hb dX3_nextOf_26 rfl (lv_at hl 0 rfl) ?_
      refine lv_iconst (v := 3) hx hb dX3_nextOf_27 (by decide) ?_
      refine lv_icmp_ne (tgt := 36) hx hb dX3_nextOf_28 (by decide) (fun c28 => ?_) (fun c28 => ?_)
      · skip
        refine lv_iload_n hx hb dX3_nextOf_36 rfl (lv_at hl 0 rfl) ?_
        refine lv_iconst (v := 4) hx hb dX3_nextOf_37 (by decide) ?_
        refine lv_icmp_ne (tgt := 46) hx hb dX3_nextOf_38 (by decide) (fun c38 => ?_) (fun c38 => ?_)
        · skip
          refine lv_iconst (v := 0) hx hb dX3_nextOf_46 (by decide) ?_
          refine lv_iadd hx hb dX3_nextOf_47 ?_
          exact W.iret (v := ((F 5) j) + 0) hx hb hr (fun t ht9 hW => ⟨⟨((F 5) j) + 0, (), rfl, by simp [mNext, c8, c13, c28, c38], gBi ht9 (gfin hP (rfl))⟩, hS.F ht9⟩) hS.2.2 dX3_nextOf_48
        · skip
          refine lv_bipush (v := 20) hx hb dX3_nextOf_41 (by decide) ?_
          refine lv_goto (tgt := 47) hx hb dX3_nextOf_43 (by decide) ?_
          refine lv_iadd hx hb dX3_nextOf_47 ?_
          exact W.iret (v := ((F 5) j) + 20) hx hb hr (fun t ht9 hW => ⟨⟨((F 5) j) + 20, (), rfl, by simp [mNext, c8, c13, c28, c38], gBi ht9 (gfin hP (rfl))⟩, hS.F ht9⟩) hS.2.2 dX3_nextOf_48
      · skip
        refine lv_bipush (v := 10) hx hb dX3_nextOf_31 (by decide) ?_
        refine lv_goto (tgt := 47) hx hb dX3_nextOf_33 (by decide) ?_
        refine lv_iadd hx hb dX3_nextOf_47 ?_
        exact W.iret (v := ((F 5) j) + 10) hx hb hr (fun t ht9 hW => ⟨⟨((F 5) j) + 10, (), rfl, by simp [mNext, c8, c13, c28], gBi ht9 (gfin hP (rfl))⟩, hS.F ht9⟩) hS.2.2 dX3_nextOf_48
    · skip
      refine lv_iconst (v := (-1)) hx hb dX3_nextOf_16 (by decide) ?_
      refine lv_goto (tgt := 48) hx hb dX3_nextOf_17 (by decide) ?_
      exact W.iret (v := (-1)) hx hb hr (fun t ht9 hW => ⟨⟨(-1), (), rfl, by simp [mNext, c8, c13], gBi ht9 (gfin hP (rfl))⟩, hS.F ht9⟩) hS.2.2 dX3_nextOf_48
abbrev PX3_hasRecord (G : va_G) (T : Nat → ClassId) (x1 : Nat) (A : Nat → Nat) (I1 : Nat → Int32) (F : Nat → Nat → Int32) (j : Nat) (sz : Nat) : Array Value → State → Prop := gPc G T [.ref x1, .int (nI j)] (cM T x1 A I1 F) sz
abbrev QX3_hasRecord (G : va_G) (T : Nat → ClassId) (x1 : Nat) (A : Nat → Nat) (I1 : Nat → Int32) (F : Nat → Nat → Int32) (j : Nat) (sz : Nat) : Array Value → State → Outcome → State → Prop := va_Qi (fun (r : Int32) (_ : Unit) => r = mRec F j) (gB G (cM T x1 A I1 F)) (va_A (cM T x1 A I1 F) sz)
set_option maxHeartbeats 4000000 in
set_option maxRecDepth 100000 in
theorem kX3_hasRecord (l : Launch) (G : va_G) (T : Nat → ClassId) (x1 : Nat) (A : Nat → Nat) (I1 : Nat → Int32) (F : Nat → Nat → Int32) (j : Nat) (sz : Nat) (hj : j < 16) : Met l yX3_hasRecord wsX3_hasRecord ({ frames := 1, cells := 0, slots := 0, locals := 22 } : Room) (PX3_hasRecord G T x1 A I1 F j sz) (QX3_hasRecord G T x1 A I1 F j sz) 0 0 (va_A (cM T x1 A I1 F) sz) := by
  refine Met.ofW (cc := cX3_hasRecord) (maxL := 2) (ret := (some .boolean)) (by decide) rfl ?_
  intro p e s m args below meth c s₁ B hml hv
  obtain ⟨rfl, hsz, hP, hK, hD0, hE⟩ := hv
  have hx := B.exec
  have hb := B.bytes
  have hr := B.returns
  have hts := atoms_spec (ws := wsX3_hasRecord) B.pre
  have hown : s.vm.findClass RX3 = some m.cls := findClass_of_methodNamed B.named
  have hlocks := B.notSynchronized
  subst hsz
  have hD := hD0.self (sz := s.heap.size)
  have hA : ∀ q : Nat, s.heap.size ≤ q → (va_A (cM T x1 A I1 F) s.heap.size) q := fun q h => Or.inr h
  have hS : va_S (va_A (cM T x1 A I1 F) s.heap.size) s.heap s.heap [] := va_S.rf
  have hiRX3 : ∀ w ∈ u_ws RX3 TX3 18, w ∈ wsX3_hasRecord := by decide +kernel
  have hl := lv_entry ([.ref x1, .int (nI j)]) (n := 2) (Nat.le_of_ble_eq_true rfl)
  rw [lg_entry_eq]
  generalize (lg_sl ([.ref x1, .int (nI j)]) ++ List.replicate (2 - (lg_sl ([.ref x1, .int (nI j)])).length) Slot.unset).toArray = ls at hl ⊢
  have hl : lv_has ls 2 [(0, .ref x1), (1, .int (nI j))] := hl
  have hP : va_P G vwCl (cM T x1 A I1 F) s.heap := hP
  refine lv_aload_n hx hb dX3_hasRecord_0 rfl (lv_at hl 0 rfl) ?_
  refine va_get (D := G) (ci := 3) (v := .ref (A 3)) (C := RX3) (T := TX3) (N := 18) hx hb hts hiRX3 hown hK hP 0 rfl rfl 3 (by decide) (hts (.fieldLink RX3 13 "NameAuctionModel" "state" "[I") (by decide +kernel)) (fun _ h9 => h9) rfl dX3_hasRecord_1 ?_
  refine lv_iload_n hx hb dX3_hasRecord_4 rfl (lv_at hl 1 rfl) ?_
  refine giald (j := j) hx hb hK hP 2 0 rfl rfl (show (nI j : Int32) = nI j from rfl) (by omega) (by decide) dX3_hasRecord_5 ?_
  refine lv_iconst (v := 2) hx hb dX3_hasRecord_6 (by decide) ?_
  refine lv_iconst (v := 3) hx hb dX3_hasRecord_7 (by decide) ?_
  refine gci (va_runS (As := [.int ((F 3) j), .int 2, .int 3]) (rest := []) ⟨hx, hb, hml, hown, hts⟩ (kX3_isIn l G T ((F 3) j) 2 3 _) (va_cwS 3 hts gX3_hasRecord_X3_isIn rfl rfl rfl (by decide +kernel) ⟨Nat.le_of_ble_eq_true rfl, Nat.le_of_ble_eq_true rfl⟩) ⟨gblind, gpre hE hK hP hD hS hA [] rfl rfl⟩ rfl rfl hl.1 rfl (lv_room (Nat.le_of_ble_eq_true rfl)) dX3_hasRecord_8 ⟨Nat.le_of_ble_eq_true rfl, Nat.le_of_ble_eq_true rfl⟩) hP hD hS hA [] rfl rfl (fun r9 H locs hw hP hD hS => ?_)
  have hP : va_P G vwCl (cM T x1 A I1 F) H := hP
  have hD : va_D (va_A (cM T x1 A I1 F) s.heap.size) (cM T x1 A I1 F) := hD
  subst hw
  refine lv_if_ne (tgt := 34) hx hb dX3_hasRecord_11 (by decide) (fun c11 => ?_) (fun c11 => ?_)
  · skip
    have t11 : (okR ((F 3) j) 2 3) = true := bI_t c11
    refine lv_iconst (v := 1) hx hb dX3_hasRecord_34 (by decide) ?_
    refine lv_goto (tgt := 39) hx hb dX3_hasRecord_35 (by decide) ?_
    exact W.zret (v := 1) hx hb hr (by decide) (fun t ht9 hW => ⟨⟨1, (), rfl, by simp [mRec, t11] <;> decide, gBi ht9 (gfin hP (rfl))⟩, hS.F ht9⟩) hS.2.2 dX3_hasRecord_39
  · skip
    have t11 : (okR ((F 3) j) 2 3) = false := bI_f c11
    refine lv_aload_n hx hb dX3_hasRecord_14 rfl (lv_at hl 0 rfl) ?_
    refine va_get (D := G) (ci := 3) (v := .ref (A 3)) (C := RX3) (T := TX3) (N := 18) hx hb hts hiRX3 hown hK hP 0 rfl rfl 3 (by decide) (hts (.fieldLink RX3 13 "NameAuctionModel" "state" "[I") (by decide +kernel)) (fun _ h9 => h9) rfl dX3_hasRecord_15 ?_
    refine lv_iload_n hx hb dX3_hasRecord_18 rfl (lv_at hl 1 rfl) ?_
    refine giald (j := j) hx hb hK hP 2 0 rfl rfl (show (nI j : Int32) = nI j from rfl) (by omega) (by decide) dX3_hasRecord_19 ?_
    refine lv_iconst (v := 5) hx hb dX3_hasRecord_20 (by decide) ?_
    refine lv_icmp_ne (tgt := 38) hx hb dX3_hasRecord_21 (by decide) (fun c21 => ?_) (fun c21 => ?_)
    · skip
      refine lv_iconst (v := 0) hx hb dX3_hasRecord_38 (by decide) ?_
      exact W.zret (v := 0) hx hb hr (by decide) (fun t ht9 hW => ⟨⟨0, (), rfl, by simp [mRec, c21, t11] <;> decide, gBi ht9 (gfin hP (rfl))⟩, hS.F ht9⟩) hS.2.2 dX3_hasRecord_39
    · skip
      refine lv_aload_n hx hb dX3_hasRecord_24 rfl (lv_at hl 0 rfl) ?_
      refine va_get (D := G) (ci := 3) (v := .ref (A 10)) (C := RX3) (T := TX3) (N := 18) hx hb hts hiRX3 hown hK hP 0 rfl rfl 10 (by decide) (hts (.fieldLink RX3 34 "NameAuctionModel" "before" "[I") (by decide +kernel)) (fun _ h9 => h9) rfl dX3_hasRecord_25 ?_
      refine lv_iload_n hx hb dX3_hasRecord_28 rfl (lv_at hl 1 rfl) ?_
      refine giald (j := j) hx hb hK hP 9 0 rfl rfl (show (nI j : Int32) = nI j from rfl) (by omega) (by decide) dX3_hasRecord_29 ?_
      refine lv_iconst (v := 1) hx hb dX3_hasRecord_30 (by decide) ?_
      refine lv_icmp_eq (tgt := 38) hx hb dX3_hasRecord_31 (by decide) (fun c31 => ?_) (fun c31 => ?_)
      · skip
        refine lv_iconst (v := 0) hx hb dX3_hasRecord_38 (by decide) ?_
        exact W.zret (v := 0) hx hb hr (by decide) (fun t ht9 hW => ⟨⟨0, (), rfl, by simp [mRec, c21, c31, t11] <;> decide, gBi ht9 (gfin hP (rfl))⟩, hS.F ht9⟩) hS.2.2 dX3_hasRecord_39
      · skip
        refine lv_iconst (v := 1) hx hb dX3_hasRecord_34 (by decide) ?_
        refine lv_goto (tgt := 39) hx hb dX3_hasRecord_35 (by decide) ?_
        exact W.zret (v := 1) hx hb hr (by decide) (fun t ht9 hW => ⟨⟨1, (), rfl, by simp [mRec, c21, c31, t11] <;> decide, gBi ht9 (gfin hP (rfl))⟩, hS.F ht9⟩) hS.2.2 dX3_hasRecord_39
abbrev PX3_answerOf (G : va_G) (T : Nat → ClassId) (x1 : Nat) (A : Nat → Nat) (I1 : Nat → Int32) (F : Nat → Nat → Int32) (j : Nat) (sz : Nat) : Array Value → State → Prop := gPc G T [.ref x1, .int (nI j)] (cM T x1 A I1 F) sz
abbrev QX3_answerOf (G : va_G) (T : Nat → ClassId) (x1 : Nat) (A : Nat → Nat) (I1 : Nat → Int32) (F : Nat → Nat → Int32) (j : Nat) (sz : Nat) : Array Value → State → Outcome → State → Prop := va_Qi (fun (r : Int32) (_ : Unit) => r = mAns F j) (gB G (cM T x1 A I1 F)) (va_A (cM T x1 A I1 F) sz)
set_option maxHeartbeats 4000000 in
set_option maxRecDepth 100000 in
theorem kX3_answerOf (l : Launch) (G : va_G) (T : Nat → ClassId) (x1 : Nat) (A : Nat → Nat) (I1 : Nat → Int32) (F : Nat → Nat → Int32) (j : Nat) (sz : Nat) (hj : j < 16) : Met l yX3_answerOf wsX3_answerOf ({ frames := 2, cells := 0, slots := 0, locals := 43 } : Room) (PX3_answerOf G T x1 A I1 F j sz) (QX3_answerOf G T x1 A I1 F j sz) 0 0 (va_A (cM T x1 A I1 F) sz) := by
  refine Met.ofW (cc := cX3_answerOf) (maxL := 2) (ret := (some .int)) (by decide) rfl ?_
  intro p e s m args below meth c s₁ B hml hv
  obtain ⟨rfl, hsz, hP, hK, hD0, hE⟩ := hv
  have hx := B.exec
  have hb := B.bytes
  have hr := B.returns
  have hts := atoms_spec (ws := wsX3_answerOf) B.pre
  have hown : s.vm.findClass RX3 = some m.cls := findClass_of_methodNamed B.named
  have hlocks := B.notSynchronized
  subst hsz
  have hD := hD0.self (sz := s.heap.size)
  have hA : ∀ q : Nat, s.heap.size ≤ q → (va_A (cM T x1 A I1 F) s.heap.size) q := fun q h => Or.inr h
  have hS : va_S (va_A (cM T x1 A I1 F) s.heap.size) s.heap s.heap [] := va_S.rf
  have hiRX3 : ∀ w ∈ u_ws RX3 TX3 18, w ∈ wsX3_answerOf := by decide +kernel
  have hl := lv_entry ([.ref x1, .int (nI j)]) (n := 2) (Nat.le_of_ble_eq_true rfl)
  rw [lg_entry_eq]
  generalize (lg_sl ([.ref x1, .int (nI j)]) ++ List.replicate (2 - (lg_sl ([.ref x1, .int (nI j)])).length) Slot.unset).toArray = ls at hl ⊢
  have hl : lv_has ls 2 [(0, .ref x1), (1, .int (nI j))] := hl
  have hP : va_P G vwCl (cM T x1 A I1 F) s.heap := hP
  refine lv_aload_n hx hb dX3_answerOf_0 rfl (lv_at hl 0 rfl) ?_
  refine lv_iload_n hx hb dX3_answerOf_1 rfl (lv_at hl 1 rfl) ?_
  refine gciT (X := ([] : va_W)) (va_runV (As := [.int (nI j)]) (rest := []) ⟨hx, hb, hml, hown, hts⟩ (kX3_hasRecord l G T x1 A I1 F j _ (by omega)) (cwV 1 hts gX3_answerOf_X3_hasRecord rfl rfl rfl (by decide +kernel) ⟨Nat.le_of_ble_eq_true rfl, Nat.le_of_ble_eq_true rfl⟩) ⟨gblind, va_recv hK hP (ci := 3) (q0 := 0) rfl rfl, gpreT (X := ([] : va_W)) hE hK hP hD hS hA⟩ rfl rfl hl.1 rfl (lv_room (Nat.le_of_ble_eq_true rfl)) dX3_answerOf_2 ⟨Nat.le_of_ble_eq_true rfl, Nat.le_of_ble_eq_true rfl⟩) hP hD hS hA cM_fst (fun r9 H locs hw hP hD hS => ?_)
  have hP : va_P G vwCl (cM T x1 A I1 F) H := hP
  have hD : va_D (va_A (cM T x1 A I1 F) s.heap.size) (cM T x1 A I1 F) := hD
  subst hw
  refine lv_if_eq (tgt := 17) hx hb dX3_answerOf_5 (by decide) (fun c5 => ?_) (fun c5 => ?_)
  · skip
    refine lv_iconst (v := (-1)) hx hb dX3_answerOf_17 (by decide) ?_
    exact W.iret (v := (-1)) hx hb hr (fun t ht9 hW => ⟨⟨(-1), (), rfl, by simp [mAns, c5], gBi ht9 (gfin hP (rfl))⟩, hS.F ht9⟩) hS.2.2 dX3_answerOf_18
  · skip
    refine lv_aload_n hx hb dX3_answerOf_8 rfl (lv_at hl 0 rfl) ?_
    refine va_get (D := G) (ci := 3) (v := .ref (A 6)) (C := RX3) (T := TX3) (N := 18) hx hb hts hiRX3 hown hK hP 0 rfl rfl 6 (by decide) (hts (.fieldLink RX3 22 "NameAuctionModel" "record" "[I") (by decide +kernel)) (fun _ h9 => h9) rfl dX3_answerOf_9 ?_
    refine lv_iload_n hx hb dX3_answerOf_12 rfl (lv_at hl 1 rfl) ?_
    refine giald (j := j) hx hb hK hP 5 0 rfl rfl (show (nI j : Int32) = nI j from rfl) (by omega) (by decide) dX3_answerOf_13 ?_
    refine lv_goto (tgt := 18) hx hb dX3_answerOf_14 (by decide) ?_
    exact W.iret (v := (F 6) j) hx hb hr (fun t ht9 hW => ⟨⟨(F 6) j, (), rfl, by simp [mAns, c5], gBi ht9 (gfin hP (rfl))⟩, hS.F ht9⟩) hS.2.2 dX3_answerOf_18
abbrev PX3_isYoung (G : va_G) (T : Nat → ClassId) (x1 : Nat) (A : Nat → Nat) (I1 : Nat → Int32) (F : Nat → Nat → Int32) (q : Nat) (sz : Nat) : Array Value → State → Prop := gPc G T [.ref x1, .int (nI q)] (cM T x1 A I1 F) sz
abbrev QX3_isYoung (G : va_G) (T : Nat → ClassId) (x1 : Nat) (A : Nat → Nat) (I1 : Nat → Int32) (F : Nat → Nat → Int32) (q : Nat) (sz : Nat) : Array Value → State → Outcome → State → Prop := va_Qi (fun (r : Int32) (_ : Unit) => r = mYoung I1 F q) (gB G (cM T x1 A I1 F)) (va_A (cM T x1 A I1 F) sz)
set_option maxHeartbeats 4000000 in
set_option maxRecDepth 100000 in
theorem kX3_isYoung (l : Launch) (G : va_G) (T : Nat → ClassId) (x1 : Nat) (A : Nat → Nat) (I1 : Nat → Int32) (F : Nat → Nat → Int32) (q : Nat) (sz : Nat) (hq : q < 48) : Met l yX3_isYoung wsX3_isYoung ({ frames := 0, cells := 0, slots := 0, locals := 0 } : Room) (PX3_isYoung G T x1 A I1 F q sz) (QX3_isYoung G T x1 A I1 F q sz) 0 0 (va_A (cM T x1 A I1 F) sz) := by
  refine Met.ofW (cc := cX3_isYoung) (maxL := 2) (ret := (some .boolean)) (by decide) rfl ?_
  intro p e s m args below meth c s₁ B hml hv
  obtain ⟨rfl, hsz, hP, hK, hD0, hE⟩ := hv
  have hx := B.exec
  have hb := B.bytes
  have hr := B.returns
  have hts := atoms_spec (ws := wsX3_isYoung) B.pre
  have hown : s.vm.findClass RX3 = some m.cls := findClass_of_methodNamed B.named
  have hlocks := B.notSynchronized
  subst hsz
  have hD := hD0.self (sz := s.heap.size)
  have hA : ∀ q : Nat, s.heap.size ≤ q → (va_A (cM T x1 A I1 F) s.heap.size) q := fun q h => Or.inr h
  have hS : va_S (va_A (cM T x1 A I1 F) s.heap.size) s.heap s.heap [] := va_S.rf
  have hiRX3 : ∀ w ∈ u_ws RX3 TX3 18, w ∈ wsX3_isYoung := by decide +kernel
  have hl := lv_entry ([.ref x1, .int (nI q)]) (n := 2) (Nat.le_of_ble_eq_true rfl)
  rw [lg_entry_eq]
  generalize (lg_sl ([.ref x1, .int (nI q)]) ++ List.replicate (2 - (lg_sl ([.ref x1, .int (nI q)])).length) Slot.unset).toArray = ls at hl ⊢
  have hl : lv_has ls 2 [(0, .ref x1), (1, .int (nI q))] := hl
  have hP : va_P G vwCl (cM T x1 A I1 F) s.heap := hP
  refine lv_aload_n hx hb dX3_isYoung_0 rfl (lv_at hl 0 rfl) ?_
  refine va_get (D := G) (ci := 3) (v := .ref (A 14)) (C := RX3) (T := TX3) (N := 18) hx hb hts hiRX3 hown hK hP 0 rfl rfl 14 (by decide) (hts (.fieldLink RX3 43 "NameAuctionModel" "taken" "[I") (by decide +kernel)) (fun _ h9 => h9) rfl dX3_isYoung_1 ?_
  refine lv_iload_n hx hb dX3_isYoung_4 rfl (lv_at hl 1 rfl) ?_
  refine giald (j := q) hx hb hK hP 12 0 rfl rfl (show (nI q : Int32) = nI q from rfl) (by omega) (by decide) dX3_isYoung_5 ?_
  refine lv_iconst (v := (-1)) hx hb dX3_isYoung_6 (by decide) ?_
  refine lv_icmp_eq (tgt := 34) hx hb dX3_isYoung_7 (by decide) (fun c7 => ?_) (fun c7 => ?_)
  · skip
    refine lv_iconst (v := 0) hx hb dX3_isYoung_34 (by decide) ?_
    exact W.zret (v := 0) hx hb hr (by decide) (fun t ht9 hW => ⟨⟨0, (), rfl, by simp [mYoung, c7], gBi ht9 (gfin hP (rfl))⟩, hS.F ht9⟩) hS.2.2 dX3_isYoung_35
  · skip
    refine lv_aload_n hx hb dX3_isYoung_10 rfl (lv_at hl 0 rfl) ?_
    refine va_get (D := G) (ci := 3) (v := .int (I1 0)) (C := RX3) (T := TX3) (N := 18) hx hb hts hiRX3 hown hK hP 0 rfl rfl 0 (by decide) (hts (.fieldLink RX3 71 "NameAuctionModel" "today" "I") (by decide +kernel)) (fun _ h9 => h9) rfl dX3_isYoung_11 ?_
    refine lv_aload_n hx hb dX3_isYoung_14 rfl (lv_at hl 0 rfl) ?_
    refine va_get (D := G) (ci := 3) (v := .ref (A 14)) (C := RX3) (T := TX3) (N := 18) hx hb hts hiRX3 hown hK hP 0 rfl rfl 14 (by decide) (hts (.fieldLink RX3 43 "NameAuctionModel" "taken" "[I") (by decide +kernel)) (fun _ h9 => h9) rfl dX3_isYoung_15 ?_
    refine lv_iload_n hx hb dX3_isYoung_18 rfl (lv_at hl 1 rfl) ?_
    refine giald (j := q) hx hb hK hP 12 0 rfl rfl (show (nI q : Int32) = nI q from rfl) (by omega) (by decide) dX3_isYoung_19 ?_
    refine lv_isub hx hb dX3_isYoung_20 ?_
    refine lv_aload_n hx hb dX3_isYoung_21 rfl (lv_at hl 0 rfl) ?_
    refine va_get (D := G) (ci := 3) (v := .ref (A 16)) (C := RX3) (T := TX3) (N := 18) hx hb hts hiRX3 hown hK hP 0 rfl rfl 16 (by decide) (hts (.fieldLink RX3 49 "NameAuctionModel" "lives" "[I") (by decide +kernel)) (fun _ h9 => h9) rfl dX3_isYoung_22 ?_
    refine lv_iload_n hx hb dX3_isYoung_25 rfl (lv_at hl 1 rfl) ?_
    refine giald (j := q) hx hb hK hP 14 0 rfl rfl (show (nI q : Int32) = nI q from rfl) (by omega) (by decide) dX3_isYoung_26 ?_
    refine lv_icmp_ge (tgt := 34) hx hb dX3_isYoung_27 (by decide) (fun c27 => ?_) (fun c27 => ?_)
    · skip
      refine lv_iconst (v := 0) hx hb dX3_isYoung_34 (by decide) ?_
      exact W.zret (v := 0) hx hb hr (by decide) (fun t ht9 hW => ⟨⟨0, (), rfl, by simp [mYoung, c7, c27], gBi ht9 (gfin hP (rfl))⟩, hS.F ht9⟩) hS.2.2 dX3_isYoung_35
    · skip
      refine lv_iconst (v := 1) hx hb dX3_isYoung_30 (by decide) ?_
      refine lv_goto (tgt := 35) hx hb dX3_isYoung_31 (by decide) ?_
      exact W.zret (v := 1) hx hb hr (by decide) (fun t ht9 hW => ⟨⟨1, (), rfl, by simp [mYoung, c7, c27], gBi ht9 (gfin hP (rfl))⟩, hS.F ht9⟩) hS.2.2 dX3_isYoung_35
abbrev PX3_today (G : va_G) (T : Nat → ClassId) (x1 : Nat) (A : Nat → Nat) (I1 : Nat → Int32) (F : Nat → Nat → Int32) (sz : Nat) : Array Value → State → Prop := gPc G T [.ref x1] (cM T x1 A I1 F) sz
abbrev QX3_today (G : va_G) (T : Nat → ClassId) (x1 : Nat) (A : Nat → Nat) (I1 : Nat → Int32) (F : Nat → Nat → Int32) (sz : Nat) : Array Value → State → Outcome → State → Prop := va_Qi (fun (r : Int32) (_ : Unit) => r = I1 0) (gB G (cM T x1 A (upd I1 17 0) F)) (va_A (cM T x1 A I1 F) sz)
set_option maxHeartbeats 4000000 in
set_option maxRecDepth 100000 in
theorem kX3_today (l : Launch) (G : va_G) (T : Nat → ClassId) (x1 : Nat) (A : Nat → Nat) (I1 : Nat → Int32) (F : Nat → Nat → Int32) (sz : Nat)  : Met l yX3_today wsX3_today ({ frames := 0, cells := 0, slots := 0, locals := 0 } : Room) (PX3_today G T x1 A I1 F sz) (QX3_today G T x1 A I1 F sz) 0 0 (va_A (cM T x1 A I1 F) sz) := by
  refine Met.ofW (cc := cX3_today) (maxL := 1) (ret := (some .int)) (by decide) rfl ?_
  intro p e s m args below meth c s₁ B hml hv
  obtain ⟨rfl, hsz, hP, hK, hD0, hE⟩ := hv
  have hx := B.exec
  have hb := B.bytes
  have hr := B.returns
  have hts := atoms_spec (ws := wsX3_today) B.pre
  have hown : s.vm.findClass RX3 = some m.cls := findClass_of_methodNamed B.named
  have hlocks := B.notSynchronized
  subst hsz
  have hD := hD0.self (sz := s.heap.size)
  have hA : ∀ q : Nat, s.heap.size ≤ q → (va_A (cM T x1 A I1 F) s.heap.size) q := fun q h => Or.inr h
  have hS : va_S (va_A (cM T x1 A I1 F) s.heap.size) s.heap s.heap [] := va_S.rf
  have hiRX3 : ∀ w ∈ u_ws RX3 TX3 18, w ∈ wsX3_today := by decide +kernel
  have hl := lv_entry ([.ref x1]) (n := 1) (Nat.le_of_ble_eq_true rfl)
  rw [lg_entry_eq]
  generalize (lg_sl ([.ref x1]) ++ List.replicate (1 - (lg_sl ([.ref x1])).length) Slot.unset).toArray = ls at hl ⊢
  have hl : lv_has ls 1 [(0, .ref x1)] := hl
  have hP : va_P G vwCl (cM T x1 A I1 F) s.heap := hP
  refine lv_aload_n hx hb dX3_today_0 rfl (lv_at hl 0 rfl) ?_
  refine lv_iconst (v := 0) hx hb dX3_today_1 (by decide) ?_
  refine va_put (D := G) (ci := 3) (v := .int 0) (ty := .int) (C := RX3) (T := TX3) (N := 18) hx hb hts hiRX3 tyX3 tyX3_ok nmX3 hown hK hP hD hS 0 rfl rfl 17 (by decide) (hts (.fieldLink RX3 52 "NameAuctionModel" "thrown" "I") (by decide +kernel)) (fun _ h9 => h9) rfl (by decide +kernel) rfl rfl (Nat.le_of_ble_eq_true rfl) dX3_today_2 (fun H locs hP hD hS => ?_)
  have hP : va_P G vwCl (cM T x1 A (upd I1 17 0) F) H := hP
  have hD : va_D (va_A (cM T x1 A I1 F) s.heap.size) (cM T x1 A (upd I1 17 0) F) := hD
  refine lv_aload_n hx hb dX3_today_5 rfl (lv_at hl 0 rfl) ?_
  refine va_get (D := G) (ci := 3) (v := .int (I1 0)) (C := RX3) (T := TX3) (N := 18) hx hb hts hiRX3 hown hK hP 0 rfl rfl 0 (by decide) (hts (.fieldLink RX3 71 "NameAuctionModel" "today" "I") (by decide +kernel)) (fun _ h9 => h9) rfl dX3_today_6 ?_
  exact W.iret (v := I1 0) hx hb hr (fun t ht9 hW => ⟨⟨I1 0, (), rfl, rfl, gBi ht9 (gfin hP (rfl))⟩, hS.F ht9⟩) hS.2.2 dX3_today_9
abbrev PX3_takings (G : va_G) (T : Nat → ClassId) (x1 : Nat) (A : Nat → Nat) (I1 : Nat → Int32) (F : Nat → Nat → Int32) (sz : Nat) : Array Value → State → Prop := gPc G T [.ref x1] (cM T x1 A I1 F) sz
abbrev QX3_takings (G : va_G) (T : Nat → ClassId) (x1 : Nat) (A : Nat → Nat) (I1 : Nat → Int32) (F : Nat → Nat → Int32) (sz : Nat) : Array Value → State → Outcome → State → Prop := va_Qi (fun (r : Int32) (_ : Unit) => r = I1 1) (gB G (cM T x1 A (upd I1 17 0) F)) (va_A (cM T x1 A I1 F) sz)
set_option maxHeartbeats 4000000 in
set_option maxRecDepth 100000 in
theorem kX3_takings (l : Launch) (G : va_G) (T : Nat → ClassId) (x1 : Nat) (A : Nat → Nat) (I1 : Nat → Int32) (F : Nat → Nat → Int32) (sz : Nat)  : Met l yX3_takings wsX3_takings ({ frames := 0, cells := 0, slots := 0, locals := 0 } : Room) (PX3_takings G T x1 A I1 F sz) (QX3_takings G T x1 A I1 F sz) 0 0 (va_A (cM T x1 A I1 F) sz) := by
  refine Met.ofW (cc := cX3_takings) (maxL := 1) (ret := (some .int)) (by decide) rfl ?_
  intro p e s m args below meth c s₁ B hml hv
  obtain ⟨rfl, hsz, hP, hK, hD0, hE⟩ := hv
  have hx := B.exec
  have hb := B.bytes
  have hr := B.returns
  have hts := atoms_spec (ws := wsX3_takings) B.pre
  have hown : s.vm.findClass RX3 = some m.cls := findClass_of_methodNamed B.named
  have hlocks := B.notSynchronized
  subst hsz
  have hD := hD0.self (sz := s.heap.size)
  have hA : ∀ q : Nat, s.heap.size ≤ q → (va_A (cM T x1 A I1 F) s.heap.size) q := fun q h => Or.inr h
  have hS : va_S (va_A (cM T x1 A I1 F) s.heap.size) s.heap s.heap [] := va_S.rf
  have hiRX3 : ∀ w ∈ u_ws RX3 TX3 18, w ∈ wsX3_takings := by decide +kernel
  have hl := lv_entry ([.ref x1]) (n := 1) (Nat.le_of_ble_eq_true rfl)
  rw [lg_entry_eq]
  generalize (lg_sl ([.ref x1]) ++ List.replicate (1 - (lg_sl ([.ref x1])).length) Slot.unset).toArray = ls at hl ⊢
  have hl : lv_has ls 1 [(0, .ref x1)] := hl
  have hP : va_P G vwCl (cM T x1 A I1 F) s.heap := hP
  refine lv_aload_n hx hb dX3_takings_0 rfl (lv_at hl 0 rfl) ?_
  refine lv_iconst (v := 0) hx hb dX3_takings_1 (by decide) ?_
  refine va_put (D := G) (ci := 3) (v := .int 0) (ty := .int) (C := RX3) (T := TX3) (N := 18) hx hb hts hiRX3 tyX3 tyX3_ok nmX3 hown hK hP hD hS 0 rfl rfl 17 (by decide) (hts (.fieldLink RX3 52 "NameAuctionModel" "thrown" "I") (by decide +kernel)) (fun _ h9 => h9) rfl (by decide +kernel) rfl rfl (Nat.le_of_ble_eq_true rfl) dX3_takings_2 (fun H locs hP hD hS => ?_)
  have hP : va_P G vwCl (cM T x1 A (upd I1 17 0) F) H := hP
  have hD : va_D (va_A (cM T x1 A I1 F) s.heap.size) (cM T x1 A (upd I1 17 0) F) := hD
  refine lv_aload_n hx hb dX3_takings_5 rfl (lv_at hl 0 rfl) ?_
  refine va_get (D := G) (ci := 3) (v := .int (I1 1)) (C := RX3) (T := TX3) (N := 18) hx hb hts hiRX3 hown hK hP 0 rfl rfl 1 (by decide) (hts (.fieldLink RX3 77 "NameAuctionModel" "takings" "I") (by decide +kernel)) (fun _ h9 => h9) rfl dX3_takings_6 ?_
  exact W.iret (v := I1 1) hx hb hr (fun t ht9 hW => ⟨⟨I1 1, (), rfl, rfl, gBi ht9 (gfin hP (rfl))⟩, hS.F ht9⟩) hS.2.2 dX3_takings_9
