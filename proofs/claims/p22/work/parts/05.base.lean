/-! THE BASE: what every contract of the class's and the reference's methods speaks in -/
abbrev gT (T : Nat → ClassId) : List (ClassId × FieldType) := [(T 0, .int), (T 1, .boolean), (T 2, .object RX0), (T 3, .object RX1)]
/-- words that the tables alone decide but that aren't among a method's own -/
def gEw : List Cond := [
  .methodLinkNest RX2 25 yX0_init RX2, .fieldLinkNest RX2 36 "NameAuction$Name" "phase" "I" RX2, .fieldLinkNest RX2 74 "NameAuction$Name" "holder" "I" RX2,
  .fieldLinkNest RX2 60 "NameAuction$Name" "closing" "I" RX2, .fieldLinkNest RX2 67 "NameAuction$Name" "end" "I" RX2, .fieldLinkNest RX2 87 "NameAuction$Name" "record" "I" RX2,
  .fieldLinkNest RX2 90 "NameAuction$Name" "lifetime" "I" RX2, .fieldLinkNest RX2 54 "NameAuction$Name" "amounts" "[I" RX2, .fieldLinkNest RX2 57 "NameAuction$Name" "turns" "[I" RX2,
  .methodLinkNest RX2 26 yX1_init RX2, .fieldLinkNest RX2 135 "NameAuction$Resolver" "answers" "[I" RX2, .methodLinkNest RX2 47 yX0_beginAuction RX2,
  .methodLinkNest RX2 63 yX0_countBids RX2, .methodLinkNest RX2 84 yX0_leaseTo RX2, .methodLinkNest RX2 106 yX0_dayOfChange RX2, .methodLinkNest RX2 109 yX0_freeze RX2,
  .methodLinkNest RX2 112 yX0_thaw RX2, .methodLinkNest RX2 162 yX0_goOn RX2, .methodLinkNest RX2 176 yX0_isAhead RX2, .methodLinkNest RX2 173 yX0_release RX2,
  .methodLinkNest RX2 122 yX1_isFresh RX2, .methodLinkNest RX2 125 yX0_answer RX2, .methodLinkNest RX0 62 yX2_isHeld RX2, .methodLinkNest RX2 128 yX0_answerLifetime RX2,
  .methodLinkNest RX2 131 yX1_keep RX2, .methodLinkNest RX2 138 yX1_forgetAll RX2,
  .castable "java/lang/IndexOutOfBoundsException" "java/lang/IndexOutOfBoundsException", .castable "java/lang/IllegalArgumentException" "java/lang/IllegalArgumentException", .castable "java/lang/IllegalStateException" "java/lang/IllegalStateException",
  .declares ⟨"java/lang/RuntimeException", "<init>", "()V"⟩, .declares ⟨"java/lang/Exception", "<init>", "()V"⟩, .declares ⟨"java/lang/Throwable", "<init>", "()V"⟩]
def gKind : Cond → Bool
  | .fieldLinkNest .. => true
  | .methodLinkNest .. => true
  | .castable .. => true
  | .declares .. => true
  | _ => false
theorem gEw_kind : ∀ w ∈ gEw, gKind w = true := by decide +kernel
theorem gNw_warm {w : Cond} (h : gKind w = true) {s U : State} (hW : s.WarmedH U.vm) (hZ : va_Nw w s) : va_Nw w U := by
  cases w <;> first | exact va_Nw.warmF hW hZ | exact va_Nw.warmM hW hZ | exact va_Nw.warmC hW hZ | exact va_Nw.warmD hW hZ | cases h
theorem gNw_same {w : Cond} (h : gKind w = true) {u U : State} (hv : u.vm = U.vm) (hZ : va_Nw w u) : va_Nw w U := by
  cases w <;> first | exact va_Nw.same rfl hv hZ | cases h
abbrev eIO : String := "java/lang/IndexOutOfBoundsException"
abbrev eIA : String := "java/lang/IllegalArgumentException"
abbrev eIS : String := "java/lang/IllegalStateException"
/-- what a method may take of the machine beside its world: links to nest mates, the exceptions' classes, the statics that a throw reads -/
def gE (A : Nat → Prop) (U : State) : Prop := (∀ w ∈ gEw, va_Nw w U) ∧ (va_Nc eIA eIO U ∧ va_Nc eIS eIO U ∧ va_Nc eIS eIA U) ∧ vx_Zq Bundle.tN "UNASSIGNED_STACK" Bundle.steD A U U.heap ∧ vx_Zq Bundle.tN "SUPPRESSED_SENTINEL" Bundle.listD A U U.heap
theorem gE.call {A0 A1 : Nat → Prop} {s U : State} {H : Heap} {locs : List Loc} (h : gE A0 s) (hS : va_S A0 s.heap H locs) (hF : ∀ q, A1 q → A0 q) (hU : U.heap = H) (hW : s.WarmedH U.vm) : gE A1 U := by
  obtain ⟨h1, ⟨n1, n2, n3⟩, h2, h3⟩ := h
  refine ⟨fun w hw => gNw_warm (gEw_kind w hw) hW (h1 w hw), ⟨n1.moved hW.alike, n2.moved hW.alike, n3.moved hW.alike⟩, ?_, ?_⟩
  · rw [hU]; exact vx_Zq.moved hW.alike ((h2.kept hS.2.1).narrow hF)
  · rw [hU]; exact vx_Zq.moved hW.alike ((h3.kept hS.2.1).narrow hF)
theorem gE.blind {A : Nat → Prop} {U : State} {g : JFrame} {mk : MethodId} {a : Array Value} (h : gE A U) : gE A (U.calling g mk a) := by
  obtain ⟨h1, ⟨n1, n2, n3⟩, h2, h3⟩ := h
  have hv : U.vm.Alike (U.calling g mk a).vm := Vm.Alike.refl U.vm
  exact ⟨fun w hw => gNw_same (u := U) (gEw_kind w hw) rfl (h1 w hw), ⟨n1.moved hv, n2.moved hv, n3.moved hv⟩, vx_Zq.moved hv h2, vx_Zq.moved hv h3⟩
/-- a contract's start: the world W, at a heap of sz cells -/
def gS (G : va_G) (T : Nat → ClassId) (W : va_W) (sz : Nat) (U : State) : Prop := U.heap.size = sz ∧ va_P G vwCl W U.heap ∧ va_K G vwCl (gT T) U ∧ va_D (fun _ => True) W ∧ gE (va_A W sz) U
abbrev gPc (G : va_G) (T : Nat → ClassId) (av : List Value) (W : va_W) (sz : Nat) : Array Value → State → Prop := va_Pc av (gS G T W sz)
/-- a contract's end: the world W1 -/
abbrev gB (G : va_G) (W1 : va_W) : Unit → State → Prop := fun _ t => va_P G vwCl W1 t.heap
/-- a throw: the world as it was -/
abbrev gX (G : va_G) (W : va_W) (sz : Nat) (pe : String → Prop) : String → State → State → Prop := vx_X (fun _ : Unit => True) (fun E (_ : Unit) t => pe E ∧ va_P G vwCl W t.heap) (va_A W sz)
theorem gblind {G : va_G} {T : Nat → ClassId} {av : List Value} {W : va_W} {sz : Nat} : FrameBlind (gPc G T av W sz) := by
  intro a U g mk h
  obtain ⟨h0, h1, h2, h3, h4, h5⟩ := h
  exact ⟨h0, h1, h2, va_K.moved (u := U) (U := U.calling g mk a) (Vm.Alike.refl U.vm) h3, h4, h5.blind⟩
theorem gpre {G : va_G} {T : Nat → ClassId} {av : List Value} {A0 : Nat → Prop} {s : State} {ws wc : va_W} {H : Heap} {locs : List Loc} (hE : gE A0 s) (hK : va_K G vwCl (gT T) s) (hP : va_P G vwCl ws H) (hD : va_D A0 ws) (hS : va_S A0 s.heap H locs) (hA : ∀ q, s.heap.size ≤ q → A0 q) (isC : List Nat) (hn : va_nd isC = true) (hC : isC.map (fun i => ws[i]?) = wc.map some) :
    ∀ U : State, U.heap = H → s.WarmedH U.vm → gPc G T av wc H.size av.toArray U := by
  intro U hU hW
  have hD' := hD.sub isC hn hC
  have hP' : va_P G vwCl wc H := by
    refine hP.sub isC ?_
    have h1 : isC.filterMap (fun i => ws[i]?) = (isC.map (fun i => ws[i]?)).filterMap id := by rw [List.filterMap_map]; rfl
    rw [h1, hC, List.filterMap_map]
    simp
  exact ⟨rfl, by rw [hU], by rw [hU]; exact hP', va_K.moved hW.alike hK, hD'.weaken (fun _ _ _ _ => trivial), gE.call hE hS (va_free hD hS hA isC hC) hU hW⟩
/-- the cells at these places anew -/
def gRep : va_W → List Nat → va_W → va_W
  | ws, i :: is, q :: qs => gRep (ws.set i q) is qs
  | ws, _, _ => ws
theorem gRep_get : ∀ (is : List Nat) (qs : va_W) (ws : va_W), is.length = qs.length → ∀ (k : Nat) (q : Nat × va_E), (gRep ws is qs)[k]? = some q → (∃ j : Nat, is[j]? = some k ∧ qs[j]? = some q) ∨ (k ∉ is ∧ ws[k]? = some q) := by
  intro is
  induction is with
  | nil =>
    intro qs ws _ k q hk
    cases qs with
    | nil => exact Or.inr ⟨List.not_mem_nil, hk⟩
    | cons a l => simp at *
  | cons i is ih =>
    intro qs ws hl k q hk
    cases qs with
    | nil => simp at hl
    | cons a l =>
      rcases ih l (ws.set i a) (by simpa using hl) k q hk with ⟨j, h1, h2⟩ | ⟨h1, h2⟩
      · exact Or.inl ⟨j + 1, by simpa using h1, by simpa using h2⟩
      · by_cases hki : k = i
        · subst hki
          have hlt : k < ws.length := by
            have := (List.getElem?_eq_some_iff.mp h2).1
            simpa using this
          rw [List.getElem?_set_self hlt] at h2
          exact Or.inl ⟨0, rfl, h2⟩
        · rw [List.getElem?_set_ne (Ne.symm hki)] at h2
          exact Or.inr ⟨fun h => (List.mem_cons.mp h).elim hki h1, h2⟩
/-- behind a call: the callee's cells as it left them, at their places -/
theorem gjoin {A0 : Nat → Prop} {G : va_G} {ws wc w1 : va_W} {H H1 : Heap} (hP : va_P G vwCl ws H) (hD : va_D A0 ws) (isC : List Nat) (hC : isC.map (fun i => ws[i]?) = wc.map some) (h1 : w1.map Prod.fst = wc.map Prod.fst)
    (hk : ∀ q : Nat, q < H.size → ¬ va_A wc H.size q → H1[q]? = H[q]?) (hP1 : va_P G vwCl w1 H1) : va_P G vwCl (gRep ws isC w1) H1 ∧ va_D A0 (gRep ws isC w1) := by
  have hl : isC.length = w1.length := by
    have e1 := congrArg List.length hC
    have e2 := congrArg List.length h1
    simp only [List.length_map] at e1 e2
    omega
  have at' : ∀ (j : Nat) (q : Nat × va_E), wc[j]? = some q → ∃ i, isC[j]? = some i ∧ ws[i]? = some q := by
    intro j q hq
    have h2 : (isC.map (fun i => ws[i]?))[j]? = some (some q) := by rw [hC, List.getElem?_map, hq]; rfl
    rw [List.getElem?_map] at h2
    cases hi : isC[j]? with
    | none => rw [hi] at h2; cases h2
    | some i => rw [hi] at h2; exact ⟨i, rfl, Option.some.inj h2⟩
  have ad : ∀ (j : Nat) (q : Nat × va_E), w1[j]? = some q → ∃ q', wc[j]? = some q' ∧ q'.1 = q.1 := by
    intro j q hq
    have h2 : (w1.map Prod.fst)[j]? = some q.1 := by rw [List.getElem?_map, hq]; rfl
    rw [h1, List.getElem?_map] at h2
    cases hi : wc[j]? with
    | none => rw [hi] at h2; cases h2
    | some i => rw [hi] at h2; exact ⟨i, rfl, Option.some.inj h2⟩
  have old : ∀ (k : Nat) (q : Nat × va_E), (gRep ws isC w1)[k]? = some q → ∃ q', ws[k]? = some q' ∧ q'.1 = q.1 := by
    intro k q hq
    rcases gRep_get isC w1 ws hl k q hq with ⟨j, h2, h3⟩ | ⟨-, h3⟩
    · obtain ⟨q', h4, h5⟩ := ad j q h3
      obtain ⟨i, h6, h7⟩ := at' j q' h4
      rw [h2] at h6
      cases h6
      exact ⟨q', h7, h5⟩
    · exact ⟨q, h3, rfl⟩
  refine ⟨fun k q hq => ?_, fun i j x y hi hj hxy => ?_, fun k q hq => ?_⟩
  · rcases gRep_get isC w1 ws hl k q hq with ⟨j, -, h3⟩ | ⟨h2, h3⟩
    · exact hP1 j q h3
    · refine (hP k q h3).kept (hk q.1 (hP k q h3).lt (fun h => ?_))
      rcases h with ⟨j, e, h⟩ | h
      · obtain ⟨i, h4, h5⟩ := at' j (q.1, e) h
        have hij := hD.1 k i q (q.1, e) h3 h5 rfl
        subst hij
        exact h2 (List.mem_of_getElem? h4)
      · have := (hP k q h3).lt
        omega
  · obtain ⟨x', h2, h3⟩ := old i x hi
    obtain ⟨y', h4, h5⟩ := old j y hj
    exact hD.1 i j x' y' h2 h4 (h3.trans (hxy.trans h5.symm))
  · obtain ⟨q', h2, h3⟩ := old k q hq
    rw [← h3]
    exact hD.2 k q' h2
section GC
variable {p : Program} {l : Launch} {e : Env} {R : Room} {s : State} {m : MethodId} {args : Array Value} {below : List Frame} {meth : Method} {c : Code} {H : Heap} {locs : List Loc} {cells slots : Nat} {Q : State → Prop}
variable {pc : Nat} {ls : Array Slot} {rest st0 : List Value} {a : Array Value} {A0 : Nat → Prop} {mc ms : Nat} {G : va_G} {ws wc w1 : va_W}
/-- behind a call that answers an int -/
theorem gci {post : Int32 → Unit → Prop} (hr : va_Run p l e R s m args below meth c H locs cells slots mc ms (F0 m pc ls st0) rest (va_Qi post (gB G w1) (va_A wc H.size) a) (va_A wc H.size))
    (hP : va_P G vwCl ws H) (hD : va_D A0 ws) (hS : va_S A0 s.heap H locs) (hA : ∀ q, s.heap.size ≤ q → A0 q) (isC : List Nat) (hC : isC.map (fun i => ws[i]?) = wc.map some) (h1 : w1.map Prod.fst = wc.map Prod.fst)
    (kk : ∀ (r : Int32) (H1 : Heap) (locs1 : List Loc), post r () → va_P G vwCl (gRep ws isC w1) H1 → va_D A0 (gRep ws isC w1) → va_S A0 s.heap H1 locs1 → W p l e R s m args below meth c H1 locs1 (cells + mc) (slots + ms) Q (F0 m (pc + 3) ls (.int r :: rest))) : W p l e R s m args below meth c H locs cells slots Q (F0 m pc ls st0) := by
  have hF := va_free hD hS hA isC hC
  refine va_calli hr hS (fun q _ h => hF q h) hF (fun r u t H1 locs1 ht hvm hw hB hz1 hk1 hS1 => ?_)
  have hB : va_P G vwCl w1 t.heap := hB
  rw [ht] at hB
  obtain ⟨h2, h3⟩ := gjoin hP hD isC hC h1 hk1 hB
  exact kk r H1 locs1 hw h2 h3 hS1
/-- behind a call that answers nothing -/
theorem gcv {post : Unit → Prop} (hr : va_Run p l e R s m args below meth c H locs cells slots mc ms (F0 m pc ls st0) rest (va_Qv post (gB G w1) (va_A wc H.size) a) (va_A wc H.size))
    (hP : va_P G vwCl ws H) (hD : va_D A0 ws) (hS : va_S A0 s.heap H locs) (hA : ∀ q, s.heap.size ≤ q → A0 q) (isC : List Nat) (hC : isC.map (fun i => ws[i]?) = wc.map some) (h1 : w1.map Prod.fst = wc.map Prod.fst)
    (kk : ∀ (H1 : Heap) (locs1 : List Loc), post () → va_P G vwCl (gRep ws isC w1) H1 → va_D A0 (gRep ws isC w1) → va_S A0 s.heap H1 locs1 → W p l e R s m args below meth c H1 locs1 (cells + mc) (slots + ms) Q (F0 m (pc + 3) ls rest)) : W p l e R s m args below meth c H locs cells slots Q (F0 m pc ls st0) := by
  have hF := va_free hD hS hA isC hC
  refine va_callv hr hS (fun q _ h => hF q h) hF (fun u t H1 locs1 ht hvm hw hB hz1 hk1 hS1 => ?_)
  have hB : va_P G vwCl w1 t.heap := hB
  rw [ht] at hB
  obtain ⟨h2, h3⟩ := gjoin hP hD isC hC h1 hk1 hB
  exact kk H1 locs1 hw h2 h3 hS1
/-- behind a call that answers an int or throws -/
theorem gxi {post : Int32 → Unit → Prop} {pe : String → Prop} (hr : vx_Run p l e R s m args below meth c H locs cells slots mc ms (F0 m pc ls st0) rest (va_Qi post (gB G w1) (va_A wc H.size) a) (gX G wc H.size pe) (va_A wc H.size))
    (hP : va_P G vwCl ws H) (hD : va_D A0 ws) (hS : va_S A0 s.heap H locs) (hA : ∀ q, s.heap.size ≤ q → A0 q) (isC : List Nat) (hC : isC.map (fun i => ws[i]?) = wc.map some) (h1 : w1.map Prod.fst = wc.map Prod.fst)
    (kx : ∀ (E : String) (ce : Cell) (q9 : Addr) (H1 : Heap) (locs1 : List Loc), pe E → va_P G vwCl (gRep ws isC wc) H1 → va_D A0 (gRep ws isC wc) → va_S A0 s.heap H1 locs1 → H1[q9]? = some ce → ce.vm = .none → s.vm.findClass E = some ce.cls → vx_W p l e R s m args below meth c H1 locs1 (cells + mc) (slots + ms) Q (F0 m pc ls rest) q9)
    (kk : ∀ (r : Int32) (H1 : Heap) (locs1 : List Loc), post r () → va_P G vwCl (gRep ws isC w1) H1 → va_D A0 (gRep ws isC w1) → va_S A0 s.heap H1 locs1 → W p l e R s m args below meth c H1 locs1 (cells + mc) (slots + ms) Q (F0 m (pc + 3) ls (.int r :: rest))) : W p l e R s m args below meth c H locs cells slots Q (F0 m pc ls st0) := by
  have hF := va_free hD hS hA isC hC
  refine vx_calli hr hS (fun q _ h => hF q h) hF (fun q _ h => hF q h) (fun E ce q9 u t H1 locs1 ht hvm _ hB hz1 hk1 hS1 hce hcv hcl => ?_) (fun r u t H1 locs1 ht hvm hw hB hz1 hk1 hS1 => ?_)
  · have hB : pe E ∧ va_P G vwCl wc t.heap := hB
    rw [ht] at hB
    obtain ⟨h2, h3⟩ := gjoin hP hD isC hC rfl hk1 hB.2
    exact kx E ce q9 H1 locs1 hB.1 h2 h3 hS1 hce hcv hcl
  · have hB : va_P G vwCl w1 t.heap := hB
    rw [ht] at hB
    obtain ⟨h2, h3⟩ := gjoin hP hD isC hC h1 hk1 hB
    exact kk r H1 locs1 hw h2 h3 hS1
/-- behind a call that answers nothing or throws -/
theorem gxv {post : Unit → Prop} {pe : String → Prop} (hr : vx_Run p l e R s m args below meth c H locs cells slots mc ms (F0 m pc ls st0) rest (va_Qv post (gB G w1) (va_A wc H.size) a) (gX G wc H.size pe) (va_A wc H.size))
    (hP : va_P G vwCl ws H) (hD : va_D A0 ws) (hS : va_S A0 s.heap H locs) (hA : ∀ q, s.heap.size ≤ q → A0 q) (isC : List Nat) (hC : isC.map (fun i => ws[i]?) = wc.map some) (h1 : w1.map Prod.fst = wc.map Prod.fst)
    (kx : ∀ (E : String) (ce : Cell) (q9 : Addr) (H1 : Heap) (locs1 : List Loc), pe E → va_P G vwCl (gRep ws isC wc) H1 → va_D A0 (gRep ws isC wc) → va_S A0 s.heap H1 locs1 → H1[q9]? = some ce → ce.vm = .none → s.vm.findClass E = some ce.cls → vx_W p l e R s m args below meth c H1 locs1 (cells + mc) (slots + ms) Q (F0 m pc ls rest) q9)
    (kk : ∀ (H1 : Heap) (locs1 : List Loc), post () → va_P G vwCl (gRep ws isC w1) H1 → va_D A0 (gRep ws isC w1) → va_S A0 s.heap H1 locs1 → W p l e R s m args below meth c H1 locs1 (cells + mc) (slots + ms) Q (F0 m (pc + 3) ls rest)) : W p l e R s m args below meth c H locs cells slots Q (F0 m pc ls st0) := by
  have hF := va_free hD hS hA isC hC
  refine vx_callv hr hS (fun q _ h => hF q h) hF (fun q _ h => hF q h) (fun E ce q9 u t H1 locs1 ht hvm _ hB hz1 hk1 hS1 hce hcv hcl => ?_) (fun u t H1 locs1 ht hvm hw hB hz1 hk1 hS1 => ?_)
  · have hB : pe E ∧ va_P G vwCl wc t.heap := hB
    rw [ht] at hB
    obtain ⟨h2, h3⟩ := gjoin hP hD isC hC rfl hk1 hB.2
    exact kx E ce q9 H1 locs1 hB.1 h2 h3 hS1 hce hcv hcl
  · have hB : va_P G vwCl w1 t.heap := hB
    rw [ht] at hB
    obtain ⟨h2, h3⟩ := gjoin hP hD isC hC h1 hk1 hB
    exact kk H1 locs1 hw h2 h3 hS1
/-- a throw leaves a body without handlers -/
theorem gout {Qc : Array Value → State → Outcome → State → Prop} {W0 : va_W} {pe : String → Prop} {E : String} {ce : Cell} {q9 : Addr} (hout : ∀ x ∈ c.exceptionTable.toList, False) (hlocks : meth.locks = false) (hpe : pe E) (hP : va_P G vwCl W0 H) (hS : va_S (va_A W0 s.heap.size) s.heap H locs) (hce : H[q9]? = some ce) (hcv : ce.vm = .none) (hcl : s.vm.findClass E = some ce.cls) (h1 : cells ≤ mc) (h2 : slots ≤ ms) :
    vx_W p l e R s m args below meth c H locs cells slots (vx_MQ below Qc (gX G W0 s.heap.size pe) args s mc ms (va_A W0 s.heap.size)) (F0 m pc ls rest) q9 :=
  vx_out (fun x hx => (hout x hx).elim) hlocks hce hcv hcl (fun t ht _ => ⟨(), trivial, ⟨hpe, by rw [ht]; exact hP⟩, hS.F ht⟩) hS.2.2 h1 h2
end GC
