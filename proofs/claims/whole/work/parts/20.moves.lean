/-! THE SIMULATION: what changes one name -/
theorem upd_at (f : Nat → Int32) (k : Nat) (x : Int32) : upd f k x k = x := if_pos rfl
theorem upd_no {f : Nat → Int32} {k j : Nat} {x : Int32} (h : ¬ j = k) : upd f k x j = f j := if_neg h
theorem updA_at (F : Nat → Nat → Int32) (k : Nat) (g : Nat → Int32) : updA F k g k = g := if_pos rfl
theorem updA_no {F : Nat → Nat → Int32} {k j : Nat} {g : Nat → Int32} (h : ¬ j = k) : updA F k g j = F j := if_neg h
theorem pos10 {x : Int32} (h : ¬ x < 10) : 0 < x := by
  have e1 : (10 : Int32).toInt = 10 := rfl
  have e0 : (0 : Int32).toInt = 0 := rfl
  rw [Int32.lt_iff_toInt_lt] at h ⊢
  omega
def RNe (N : Nat → Int32) (F : Nat → Nat → Int32) (i : Nat) : Prop := N 0 = F 3 i ∧ N 1 = F 4 i ∧ N 4 = F 6 i ∧ N 5 = F 7 i ∧ N 6 = F 10 i ∧ N 7 = F 8 i ∧ N 8 = F 9 i
section RNS
variable {c c2 i : Nat} {N f g : Nat → Int32} {F F2 : Nat → Nat → Int32}
theorem RN.st (h : RN c N f g F i) : N 0 = 0 ∨ N 0 = 1 ∨ N 0 = 2 ∨ N 0 = 3 ∨ N 0 = 4 ∨ N 0 = 5 := by
  obtain ⟨s, hs, e⟩ := h.2.1
  match s, hs, e with
  | 0, _, e => exact Or.inl e
  | 1, _, e => exact Or.inr (Or.inl e)
  | 2, _, e => exact Or.inr (Or.inr (Or.inl e))
  | 3, _, e => exact Or.inr (Or.inr (Or.inr (Or.inl e)))
  | 4, _, e => exact Or.inr (Or.inr (Or.inr (Or.inr (Or.inl e))))
  | 5, _, e => exact Or.inr (Or.inr (Or.inr (Or.inr (Or.inr e))))
theorem RN.am (h : RN c N f g F i) : ∀ k, k < 6 → F 11 (6 * i + k) = f k := h.2.2.2.2.2.2.2.2.1
theorem RN.zero (h : RN c N f g F i) (h1 : ¬ N 0 = 1) : ∀ k, k < 6 → f k = 0 := fun k hk => h.2.2.2.2.2.2.2.2.2.1 k hk h1
theorem RN.bd (h : RN c N f g F i) : ∀ k, k < 6 → f k = 0 ∨ (¬ f k < 10 ∧ 0 < f k ∧ ∃ d : Nat, d < c ∧ F 12 (6 * i + k) = nI d ∧ g k = nI (d + 1)) := h.2.2.2.2.2.2.2.2.2.2
theorem RN.clo (h : RN c N f g F i) (h0 : N 0 = 1) : N 2 = F 5 i := h.2.2.1 h0
theorem RN.end_ (h : RN c N f g F i) (h0 : N 0 = 2 ∨ N 0 = 3 ∨ N 0 = 4 ∨ (N 0 = 5 ∧ ¬ N 6 = 1)) : N 3 = F 5 i := h.2.2.2.1 h0
theorem RN.bef (h : RN c N f g F i) (h0 : N 0 = 5) : N 6 = 1 ∨ N 6 = 2 ∨ N 6 = 3 := h.2.2.2.2.1 h0
theorem RN.non (h : RN c N f g F i) (h0 : N 0 = 0 ∨ N 0 = 1 ∨ (N 0 = 5 ∧ N 6 = 1)) : N 1 = -1 := h.2.2.2.2.2.1 h0
theorem RN.own (h : RN c N f g F i) (h0 : N 0 = 2 ∨ N 0 = 3 ∨ N 0 = 4 ∨ (N 0 = 5 ∧ ¬ N 6 = 1)) : ∃ o : Nat, o < 6 ∧ N 1 = nI o := h.2.2.2.2.2.2.1 h0
theorem RN.cha (h : RN c N f g F i) (h0 : N 0 = 5) : ∃ o : Nat, o < 6 ∧ N 7 = nI o := h.2.2.2.2.2.2.2.1 h0
theorem RN.at0 (e : RNe N F i) (h0 : N 0 = 0) (h1 : N 1 = -1) (ha : ∀ k, k < 6 → F 11 (6 * i + k) = f k) (hz : ∀ k, k < 6 → f k = 0) : RN c N f g F i :=
  ⟨e, ⟨0, by omega, h0.trans rfl⟩, by simp [h0], by simp [h0], by simp [h0], fun _ => h1, by simp [h0], by simp [h0], ha, fun k hk _ => hz k hk, fun k hk => Or.inl (hz k hk)⟩
theorem RN.at1 (e : RNe N F i) (h0 : N 0 = 1) (h1 : N 1 = -1) (h2 : N 2 = F 5 i) (ha : ∀ k, k < 6 → F 11 (6 * i + k) = f k) (hb : ∀ k, k < 6 → f k = 0 ∨ (¬ f k < 10 ∧ 0 < f k ∧ ∃ d : Nat, d < c ∧ F 12 (6 * i + k) = nI d ∧ g k = nI (d + 1))) : RN c N f g F i :=
  ⟨e, ⟨1, by omega, h0.trans rfl⟩, fun _ => h2, by simp [h0], by simp [h0], fun _ => h1, by simp [h0], by simp [h0], ha, fun k hk h => absurd h0 h, hb⟩
theorem RN.at2 (e : RNe N F i) (h0 : N 0 = 2 ∨ N 0 = 3 ∨ N 0 = 4) (h3 : N 3 = F 5 i) (ho : ∃ o : Nat, o < 6 ∧ N 1 = nI o) (ha : ∀ k, k < 6 → F 11 (6 * i + k) = f k) (hz : ∀ k, k < 6 → f k = 0) : RN c N f g F i := by
  have hs : ∃ s : Nat, s < 6 ∧ N 0 = nI s := by
    rcases h0 with h | h | h
    · exact ⟨2, by omega, h.trans rfl⟩
    · exact ⟨3, by omega, h.trans rfl⟩
    · exact ⟨4, by omega, h.trans rfl⟩
  refine ⟨e, hs, ?_, fun _ => h3, ?_, ?_, fun _ => ho, ?_, ha, fun k hk _ => hz k hk, fun k hk => Or.inl (hz k hk)⟩ <;> rcases h0 with h | h | h <;> simp [h]
theorem RN.at5 (e : RNe N F i) (h0 : N 0 = 5) (h6 : (N 6 = 1 ∧ N 1 = -1) ∨ ((N 6 = 2 ∨ N 6 = 3) ∧ N 3 = F 5 i ∧ ∃ o : Nat, o < 6 ∧ N 1 = nI o)) (h7 : ∃ o : Nat, o < 6 ∧ N 7 = nI o) (ha : ∀ k, k < 6 → F 11 (6 * i + k) = f k) (hz : ∀ k, k < 6 → f k = 0) : RN c N f g F i := by
  refine ⟨e, ⟨5, by omega, h0.trans rfl⟩, by simp [h0], ?_, ?_, ?_, ?_, fun _ => h7, ha, fun k hk _ => hz k hk, fun k hk => Or.inl (hz k hk)⟩
  · rcases h6 with ⟨h, -⟩ | ⟨-, h, -⟩
    · simp [h0, h]
    · exact fun _ => h
  · rcases h6 with ⟨h, -⟩ | ⟨h, -, -⟩
    · exact fun _ => Or.inl h
    · exact fun _ => Or.inr h
  · rcases h6 with ⟨-, h⟩ | ⟨h | h, -, -⟩
    · exact fun _ => h
    · simp [h0, h]
    · simp [h0, h]
  · rcases h6 with ⟨h, -⟩ | ⟨-, -, h⟩
    · simp [h0, h]
    · exact fun _ => h
theorem RN.frame (h : RN c N f g F i) (hc : c ≤ c2) (e : ∀ k, 3 ≤ k → k ≤ 10 → F2 k i = F k i) (e1 : ∀ k, k < 6 → F2 11 (6 * i + k) = F 11 (6 * i + k)) (e2 : ∀ k, k < 6 → F2 12 (6 * i + k) = F 12 (6 * i + k)) : RN c2 N f g F2 i := by
  obtain ⟨h1, h2, h3, h4, h5, h6, h7, h8, h9, h10, h11⟩ := h
  have a3 := e 3 (by omega) (by omega)
  have a4 := e 4 (by omega) (by omega)
  have a5 := e 5 (by omega) (by omega)
  have a6 := e 6 (by omega) (by omega)
  have a7 := e 7 (by omega) (by omega)
  have a8 := e 8 (by omega) (by omega)
  have a9 := e 9 (by omega) (by omega)
  have a10 := e 10 (by omega) (by omega)
  refine ⟨by rw [a3, a4, a6, a7, a8, a9, a10]; exact h1, h2, by rw [a5]; exact h3, by rw [a5]; exact h4, h5, h6, h7, h8, fun k hk => by rw [e1 k hk]; exact h9 k hk, h10, fun k hk => ?_⟩
  rcases h11 k hk with h | ⟨p1, p2, d, hd, p3, p4⟩
  · exact Or.inl h
  · exact Or.inr ⟨p1, p2, d, by omega, by rw [e2 k hk]; exact p3, p4⟩
end RNS
/-- all but name j stands in the reference as it was -/
def gFr (F F2 : Nat → Nat → Int32) (j : Nat) : Prop := ∀ i, i < 16 → ¬ i = j → (∀ k, 3 ≤ k → k ≤ 10 → F2 k i = F k i) ∧ (∀ k, k < 6 → F2 11 (6 * i + k) = F 11 (6 * i + k)) ∧ (∀ k, k < 6 → F2 12 (6 * i + k) = F 12 (6 * i + k))
section FRS
variable {F F2 : Nat → Nat → Int32} {j : Nat}
theorem gFr.rf : gFr F F j := fun _ _ _ => ⟨fun _ _ _ => rfl, fun _ _ => rfl, fun _ _ => rfl⟩
theorem gFr.step (h : gFr F F2 j) (q : Nat) (hq : q ≤ 10) (v : Int32) : gFr F (updA F2 q (upd (F2 q) j v)) j := by
  intro i hi hij
  obtain ⟨a, b, c⟩ := h i hi hij
  refine ⟨fun k h1 h2 => ?_, fun k hk => ?_, fun k hk => ?_⟩
  · by_cases e : k = q
    · subst e
      rw [updA_at, upd_no hij]; exact a k h1 h2
    · rw [updA_no e]; exact a k h1 h2
  · rw [updA_no (by omega)]; exact b k hk
  · rw [updA_no (by omega)]; exact c k hk
theorem gFr.row2 (h : gFr F F2 j) (g : Nat → Int32) : gFr F (updA F2 2 g) j := by
  intro i hi hij
  obtain ⟨a, b, c⟩ := h i hi hij
  refine ⟨fun k h1 h2 => ?_, fun k hk => ?_, fun k hk => ?_⟩
  · rw [updA_no (by omega)]; exact a k h1 h2
  · rw [updA_no (by omega)]; exact b k hk
  · rw [updA_no (by omega)]; exact c k hk
theorem gFr.bid (h : gFr F F2 j) (q : Nat) (hq : q = 11 ∨ q = 12) {i : Nat} (hi6 : i < 6) (v : Int32) : gFr F (updA F2 q (upd (F2 q) (6 * j + i) v)) j := by
  intro i2 hi hij
  obtain ⟨a, b, c⟩ := h i2 hi hij
  refine ⟨fun k h1 h2 => ?_, fun k hk => ?_, fun k hk => ?_⟩
  · rw [updA_no (by omega)]; exact a k h1 h2
  · by_cases e : 11 = q
    · subst e
      rw [updA_at, upd_no (by omega)]; exact b k hk
    · rw [updA_no e]; exact b k hk
  · by_cases e : 12 = q
    · subst e
      rw [updA_at, upd_no (by omega)]; exact c k hk
    · rw [updA_no e]; exact c k hk
theorem gFr.clear (h : gFr F F2 j) : gFr F (mClear F2 j) j := by
  intro i2 hi hij
  obtain ⟨a, b, c⟩ := h i2 hi hij
  refine ⟨fun k h1 h2 => ?_, fun k hk => ?_, fun k hk => ?_⟩
  · rw [mClear, updA_no (by omega)]; exact a k h1 h2
  · rw [mClear, updA_at, mClr, if_neg (by omega)]; exact b k hk
  · rw [mClear, updA_no (by omega)]; exact c k hk
theorem gFr.lease (h : gFr F F2 j) (o t : Int32) : gFr F (mLease F2 j o t) j := ((((h.step 3 (by omega) 2).step 4 (by omega) o).step 5 (by omega) (t + 100)).step 6 (by omega) 0).step 7 (by omega) 10
theorem mClear_at (F : Nat → Nat → Int32) (j : Nat) : ∀ k, k < 6 → mClear F j 11 (6 * j + k) = 0 := fun k hk => by rw [mClear, updA_at, mClr, if_pos (by omega)]
end FRS
/-- the relation on day t with c bids made -/
def RELt (t c : Nat) (D mny : Nat → Int32) (N f g : Nat → Nat → Int32) (rk rf rg rh : Nat → Nat → Int32) (I1 : Nat → Int32) (F : Nat → Nat → Int32) : Prop :=
  D 3 = nI t ∧ I1 0 = nI t ∧ I1 1 = D 4 ∧ D 5 = nI c ∧ I1 13 = nI c ∧
    (∀ k, k < 6 → F 2 k = mny k) ∧ (∀ i, i < 16 → RN c (N i) (f i) (g i) F i) ∧ (∀ r, r < 3 → ∀ j, j < 16 → RV t (rk r) (rf r) (rg r) (rh r) F r j)
section ONE
variable {n t c c2 : Nat} {D mny : Nat → Int32} {N f g : Nat → Nat → Int32} {rk rf rg rh : Nat → Nat → Int32} {I1 : Nat → Int32} {F : Nat → Nat → Int32}
variable {D2 mny2 N2 f2 g2 I2 : Nat → Int32} {F2 : Nat → Nat → Int32} {j : Nat}
theorem RELt.rel (h : RELt t c D mny N f g rk rf rg rh I1 F) (ht : t ≤ 200 * n) (hc : c ≤ n) : REL n D mny N f g rk rf rg rh I1 F := ⟨t, c, ht, hc, h⟩
theorem RELt.one (d3 : D2 3 = nI t) (i0 : I2 0 = nI t) (i1 : I2 1 = D2 4) (d5 : D2 5 = nI c2) (i13 : I2 13 = nI c2) (hm : ∀ k, k < 6 → F2 2 k = mny2 k) (h : RELt t c D mny N f g rk rf rg rh I1 F) (hcc : c ≤ c2)
    (hnw : RN c2 N2 f2 g2 F2 j) (fr : gFr F F2 j) (hq : F2 14 = F 14 ∧ F2 15 = F 15 ∧ F2 16 = F 16) : RELt t c2 D2 mny2 (updA N j N2) (updA f j f2) (updA g j g2) rk rf rg rh I2 F2 := by
  obtain ⟨-, -, -, -, -, -, ho, hv⟩ := h
  refine ⟨d3, i0, i1, d5, i13, hm, fun i hi => ?_, fun r hr j hj => ?_⟩
  · by_cases q : i = j
    · subst q
      rw [updA_at, updA_at, updA_at]; exact hnw
    · rw [updA_no q, updA_no q, updA_no q]
      obtain ⟨a, b, d⟩ := fr i hi q
      exact (ho i hi).frame hcc a b d
  · unfold RV
    rw [hq.1, hq.2.1, hq.2.2]
    exact hv r hr j hj
end ONE
section SIM5
variable {n : Nat} {D mny : Nat → Int32} {N f g : Nat → Nat → Int32} {rk rf rg rh : Nat → Nat → Int32} {I1 : Nat → Int32} {F : Nat → Nat → Int32}
theorem kBid_0 {p0 p1 p2 : Int32} {N : Nat → Int32} (hk : kBid p0 p1 p2 N = 0) : okI p0 6 = true ∧ okI p1 16 = true ∧ okR p2 10 100000 = true ∧ (N 0 = 0 ∨ N 0 = 1) := by
  simp only [kBid] at hk
  repeat' (split at hk)
  all_goals first | exact absurd hk (by decide) | exact ⟨by assumption, by assumption, by assumption, by first | exact Or.inl (by assumption) | exact Or.inr (by assumption)⟩
theorem sim_bid (h : REL n D mny N f g rk rf rg rh I1 F) {i j : Nat} {p0 p1 p2 : Int32} (hi : okI p0 6 = true → p0 = nI i ∧ i < 6) (hj : j < 16) :
    kBid p0 p1 p2 (N j) = cBid F j p0 p1 p2 ∧ (kBid p0 p1 p2 (N j) = 0 → sBidN (N j) D 2 = mBidR I1 F j ∧
      REL (n + 1) (upd D 5 (D 5 + 1)) mny (updA N j (sBidN (N j) D)) (updA f j (upd (f j) i p2)) (updA g j (upd (g j) i (D 5 + 1))) rk rf rg rh (upd (upd I1 17 0) 13 (I1 13 + 1)) (mBidF I1 F j i p2)) := by
  obtain ⟨t, c, h1, h2, hT⟩ := h
  obtain ⟨h3, h4, h5, h6, h7, h8, h9, h10⟩ := id hT
  have hR := h9 j hj
  have e3 : N j 0 = F 3 j := hR.1.1
  refine ⟨?_, fun hk => ?_⟩
  · have q : (if N j 0 = 0 then 0 else if N j 0 = 1 then 0 else 3 : Nat) = if F 3 j ≤ 1 then 0 else 3 := by
      rw [← e3]
      rcases hR.st with q | q | q | q | q | q <;> simp [q]
    simp only [kBid, cBid, q]
  · obtain ⟨k0, k1, k2, k3⟩ := kBid_0 hk
    have hi6 := (hi k0).2
    have hp : ¬ p2 < 10 := (okR_of k2).1
    have ham : ∀ k, k < 6 → upd (F 11) (6 * j + i) p2 (6 * j + k) = upd (f j) i p2 k := by
      intro k hk
      by_cases q : k = i
      · subst q; rw [upd_at, upd_at]
      · rw [upd_no (by omega), upd_no q]; exact hR.am k hk
    have hbd : ∀ k, k < 6 → upd (f j) i p2 k = 0 ∨ (¬ upd (f j) i p2 k < 10 ∧ 0 < upd (f j) i p2 k ∧ ∃ d : Nat, d < c + 1 ∧ upd (F 12) (6 * j + i) (I1 13) (6 * j + k) = nI d ∧ upd (g j) i (D 5 + 1) k = nI (d + 1)) := by
      intro k hk
      by_cases q : k = i
      · subst q
        rw [upd_at, upd_at, upd_at]
        exact Or.inr ⟨hp, pos10 hp, c, by omega, h7, by rw [h6, nI_1]⟩
      · rw [upd_no q, upd_no (by omega), upd_no q]
        rcases hR.bd k hk with z | ⟨z1, z2, d, z3, z4, z5⟩
        · exact Or.inl z
        · exact Or.inr ⟨z1, z2, d, by omega, z4, z5⟩
    have hd5 : upd D 5 (D 5 + 1) 5 = nI (c + 1) := by rw [upd_at, h6, nI_1]
    have hi13 : upd (upd I1 17 0) 13 (I1 13 + 1) 13 = nI (c + 1) := by rw [upd_at, h7, nI_1]
    by_cases q : N j 0 = 0
    · have eN : sBidN (N j) D = upd (upd (N j) 0 1) 2 (D 3 + 5) := by rw [sBidN, if_pos q]
      have eF : mBidF I1 F j i p2 = updA (updA (updA (updA F 3 (upd (F 3) j 1)) 5 (upd (F 5) j (I1 0 + 5))) 11 (upd (F 11) (6 * j + i) p2)) 12 (upd (F 12) (6 * j + i) (I1 13)) := by rw [mBidF, if_pos (e3.symm.trans q)]
      have eR : mBidR I1 F j = I1 0 + 5 := by rw [mBidR, if_pos (e3.symm.trans q)]
      rw [eN, eF, eR]
      have e05 : D 3 + 5 = I1 0 + 5 := by rw [h3, h4]
      refine ⟨e05, RELt.rel (t := t) (c := c + 1) (RELt.one h3 h4 h5 hd5 hi13 h8 hT (by omega) ?_ ((((gFr.rf.step 3 (by omega) 1).step 5 (by omega) (I1 0 + 5)).bid 11 (Or.inl rfl) hi6 p2).bid 12 (Or.inr rfl) hi6 (I1 13)) ⟨rfl, rfl, rfl⟩) (by omega) (by omega)⟩
      refine RN.at1 ⟨(upd_at (F 3) j 1).symm, hR.1.2.1, hR.1.2.2.1, hR.1.2.2.2.1, hR.1.2.2.2.2.1, hR.1.2.2.2.2.2.1, hR.1.2.2.2.2.2.2⟩ rfl (hR.non (Or.inl q)) ?_ ham hbd
      exact e05.trans (upd_at (F 5) j (I1 0 + 5)).symm
    · have eN : sBidN (N j) D = N j := by rw [sBidN, if_neg q]
      have q1 : N j 0 = 1 := k3.resolve_left q
      have q2 : ¬ F 3 j = 0 := fun z => q (e3.trans z)
      have eF : mBidF I1 F j i p2 = updA (updA F 11 (upd (F 11) (6 * j + i) p2)) 12 (upd (F 12) (6 * j + i) (I1 13)) := by rw [mBidF, if_neg q2]
      have eR : mBidR I1 F j = F 5 j := by rw [mBidR, if_neg q2]
      rw [eN, eF, eR]
      refine ⟨hR.clo q1, RELt.rel (t := t) (c := c + 1) (RELt.one h3 h4 h5 hd5 hi13 h8 hT (by omega) ?_ ((gFr.rf.bid 11 (Or.inl rfl) hi6 p2).bid 12 (Or.inr rfl) hi6 (I1 13)) ⟨rfl, rfl, rfl⟩) (by omega) (by omega)⟩
      exact RN.at1 hR.1 q1 (hR.non (Or.inr (Or.inl q1))) (hR.clo q1) ham hbd
theorem pay_ok {mny D : Nat → Int32} {o : Nat} {x : Int32} (ho : o < 6) (h : ¬ mny o < x) : sPayD D mny (nI o) x = upd D 4 (D 4 + x) ∧ sPayF mny (nI o) x = upd mny o (mny o - x) := by
  have e : (nI o).toNatClampNeg = o := nI_clamp (by omega)
  simp only [sPayD, sPayF, e]
  rw [if_pos ⟨okI_6 o ho, h⟩, if_pos ⟨okI_6 o ho, h⟩]
  exact ⟨rfl, rfl⟩
theorem hm_pay {mny : Nat → Int32} {F : Nat → Nat → Int32} {o : Nat} {x : Int32} (h : ∀ k, k < 6 → F 2 k = mny k) (ho : o < 6) : ∀ k, k < 6 → upd (F 2) o (F 2 o - x) k = upd mny o (mny o - x) k := by
  intro k hk
  by_cases q : k = o
  · subst q; rw [upd_at, upd_at, h k hk]
  · rw [upd_no q, upd_no q, h k hk]
theorem okR_23 {x : Int32} (h : okR x 2 3 = true) (hs : x = 0 ∨ x = 1 ∨ x = 2 ∨ x = 3 ∨ x = 4 ∨ x = 5) : x = 2 ∨ x = 3 := by
  rcases hs with q | q | q | q | q | q <;> simp [q, okR] at h ⊢
theorem kRenew_0 {D mny N : Nat → Int32} {p0 p1 : Int32} (hk : kRenew D mny N p0 p1 = 0) : okI p0 16 = true ∧ okR p1 1 5 = true ∧ ¬ sHeld (N 0) = 0 ∧ ¬ D 3 + 600 < N 3 + p1 * 100 ∧ ¬ sCan mny (N 1) (p1 * 20) = 0 := by
  simp only [kRenew] at hk
  repeat' (split at hk)
  all_goals first | exact absurd hk (by decide) | exact ⟨by assumption, by assumption, by assumption, by assumption, by assumption⟩
theorem held_of {x : Int32} (h : ¬ sHeld x = 0) : x = 2 ∨ x = 3 := by
  simp only [sHeld] at h
  exact of_decide_eq_true (bI_t h)
theorem sim_renew (h : REL n D mny N f g rk rf rg rh I1 F) {j o : Nat} {p0 p1 : Int32} (hj : j < 16) (ho : okR (F 3 j) 2 3 = true → F 4 j = nI o ∧ o < 6) :
    kRenew D mny (N j) p0 p1 = cRenew I1 F j o p0 p1 ∧ (kRenew D mny (N j) p0 p1 = 0 → N j 3 + p1 * 100 = F 5 j + 100 * p1 ∧
      REL (n + 1) (sPayD D mny (N j 1) (p1 * 20)) (sPayF mny (N j 1) (p1 * 20)) (updA N j (upd (upd (N j) 3 (N j 3 + p1 * 100)) 0 2)) f g rk rf rg rh (upd (upd I1 17 0) 1 (I1 1 + 20 * p1)) (updA (updA (mPayF F o (20 * p1)) 5 (upd (F 5) j (F 5 j + 100 * p1))) 3 (upd (F 3) j 2))) := by
  obtain ⟨t, c, h1, h2, hT⟩ := h
  obtain ⟨h3, h4, h5, h6, h7, h8, h9, h10⟩ := id hT
  have hR := h9 j hj
  have e3 : N j 0 = F 3 j := hR.1.1
  have e4 : N j 1 = F 4 j := hR.1.2.1
  have m1 : p1 * 100 = 100 * p1 := Int32.mul_comm _ _
  have m2 : p1 * 20 = 20 * p1 := Int32.mul_comm _ _
  refine ⟨?_, fun hk => ?_⟩
  · have q : (if sHeld (N j 0) = 0 then 3 else if D 3 + 600 < N j 3 + p1 * 100 then 3 else if sCan mny (N j 1) (p1 * 20) = 0 then 3 else 0 : Nat) = if okR (F 3 j) 2 3 = true then (if I1 0 + 600 < F 5 j + 100 * p1 then 3 else if F 2 o < 20 * p1 then 3 else 0) else 3 := by
      by_cases z : N j 0 = 2 ∨ N j 0 = 3
      · have z1 : okR (F 3 j) 2 3 = true := by rw [← e3]; rcases z with z | z <;> simp [z, okR]
        have z2 : ¬ sHeld (N j 0) = 0 := by rcases z with z | z <;> simp [z, sHeld, bI]
        obtain ⟨o1, o2⟩ := ho z1
        have z3 : N j 3 = F 5 j := hR.end_ (by rcases z with z | z; exact Or.inl z; exact Or.inr (Or.inl z))
        rw [if_pos z1, if_neg z2, z3, h3, h4, m1, m2, e4, o1, sCan_nI mny o2, h8 o o2]
        by_cases w : mny o < 20 * p1 <;> simp [w, bI]
      · have z2 : sHeld (N j 0) = 0 := by simp [sHeld, bI, z]
        have z1 : ¬ okR (F 3 j) 2 3 = true := fun y => z (okR_23 (by rw [e3]; exact y) hR.st)
        rw [if_pos z2, if_neg z1]
    simp only [kRenew, cRenew, q]
  · obtain ⟨k0, k1, k2, k3, k4⟩ := kRenew_0 hk
    have z := held_of k2
    have z1 : okR (F 3 j) 2 3 = true := by rw [← e3]; rcases z with z | z <;> simp [z, okR]
    obtain ⟨o1, o2⟩ := ho z1
    have z0 : N j 0 = 2 ∨ N j 0 = 3 ∨ N j 0 = 4 ∨ (N j 0 = 5 ∧ ¬ N j 6 = 1) := by rcases z with z | z; exact Or.inl z; exact Or.inr (Or.inl z)
    have z3 : N j 3 = F 5 j := hR.end_ z0
    have zz : ¬ N j 0 = 1 := by rcases z with z | z <;> simp [z]
    rw [m2, e4, o1, sCan_nI mny o2] at k4
    have k5 : ¬ mny o < 20 * p1 := of_decide_eq_true (bI_t k4)
    obtain ⟨y1, y2⟩ := pay_ok (D := D) o2 k5
    have ee : N j 3 + p1 * 100 = F 5 j + 100 * p1 := by rw [z3, m1]
    refine ⟨ee, ?_⟩
    rw [m2, e4, o1, y1, y2, ee]
    have K : RELt t c (upd D 4 (D 4 + 20 * p1)) (upd mny o (mny o - 20 * p1)) (updA N j (upd (upd (N j) 3 (F 5 j + 100 * p1)) 0 2)) (updA f j (f j)) (updA g j (g j)) rk rf rg rh (upd (upd I1 17 0) 1 (I1 1 + 20 * p1)) (updA (updA (mPayF F o (20 * p1)) 5 (upd (F 5) j (F 5 j + 100 * p1))) 3 (upd (F 3) j 2)) := by
      refine RELt.one h3 h4 ?_ h6 h7 (hm_pay h8 o2) hT (Nat.le_refl c) ?_ (((gFr.rf.row2 _).step 5 (by omega) (F 5 j + 100 * p1)).step 3 (by omega) 2) ⟨rfl, rfl, rfl⟩
      · show I1 1 + 20 * p1 = D 4 + 20 * p1
        rw [h5]
      · refine RN.at2 ⟨(upd_at (F 3) j 2).symm, hR.1.2.1, hR.1.2.2.1, hR.1.2.2.2.1, hR.1.2.2.2.2.1, hR.1.2.2.2.2.2.1, hR.1.2.2.2.2.2.2⟩ (Or.inl rfl) (upd_at (F 5) j (F 5 j + 100 * p1)).symm (hR.own z0) hR.am (hR.zero zz)
    rw [updA_self, updA_self] at K
    exact K.rel (by omega) (by omega)
theorem kRedeem_0 {mny N : Nat → Int32} {p0 : Int32} (hk : kRedeem mny N p0 = 0) : okI p0 16 = true ∧ N 0 = 4 ∧ ¬ sCan mny (N 1) 50 = 0 := by
  simp only [kRedeem] at hk
  repeat' (split at hk)
  all_goals first | exact absurd hk (by decide) | exact ⟨by assumption, by assumption, by assumption⟩
theorem sim_redeem (h : REL n D mny N f g rk rf rg rh I1 F) {j o : Nat} {p0 : Int32} (hj : j < 16) (ho : F 3 j = 4 → F 4 j = nI o ∧ o < 6) :
    kRedeem mny (N j) p0 = cRedeem F j o p0 ∧ (kRedeem mny (N j) p0 = 0 → sPayD D mny (N j 1) 50 3 + 100 = I1 0 + 100 ∧
      REL (n + 1) (sPayD D mny (N j 1) 50) (sPayF mny (N j 1) 50) (updA N j (upd (upd (upd (upd (upd (N j) 0 2) 1 (N j 1)) 3 ((sPayD D mny (N j 1) 50) 3 + 100)) 4 0) 5 10)) (updA f j (fun _ => 0)) g rk rf rg rh (upd (upd I1 17 0) 1 (I1 1 + 50)) (mLease (mPayF F o 50) j (F 4 j) (I1 0))) := by
  obtain ⟨t, c, h1, h2, hT⟩ := h
  obtain ⟨h3, h4, h5, h6, h7, h8, h9, h10⟩ := id hT
  have hR := h9 j hj
  have e3 : N j 0 = F 3 j := hR.1.1
  have e4 : N j 1 = F 4 j := hR.1.2.1
  refine ⟨?_, fun hk => ?_⟩
  · have q : (if N j 0 = 4 then (if sCan mny (N j 1) 50 = 0 then 3 else 0) else 3 : Nat) = if F 3 j = 4 then (if F 2 o < 50 then 3 else 0) else 3 := by
      by_cases z : F 3 j = 4
      · obtain ⟨o1, o2⟩ := ho z
        rw [if_pos z, if_pos (e3.trans z), e4, o1, sCan_nI mny o2, h8 o o2]
        by_cases w : mny o < 50 <;> simp [w, bI]
      · rw [if_neg z, if_neg (fun y => z (e3.symm.trans y))]
    simp only [kRedeem, cRedeem, q]
  · obtain ⟨k0, z, k4⟩ := kRedeem_0 hk
    obtain ⟨o1, o2⟩ := ho (e3.symm.trans z)
    have zz : ¬ N j 0 = 1 := by simp [z]
    rw [e4, o1, sCan_nI mny o2] at k4
    have k5 : ¬ mny o < 50 := of_decide_eq_true (bI_t k4)
    obtain ⟨y1, y2⟩ := pay_ok (D := D) o2 k5
    rw [e4, o1, y1, y2]
    have ee : D 3 + 100 = I1 0 + 100 := by rw [h3, h4]
    refine ⟨ee, ?_⟩
    have K : RELt t c (upd D 4 (D 4 + 50)) (upd mny o (mny o - 50)) (updA N j (upd (upd (upd (upd (upd (N j) 0 2) 1 (nI o)) 3 (D 3 + 100)) 4 0) 5 10)) (updA f j (fun _ => 0)) (updA g j (g j)) rk rf rg rh (upd (upd I1 17 0) 1 (I1 1 + 50)) (mLease (mPayF F o 50) j (nI o) (I1 0)) := by
      refine RELt.one h3 h4 ?_ h6 h7 (hm_pay h8 o2) hT (Nat.le_refl c) ?_ ((gFr.rf.row2 _).lease _ _) ⟨rfl, rfl, rfl⟩
      · show I1 1 + 50 = D 4 + 50
        rw [h5]
      · refine RN.at2 ⟨(upd_at (F 3) j 2).symm, (upd_at (F 4) j (nI o)).symm, (upd_at (F 6) j 0).symm, (upd_at (F 7) j 10).symm, hR.1.2.2.2.2.1, hR.1.2.2.2.2.2.1, hR.1.2.2.2.2.2.2⟩ (Or.inl rfl) (ee.trans (upd_at (F 5) j (I1 0 + 100)).symm) ⟨o, o2, rfl⟩ (fun k hk => (hR.am k hk).trans (hR.zero zz k hk)) (fun _ _ => rfl)
    rw [updA_self] at K
    exact K.rel (by omega) (by omega)
theorem kSetRec_0 {N : Nat → Int32} {p0 p1 p2 : Int32} (hk : kSetRec N p0 p1 p2 = 0) : okI p0 16 = true ∧ N 0 = 2 := by
  simp only [kSetRec] at hk
  repeat' (split at hk)
  all_goals first | exact absurd hk (by decide) | exact ⟨by assumption, by assumption⟩
theorem sim_setRec (h : REL n D mny N f g rk rf rg rh I1 F) {j : Nat} {p0 p1 p2 : Int32} (hj : j < 16) :
    kSetRec (N j) p0 p1 p2 = cSetRec F j p0 p1 p2 ∧ (kSetRec (N j) p0 p1 p2 = 0 → N j 4 = F 6 j ∧
      REL (n + 1) D mny (updA N j (upd (upd (N j) 4 p1) 5 p2)) f g rk rf rg rh (upd I1 17 0) (updA (updA F 6 (upd (F 6) j p1)) 7 (upd (F 7) j p2))) := by
  obtain ⟨t, c, h1, h2, hT⟩ := h
  obtain ⟨h3, h4, h5, h6, h7, h8, h9, h10⟩ := id hT
  have hR := h9 j hj
  have e3 : N j 0 = F 3 j := hR.1.1
  refine ⟨by simp only [kSetRec, cSetRec, e3], fun hk => ⟨hR.1.2.2.1, ?_⟩⟩
  obtain ⟨k0, z⟩ := kSetRec_0 hk
  have zz : ¬ N j 0 = 1 := by simp [z]
  have K : RELt t c D mny (updA N j (upd (upd (N j) 4 p1) 5 p2)) (updA f j (f j)) (updA g j (g j)) rk rf rg rh (upd I1 17 0) (updA (updA F 6 (upd (F 6) j p1)) 7 (upd (F 7) j p2)) := by
    refine RELt.one h3 h4 h5 h6 h7 h8 hT (Nat.le_refl c) ?_ ((gFr.rf.step 6 (by omega) p1).step 7 (by omega) p2) ⟨rfl, rfl, rfl⟩
    exact RN.at2 ⟨hR.1.1, hR.1.2.1, (upd_at (F 6) j p1).symm, (upd_at (F 7) j p2).symm, hR.1.2.2.2.2.1, hR.1.2.2.2.2.2.1, hR.1.2.2.2.2.2.2⟩ (Or.inl z) (hR.end_ (Or.inl z)) (hR.own (Or.inl z)) hR.am (hR.zero zz)
  rw [updA_self, updA_self] at K
  exact K.rel (by omega) (by omega)
theorem kDispute_0 {N : Nat → Int32} {p0 p1 : Int32} (hk : kDispute N p0 p1 = 0) : okI p0 6 = true ∧ okI p1 16 = true ∧ (N 0 = 1 ∨ N 0 = 2 ∨ N 0 = 3) := by
  simp only [kDispute] at hk
  repeat' (split at hk)
  all_goals first | exact absurd hk (by decide) | exact ⟨by assumption, by assumption, by first | exact Or.inl (by assumption) | exact Or.inr (held_of (by assumption))⟩
theorem sim_dispute (h : REL n D mny N f g rk rf rg rh I1 F) {i j : Nat} {p0 p1 : Int32} (hi : okI p0 6 = true → p0 = nI i ∧ i < 6) (hj : j < 16) :
    kDispute (N j) p0 p1 = cDispute F j p0 p1 ∧ (kDispute (N j) p0 p1 = 0 → N j 0 = F 3 j ∧
      REL (n + 1) D mny (updA N j (upd (upd (upd (upd (N j) 6 (N j 0)) 0 5) 7 p0) 8 (D 3))) (updA f j (fun _ => 0)) g rk rf rg rh (upd I1 17 0) (mClear (updA (updA (updA (updA F 10 (upd (F 10) j (F 3 j))) 8 (upd (F 8) j p0)) 9 (upd (F 9) j (I1 0))) 3 (upd (F 3) j 5)) j)) := by
  obtain ⟨t, c, h1, h2, hT⟩ := h
  obtain ⟨h3, h4, h5, h6, h7, h8, h9, h10⟩ := id hT
  have hR := h9 j hj
  have e3 : N j 0 = F 3 j := hR.1.1
  have e4 : N j 1 = F 4 j := hR.1.2.1
  refine ⟨?_, fun hk => ⟨e3, ?_⟩⟩
  · have q : (if N j 0 = 1 then (if N j 1 = p0 then 3 else 0) else if sHeld (N j 0) = 0 then 3 else if N j 1 = p0 then 3 else 0 : Nat) = if okR (F 3 j) 1 3 = true then (if F 4 j = p0 then 3 else 0) else 3 := by
      rw [← e3, ← e4]
      rcases hR.st with q | q | q | q | q | q <;> simp [q, okR, sHeld, bI]
    simp only [kDispute, cDispute, q]
  obtain ⟨k0, k1, z⟩ := kDispute_0 hk
  obtain ⟨i1, i2⟩ := hi k0
  have K : RELt t c D mny (updA N j (upd (upd (upd (upd (N j) 6 (N j 0)) 0 5) 7 p0) 8 (D 3))) (updA f j (fun _ => 0)) (updA g j (g j)) rk rf rg rh (upd I1 17 0) (mClear (updA (updA (updA (updA F 10 (upd (F 10) j (F 3 j))) 8 (upd (F 8) j p0)) 9 (upd (F 9) j (I1 0))) 3 (upd (F 3) j 5)) j) := by
    refine RELt.one h3 h4 h5 h6 h7 h8 hT (Nat.le_refl c) ?_ ((((gFr.rf.step 10 (by omega) (F 3 j)).step 8 (by omega) p0).step 9 (by omega) (I1 0)).step 3 (by omega) 5).clear ⟨rfl, rfl, rfl⟩
    refine RN.at5 ⟨(upd_at (F 3) j 5).symm, hR.1.2.1, hR.1.2.2.1, hR.1.2.2.2.1, e3.trans (upd_at (F 10) j (F 3 j)).symm, (upd_at (F 8) j p0).symm, (h3.trans h4.symm).trans (upd_at (F 9) j (I1 0)).symm⟩ rfl ?_ ⟨i, i2, i1⟩ (mClear_at _ j) (fun _ _ => rfl)
    rcases z with z | z
    · exact Or.inl ⟨z, hR.non (Or.inr (Or.inl z))⟩
    · have z0 : N j 0 = 2 ∨ N j 0 = 3 ∨ N j 0 = 4 ∨ (N j 0 = 5 ∧ ¬ N j 6 = 1) := by rcases z with z | z; exact Or.inl z; exact Or.inr (Or.inl z)
      exact Or.inr ⟨z, hR.end_ z0, hR.own z0⟩
  rw [updA_self] at K
  exact K.rel (by omega) (by omega)
theorem kDecide_0 {N : Nat → Int32} {p0 : Int32} (hk : kDecide N p0 = 0) : okI p0 16 = true ∧ N 0 = 5 := by
  simp only [kDecide] at hk
  repeat' (split at hk)
  all_goals first | exact absurd hk (by decide) | exact ⟨by assumption, by assumption⟩
theorem sim_decide (h : REL n D mny N f g rk rf rg rh I1 F) {j : Nat} {p0 p1 : Int32} (hj : j < 16) :
    kDecide (N j) p0 = cDecide F j p0 ∧ (kDecide (N j) p0 = 0 → sThaw (N j) p1 (D 3) 0 = mDecF I1 F j p1 3 j ∧
      REL (n + 1) D mny (updA N j (sThaw (N j) p1 (D 3))) (updA f j (sThawF (N j) (f j))) g rk rf rg rh (upd I1 17 0) (mDecF I1 F j p1)) := by
  obtain ⟨t, c, h1, h2, hT⟩ := h
  obtain ⟨h3, h4, h5, h6, h7, h8, h9, h10⟩ := id hT
  have hR := h9 j hj
  have e3 : N j 0 = F 3 j := hR.1.1
  have e4 : N j 1 = F 4 j := hR.1.2.1
  have e6 : N j 6 = F 10 j := hR.1.2.2.2.2.1
  have e7 : N j 7 = F 8 j := hR.1.2.2.2.2.2.1
  have e8 : N j 8 = F 9 j := hR.1.2.2.2.2.2.2
  refine ⟨by simp only [kDecide, cDecide, e3], fun hk => ?_⟩
  obtain ⟨k0, z⟩ := kDecide_0 hk
  have zz : ¬ N j 0 = 1 := by simp [z]
  have K : RNe (sThaw (N j) p1 (D 3)) (mDecF I1 F j p1) j ∧ RELt t c D mny (updA N j (sThaw (N j) p1 (D 3))) (updA f j (sThawF (N j) (f j))) (updA g j (g j)) rk rf rg rh (upd I1 17 0) (mDecF I1 F j p1) := by
    by_cases q : N j 6 = 1
    · have q1 : F 10 j = 1 := e6.symm.trans q
      have eF : sThawF (N j) (f j) = (fun _ => 0) := by rw [sThawF, if_pos q]
      by_cases b : p1 = 0
      · have eN : sThaw (N j) p1 (D 3) = upd (upd (N j) 0 0) 1 (-1) := by rw [sThaw, if_pos q, if_pos b]
        have eM : mDecF I1 F j p1 = updA F 3 (upd (F 3) j 0) := by rw [mDecF, if_pos q1, if_pos b]
        rw [eN, eM, eF]
        have R : RNe (upd (upd (N j) 0 0) 1 (-1)) (updA F 3 (upd (F 3) j 0)) j := ⟨(upd_at (F 3) j 0).symm, (hR.non (Or.inr (Or.inr ⟨z, q⟩))).symm.trans e4, hR.1.2.2.1, hR.1.2.2.2.1, e6, e7, e8⟩
        exact ⟨R, RELt.one h3 h4 h5 h6 h7 h8 hT (Nat.le_refl c) (RN.at0 R rfl rfl (fun k hk => (hR.am k hk).trans (hR.zero zz k hk)) (fun _ _ => rfl)) (gFr.rf.step 3 (by omega) 0) ⟨rfl, rfl, rfl⟩⟩
      · have eN : sThaw (N j) p1 (D 3) = upd (upd (upd (upd (upd (N j) 0 2) 1 (N j 7)) 3 (D 3 + 100)) 4 0) 5 10 := by rw [sThaw, if_pos q, if_neg b]
        have eM : mDecF I1 F j p1 = mLease (updA F 3 (upd (F 3) j 0)) j (F 8 j) (I1 0) := by rw [mDecF, if_pos q1, if_neg b]
        rw [eN, eM, eF]
        have R : RNe (upd (upd (upd (upd (upd (N j) 0 2) 1 (N j 7)) 3 (D 3 + 100)) 4 0) 5 10) (mLease (updA F 3 (upd (F 3) j 0)) j (F 8 j) (I1 0)) j := ⟨(upd_at (upd (F 3) j 0) j 2).symm, e7.trans (upd_at (F 4) j (F 8 j)).symm, (upd_at (F 6) j 0).symm, (upd_at (F 7) j 10).symm, e6, e7, e8⟩
        refine ⟨R, RELt.one h3 h4 h5 h6 h7 h8 hT (Nat.le_refl c) (RN.at2 R (Or.inl rfl) ?_ (hR.cha z) (fun k hk => (hR.am k hk).trans (hR.zero zz k hk)) (fun _ _ => rfl)) ((gFr.rf.step 3 (by omega) 0).lease _ _) ⟨rfl, rfl, rfl⟩⟩
        exact (show D 3 + 100 = I1 0 + 100 by rw [h3, h4]).trans (upd_at (F 5) j (I1 0 + 100)).symm
    · have q1 : ¬ F 10 j = 1 := fun y => q (e6.trans y)
      have z0 : N j 0 = 2 ∨ N j 0 = 3 ∨ N j 0 = 4 ∨ (N j 0 = 5 ∧ ¬ N j 6 = 1) := Or.inr (Or.inr (Or.inr ⟨z, q⟩))
      have eF : sThawF (N j) (f j) = f j := by rw [sThawF, if_neg q]
      have eN : sThaw (N j) p1 (D 3) = upd (upd (upd (N j) 0 (N j 6)) 3 (N j 3 + (D 3 - N j 8))) 1 (if p1 = 0 then N j 1 else N j 7) := by rw [sThaw, if_neg q]
      have eM : mDecF I1 F j p1 = updA (updA (updA F 3 (upd (F 3) j (F 10 j))) 5 (upd (F 5) j (F 5 j + (I1 0 - F 9 j)))) 4 (upd (F 4) j (if p1 = 0 then F 4 j else F 8 j)) := by rw [mDecF, if_neg q1]
      rw [eN, eM, eF]
      have eO : (if p1 = 0 then N j 1 else N j 7) = (if p1 = 0 then F 4 j else F 8 j) := by rw [e4, e7]
      have R : RNe (upd (upd (upd (N j) 0 (N j 6)) 3 (N j 3 + (D 3 - N j 8))) 1 (if p1 = 0 then N j 1 else N j 7)) (updA (updA (updA F 3 (upd (F 3) j (F 10 j))) 5 (upd (F 5) j (F 5 j + (I1 0 - F 9 j)))) 4 (upd (F 4) j (if p1 = 0 then F 4 j else F 8 j))) j :=
        ⟨e6.trans (upd_at (F 3) j (F 10 j)).symm, eO.trans (upd_at (F 4) j (if p1 = 0 then F 4 j else F 8 j)).symm, hR.1.2.2.1, hR.1.2.2.2.1, e6, e7, e8⟩
      refine ⟨R, RELt.one h3 h4 h5 h6 h7 h8 hT (Nat.le_refl c) (RN.at2 R ?_ ?_ ?_ hR.am (hR.zero zz)) (((gFr.rf.step 3 (by omega) _).step 5 (by omega) _).step 4 (by omega) _) ⟨rfl, rfl, rfl⟩⟩
      · show N j 6 = 2 ∨ N j 6 = 3 ∨ N j 6 = 4
        rcases hR.bef z with y | y | y
        · exact absurd y q
        · exact Or.inl y
        · exact Or.inr (Or.inl y)
      · refine Eq.trans ?_ (upd_at (F 5) j (F 5 j + (I1 0 - F 9 j))).symm
        show N j 3 + (D 3 - N j 8) = F 5 j + (I1 0 - F 9 j)
        rw [hR.end_ z0, h3, h4, e8]
      · show ∃ o : Nat, o < 6 ∧ (if p1 = 0 then N j 1 else N j 7) = nI o
        by_cases b : p1 = 0
        · rw [if_pos b]; exact hR.own z0
        · rw [if_neg b]; exact hR.cha z
  obtain ⟨K1, K2⟩ := K
  rw [updA_self] at K2
  exact ⟨K1.1, K2.rel (by omega) (by omega)⟩
end SIM5
