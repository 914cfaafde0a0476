/-! THE SIMULATION: resolvers; auctions that close; days -/
section SIM6
variable {n : Nat} {D mny : Nat → Int32} {N f g : Nat → Nat → Int32} {rk rf rg rh : Nat → Nat → Int32} {I1 : Nat → Int32} {F : Nat → Nat → Int32}
theorem young_kept {t r j : Nat} {k0 f0 g0 h0 : Nat → Int32} (h : RV t k0 f0 g0 h0 F r j) (hy : ¬ mYoung I1 F (16 * r + j) = 0) : f0 j = F 15 (16 * r + j) := by
  rcases h with ⟨-, h2⟩ | ⟨-, h2, -⟩
  · exact absurd (by rw [mYoung, if_pos h2]) hy
  · exact h2.symm
theorem sim_lookUp (h : REL n D mny N f g rk rf rg rh I1 F) (hn : n < 512) {r j : Nat} (hr : r < 3) (hj : j < 16) :
    sLook (sFresh (rk r) (rg r) (rh r) j (D 3)) (rf r) j (sAns (N j)) j = mLookF I1 F (16 * r + j) j 15 (16 * r + j) ∧
      REL (n + 1) D mny N f g (updA rk r (sLook (sFresh (rk r) (rg r) (rh r) j (D 3)) (rk r) j 1)) (updA rf r (sLook (sFresh (rk r) (rg r) (rh r) j (D 3)) (rf r) j (sAns (N j)))) (updA rg r (sLook (sFresh (rk r) (rg r) (rh r) j (D 3)) (rg r) j (sLife (N j)))) (updA rh r (sLook (sFresh (rk r) (rg r) (rh r) j (D 3)) (rh r) j (D 3))) (upd I1 17 0) (mLookF I1 F (16 * r + j) j) := by
  obtain ⟨t, c, h1, h2, h3, h4, h5, h6, h7, h8, h9, h10⟩ := h
  have hV := h10 r hr j hj
  obtain ⟨ea, el⟩ := sim_ans (h9 j hj)
  have ey : sFresh (rk r) (rg r) (rh r) j (D 3) = mYoung I1 F (16 * r + j) := sim_young (by omega) hV (by rw [h3, h4])
  rw [ey]
  by_cases q : mYoung I1 F (16 * r + j) = 0
  · simp only [sLook, mLookF, if_pos q]
    refine ⟨?_, t, c, by omega, by omega, h3, h4, h5, h6, h7, h8, fun i hi => ?_, fun r2 hr2 j2 hj2 => ?_⟩
    · rw [upd_at]
      show sAns (N j) = upd (F 15) (16 * r + j) (mAns F j) (16 * r + j)
      rw [upd_at, ea]
    · refine (h9 i hi).frame (Nat.le_refl c) (fun k a b => ?_) (fun k hk => rfl) (fun k hk => rfl)
      rw [updA_no (by omega), updA_no (by omega), updA_no (by omega)]
    · show RV t _ _ _ _ (updA (updA (updA F 14 (upd (F 14) (16 * r + j) (I1 0))) 15 (upd (F 15) (16 * r + j) (mAns F j))) 16 (upd (F 16) (16 * r + j) (if mRec F j = 0 then 5 else F 7 j))) r2 j2
      by_cases e1 : r2 = r
      · subst e1
        rw [updA_at, updA_at, updA_at, updA_at]
        by_cases e2 : j2 = j
        · subst e2
          refine Or.inr ⟨upd_at _ _ _, ?_, ?_, ?_, t, Nat.le_refl t, ?_⟩
          · rw [upd_at, ea]; exact upd_at (F 15) _ _
          · rw [upd_at, el]; exact upd_at (F 16) _ _
          · rw [upd_at, h3, ← h4]; exact upd_at (F 14) _ _
          · rw [upd_at, h3]
        · have e3 : ¬ 16 * r2 + j2 = 16 * r2 + j := by omega
          have hW := h10 r2 hr2 j2 hj2
          unfold RV at hW ⊢
          rw [upd_no e2, upd_no e2, upd_no e2, upd_no e2]
          rw [show updA (updA (updA F 14 (upd (F 14) (16 * r2 + j) (I1 0))) 15 (upd (F 15) (16 * r2 + j) (mAns F j))) 16 (upd (F 16) (16 * r2 + j) (if mRec F j = 0 then 5 else F 7 j)) 14 (16 * r2 + j2) = F 14 (16 * r2 + j2) from upd_no e3,
            show updA (updA (updA F 14 (upd (F 14) (16 * r2 + j) (I1 0))) 15 (upd (F 15) (16 * r2 + j) (mAns F j))) 16 (upd (F 16) (16 * r2 + j) (if mRec F j = 0 then 5 else F 7 j)) 15 (16 * r2 + j2) = F 15 (16 * r2 + j2) from upd_no e3,
            show updA (updA (updA F 14 (upd (F 14) (16 * r2 + j) (I1 0))) 15 (upd (F 15) (16 * r2 + j) (mAns F j))) 16 (upd (F 16) (16 * r2 + j) (if mRec F j = 0 then 5 else F 7 j)) 16 (16 * r2 + j2) = F 16 (16 * r2 + j2) from upd_no e3]
          exact hW
      · have e3 : ¬ 16 * r2 + j2 = 16 * r + j := by omega
        have hW := h10 r2 hr2 j2 hj2
        rw [updA_no e1, updA_no e1, updA_no e1, updA_no e1]
        unfold RV at hW ⊢
        rw [show updA (updA (updA F 14 (upd (F 14) (16 * r + j) (I1 0))) 15 (upd (F 15) (16 * r + j) (mAns F j))) 16 (upd (F 16) (16 * r + j) (if mRec F j = 0 then 5 else F 7 j)) 14 (16 * r2 + j2) = F 14 (16 * r2 + j2) from upd_no e3,
          show updA (updA (updA F 14 (upd (F 14) (16 * r + j) (I1 0))) 15 (upd (F 15) (16 * r + j) (mAns F j))) 16 (upd (F 16) (16 * r + j) (if mRec F j = 0 then 5 else F 7 j)) 15 (16 * r2 + j2) = F 15 (16 * r2 + j2) from upd_no e3,
          show updA (updA (updA F 14 (upd (F 14) (16 * r + j) (I1 0))) 15 (upd (F 15) (16 * r + j) (mAns F j))) 16 (upd (F 16) (16 * r + j) (if mRec F j = 0 then 5 else F 7 j)) 16 (16 * r2 + j2) = F 16 (16 * r2 + j2) from upd_no e3]
        exact hW
  · simp only [sLook, mLookF, if_neg q]
    rw [updA_self, updA_self, updA_self, updA_self]
    exact ⟨young_kept hV q, t, c, by omega, by omega, h3, h4, h5, h6, h7, h8, h9, h10⟩
theorem sim_isStale (h : REL n D mny N f g rk rf rg rh I1 F) (hn : n < 512) {r j : Nat} (hr : r < 3) (hj : j < 16) :
    sStale (sFresh (rk r) (rg r) (rh r) j (D 3)) (rf r j) (sAns (N j)) = mStale I1 F r j := by
  obtain ⟨t, c, h1, h2, h3, h4, h5, h6, h7, h8, h9, h10⟩ := h
  have hV := h10 r hr j hj
  obtain ⟨ea, -⟩ := sim_ans (h9 j hj)
  have ey : sFresh (rk r) (rg r) (rh r) j (D 3) = mYoung I1 F (16 * r + j) := sim_young (by omega) hV (by rw [h3, h4])
  rw [ey, sStale, mStale]
  by_cases q : mYoung I1 F (16 * r + j) = 0
  · rw [if_pos q, if_pos q]
  · rw [if_neg q, if_neg q, young_kept hV q, ea]
theorem sim_flush (h : REL n D mny N f g rk rf rg rh I1 F) (hn : n < 512) {r : Nat} (hr : r < 3) :
    sKept (rk r) 16 = mKept (F 14) r 16 ∧ REL (n + 1) D mny N f g (updA rk r (fun _ => 0)) rf rg rh (upd I1 17 0) (updA F 14 (mFls (F 14) r 16)) := by
  obtain ⟨t, c, h1, h2, h3, h4, h5, h6, h7, h8, h9, h10⟩ := h
  refine ⟨sim_kept (by omega) (h10 r hr) 16 (Nat.le_refl 16), t, c, by omega, by omega, h3, h4, h5, h6, h7, h8, fun i hi => ?_, fun r2 hr2 j2 hj2 => ?_⟩
  · refine (h9 i hi).frame (Nat.le_refl c) (fun k a b => ?_) (fun k hk => rfl) (fun k hk => rfl)
    rw [updA_no (by omega)]
  · by_cases e1 : r2 = r
    · subst e1
      refine Or.inl ⟨by rw [updA_at], ?_⟩
      rw [updA_at, mFls, if_pos (by omega)]
    · have hW := h10 r2 hr2 j2 hj2
      unfold RV at hW ⊢
      rw [updA_no e1]
      rw [show updA F 14 (mFls (F 14) r 16) 14 (16 * r2 + j2) = F 14 (16 * r2 + j2) by rw [updA_at, mFls, if_neg (by omega)]]
      exact hW
end SIM6
section BEST
variable {f g mny : Nat → Int32} {out : Int32}
def cand (f mny : Nat → Int32) (out : Int32) (k : Nat) : Prop := ¬ nI k = out ∧ ¬ f k ≤ 0 ∧ ¬ mny k < f k
def bestP (f mny : Nat → Int32) (out : Int32) (n : Nat) (o : Option Nat) : Prop := (o = none → ∀ k, k < n → ¬ cand f mny out k) ∧ (∀ w, o = some w → w < n ∧ cand f mny out w ∧ ∀ k, k < n → cand f mny out k → f k ≤ f w)
theorem bestP.skip {n : Nat} {o : Option Nat} (h : bestP f mny out n o) (hc : ¬ cand f mny out n) : bestP f mny out (n + 1) o := by
  refine ⟨fun e k hk z => ?_, fun w e => ⟨by have := (h.2 w e).1; omega, (h.2 w e).2.1, fun k hk z => ?_⟩⟩
  · by_cases q : k = n
    · subst q; exact hc z
    · exact h.1 e k (by omega) z
  · by_cases q : k = n
    · subst q; exact absurd z hc
    · exact (h.2 w e).2.2 k (by omega) z
theorem bestP.new {n : Nat} (h : bestP f mny out n none) (hc : cand f mny out n) : bestP f mny out (n + 1) (some n) := by
  refine ⟨fun e => (by cases e), fun w e => ?_⟩
  cases e
  refine ⟨by omega, hc, fun k hk z => ?_⟩
  by_cases q : k = n
  · subst q; exact Int32.le_refl _
  · exact absurd z (h.1 rfl k (by omega))
theorem bestP.keep {n b : Nat} (h : bestP f mny out n (some b)) (hl : f n ≤ f b) : bestP f mny out (n + 1) (some b) := by
  refine ⟨fun e => (by cases e), fun w e => ?_⟩
  cases e
  obtain ⟨h1, h2, h3⟩ := h.2 b rfl
  refine ⟨by omega, h2, fun k hk z => ?_⟩
  by_cases q : k = n
  · subst q; exact hl
  · exact h3 k (by omega) z
theorem bestP.take {n b : Nat} (h : bestP f mny out n (some b)) (hc : cand f mny out n) (hl : f b ≤ f n) : bestP f mny out (n + 1) (some n) := by
  refine ⟨fun e => (by cases e), fun w e => ?_⟩
  cases e
  obtain ⟨h1, h2, h3⟩ := h.2 b rfl
  refine ⟨by omega, hc, fun k hk z => ?_⟩
  by_cases q : k = n
  · subst q; exact Int32.le_refl _
  · exact Int32.le_trans (h3 k (by omega) z) hl
theorem sBest_spec : ∀ n, n ≤ 6 → bestP f mny out n (sBest f g mny out n)
  | 0, _ => ⟨fun _ k hk => absurd hk (by omega), fun w h => by cases h⟩
  | n + 1, hn => by
    have hn6 : n < 6 := by omega
    have ih := sBest_spec n (by omega)
    simp only [sBest, sCan_nI mny hn6]
    by_cases q1 : nI n = out
    · rw [if_pos q1]; exact ih.skip (fun z => z.1 q1)
    · rw [if_neg q1]
      by_cases q2 : f n ≤ 0
      · rw [if_pos q2]; exact ih.skip (fun z => z.2.1 q2)
      · rw [if_neg q2]
        by_cases q3 : mny n < f n
        · rw [if_pos (by simp [bI, q3])]; exact ih.skip (fun z => z.2.2 q3)
        · rw [if_neg (by simp [bI, q3])]
          have hc : cand f mny out n := ⟨q1, q2, q3⟩
          cases ho : sBest f g mny out n with
          | none => rw [ho] at ih; exact ih.new hc
          | some b =>
            rw [ho] at ih
            dsimp only
            by_cases q4 : f n = f b
            · by_cases q5 : sAhead f g n b = 0
              · rw [if_pos q5]; exact ih.keep (by rw [q4]; exact Int32.le_refl _)
              · rw [if_neg q5]; exact ih.take hc (by rw [q4]; exact Int32.le_refl _)
            · by_cases q5 : f b < f n
              · rw [if_neg (by simp [sAhead, q4, q5, bI])]; exact ih.take hc (Int32.le_of_lt q5)
              · rw [if_pos (by simp [sAhead, q4, q5, bI])]; exact ih.keep (Int32.not_lt.mp q5)
end BEST
section SIM7
variable {t c n : Nat} {D mny : Nat → Int32} {N f g : Nat → Nat → Int32} {rk rf rg rh : Nat → Nat → Int32} {I1 : Nat → Int32} {F : Nat → Nat → Int32}
theorem sim_price {i w : Nat} (hc : c < 2 ^ 30) (hm : ∀ k, k < 6 → F 2 k = mny k) (hR : RN c (N i) (f i) (g i) F i) (hw : sBest (f i) (g i) mny (-1) 6 = some w) : w < 6 ∧ mPrice F i w = sPrice (f i) (g i) mny w ∧ ¬ mny w < sPrice (f i) (g i) mny w := by
  obtain ⟨hw6, hcw, hmax⟩ := (sBest_spec (f := f i) (g := g i) (mny := mny) (out := -1) 6 (Nat.le_refl 6)).2 w hw
  refine ⟨hw6, ?_, ?_⟩
  · rw [mPrice, sPrice, sim_best hc hm hR (nI w) 6 (Nat.le_refl 6)]
    cases ho : sBest (f i) (g i) mny (nI w) 6 with
    | none => rfl
    | some r =>
      have hr6 := sBest_lt ho
      exact hR.am r hr6
  · rw [sPrice]
    cases ho : sBest (f i) (g i) mny (nI w) 6 with
    | none =>
      dsimp only
      intro z
      rcases hR.bd w hw6 with y | ⟨y, -⟩
      · exact hcw.2.1 (by rw [y]; exact Int32.le_refl _)
      · exact hcw.2.2 (Int32.lt_of_lt_of_le z (Int32.not_lt.mp y))
    | some r =>
      dsimp only
      intro z
      obtain ⟨hr6, hcr, -⟩ := (sBest_spec (f := f i) (g := g i) (mny := mny) (out := nI w) 6 (Nat.le_refl 6)).2 r ho
      exact hcw.2.2 (Int32.lt_of_lt_of_le z (hmax r hr6 ⟨nI_notm1 (by omega), hcr.2.1, hcr.2.2⟩))
theorem sim_close {i : Nat} (hc : c < 2 ^ 30) (hT : RELt t c D mny N f g rk rf rg rh I1 F) (hi : i < 16) (hA : N i 0 = 1) :
    RELt t c (sClD D (f i) (g i) mny) (sClM (f i) (g i) mny) (updA N i (sClN D (N i) (f i) (g i) mny)) (updA f i (fun _ => 0)) g rk rf rg rh (mClI I1 F i) (mClF F i (I1 0)) ∧ sClR (f i) (g i) mny = mClR F i := by
  obtain ⟨h3, h4, h5, h6, h7, h8, h9, h10⟩ := id hT
  have hR := h9 i hi
  have e3 : N i 0 = F 3 i := hR.1.1
  have hb := sim_best hc h8 hR (-1) 6 (Nat.le_refl 6)
  cases ho : sBest (f i) (g i) mny (-1) 6 with
  | none =>
    rw [ho] at hb
    refine ⟨?_, by rw [sClR, mClR, ho, hb]⟩
    have a1 : sClD D (f i) (g i) mny = D := by rw [sClD, ho]
    have a2 : sClM (f i) (g i) mny = mny := by rw [sClM, ho]
    have a3 : sClN D (N i) (f i) (g i) mny = upd (upd (N i) 0 0) 1 (-1) := by rw [sClN, ho]
    have a4 : mClI I1 F i = I1 := by rw [mClI, hb]
    have a5 : mClF F i (I1 0) = mFree F i := by rw [mClF, hb]
    rw [a1, a2, a3, a4, a5]
    have K : RELt t c D mny (updA N i (upd (upd (N i) 0 0) 1 (-1))) (updA f i (fun _ => 0)) (updA g i (g i)) rk rf rg rh I1 (mFree F i) := by
      refine RELt.one h3 h4 h5 h6 h7 h8 hT (Nat.le_refl c) ?_ ((gFr.rf.clear).step 3 (by omega) 0) ⟨rfl, rfl, rfl⟩
      exact RN.at0 ⟨(upd_at (F 3) i 0).symm, (hR.non (Or.inr (Or.inl hA))).symm.trans hR.1.2.1, hR.1.2.2.1, hR.1.2.2.2.1, hR.1.2.2.2.2.1, hR.1.2.2.2.2.2.1, hR.1.2.2.2.2.2.2⟩ rfl rfl (mClear_at F i) (fun _ _ => rfl)
    rw [updA_self] at K
    exact K
  | some w =>
    rw [ho] at hb
    obtain ⟨hw6, ep, hp⟩ := sim_price hc h8 hR ho
    refine ⟨?_, by rw [sClR, mClR, ho, hb]⟩
    obtain ⟨y1, y2⟩ := pay_ok (D := D) hw6 hp
    have a1 : sClD D (f i) (g i) mny = upd D 4 (D 4 + sPrice (f i) (g i) mny w) := by rw [sClD, ho]; exact y1
    have a2 : sClM (f i) (g i) mny = upd mny w (mny w - sPrice (f i) (g i) mny w) := by rw [sClM, ho]; exact y2
    have a3 : sClN D (N i) (f i) (g i) mny = upd (upd (upd (upd (upd (N i) 0 2) 1 (nI w)) 3 (D 3 + 100)) 4 0) 5 10 := by rw [sClN, ho]; dsimp only; rw [y1]; rfl
    have a4 : mClI I1 F i = upd I1 1 (I1 1 + sPrice (f i) (g i) mny w) := by rw [mClI, hb]; dsimp only; rw [ep]
    have a5 : mClF F i (I1 0) = mLease (mPayF (mFree F i) w (sPrice (f i) (g i) mny w)) i (nI w) (I1 0) := by rw [mClF, hb]; dsimp only; rw [ep]
    rw [a1, a2, a3, a4, a5]
    generalize sPrice (f i) (g i) mny w = pr
    have K : RELt t c (upd D 4 (D 4 + pr)) (upd mny w (mny w - pr)) (updA N i (upd (upd (upd (upd (upd (N i) 0 2) 1 (nI w)) 3 (D 3 + 100)) 4 0) 5 10)) (updA f i (fun _ => 0)) (updA g i (g i)) rk rf rg rh (upd I1 1 (I1 1 + pr)) (mLease (mPayF (mFree F i) w pr) i (nI w) (I1 0)) := by
      refine RELt.one h3 h4 ?_ h6 h7 (hm_pay h8 hw6) hT (Nat.le_refl c) ?_ ((((gFr.rf.clear).step 3 (by omega) 0).row2 _).lease _ _) ⟨rfl, rfl, rfl⟩
      · show I1 1 + pr = D 4 + pr
        rw [h5]
      · refine RN.at2 ⟨(upd_at (upd (F 3) i 0) i 2).symm, (upd_at (F 4) i (nI w)).symm, (upd_at (F 6) i 0).symm, (upd_at (F 7) i 10).symm, hR.1.2.2.2.2.1, hR.1.2.2.2.2.2.1, hR.1.2.2.2.2.2.2⟩ (Or.inl rfl) ?_ ⟨w, hw6, rfl⟩ (mClear_at F i) (fun _ _ => rfl)
        exact (show D 3 + 100 = I1 0 + 100 by rw [h3, h4]).trans (upd_at (F 5) i (I1 0 + 100)).symm
    rw [updA_self] at K
    exact K
theorem sim_goOn {i : Nat} (hT : RELt t c D mny N f g rk rf rg rh I1 F) (hi : i < 16) (hA : N i 0 = 2 ∨ N i 0 = 3 ∨ N i 0 = 4) :
    RELt t c D mny (updA N i (sGoOn (N i))) (updA f i (sGoOnF (N i) (f i))) g rk rf rg rh I1 (if F 3 i = 4 then updA (updA F 3 (upd (F 3) i 0)) 4 (upd (F 4) i (-1)) else updA (updA F 3 (upd (F 3) i (F 3 i + 1))) 4 (upd (F 4) i (F 4 i))) := by
  obtain ⟨h3, h4, h5, h6, h7, h8, h9, h10⟩ := id hT
  have hR := h9 i hi
  have e3 : N i 0 = F 3 i := hR.1.1
  have e4 : N i 1 = F 4 i := hR.1.2.1
  have zz : ¬ N i 0 = 1 := by rcases hA with z | z | z <;> simp [z]
  have z0 : N i 0 = 2 ∨ N i 0 = 3 ∨ N i 0 = 4 ∨ (N i 0 = 5 ∧ ¬ N i 6 = 1) := by rcases hA with z | z | z; exact Or.inl z; exact Or.inr (Or.inl z); exact Or.inr (Or.inr (Or.inl z))
  have K : RELt t c D mny (updA N i (sGoOn (N i))) (updA f i (sGoOnF (N i) (f i))) (updA g i (g i)) rk rf rg rh I1 (if F 3 i = 4 then updA (updA F 3 (upd (F 3) i 0)) 4 (upd (F 4) i (-1)) else updA (updA F 3 (upd (F 3) i (F 3 i + 1))) 4 (upd (F 4) i (F 4 i))) := by
    rcases hA with z | z | z
    · have a1 : sGoOn (N i) = upd (N i) 0 3 := by rw [sGoOn, if_pos z]
      have a2 : sGoOnF (N i) (f i) = f i := by rw [sGoOnF, if_pos z]
      have a3 : F 3 i = 2 := e3.symm.trans z
      rw [a1, a2, if_neg (by rw [a3]; decide), a3]
      refine RELt.one h3 h4 h5 h6 h7 h8 hT (Nat.le_refl c) ?_ ((gFr.rf.step 3 (by omega) _).step 4 (by omega) _) ⟨rfl, rfl, rfl⟩
      exact RN.at2 ⟨Eq.trans rfl (upd_at (F 3) i (2 + 1)).symm, e4.trans (upd_at (F 4) i (F 4 i)).symm, hR.1.2.2.1, hR.1.2.2.2.1, hR.1.2.2.2.2.1, hR.1.2.2.2.2.2.1, hR.1.2.2.2.2.2.2⟩ (Or.inr (Or.inl rfl)) (hR.end_ z0) (hR.own z0) hR.am (hR.zero zz)
    · have z2 : ¬ N i 0 = 2 := by rw [z]; decide
      have a1 : sGoOn (N i) = upd (N i) 0 4 := by rw [sGoOn, if_neg z2, if_pos z]
      have a2 : sGoOnF (N i) (f i) = f i := by rw [sGoOnF, if_neg z2, if_pos z]
      have a3 : F 3 i = 3 := e3.symm.trans z
      rw [a1, a2, if_neg (by rw [a3]; decide), a3]
      refine RELt.one h3 h4 h5 h6 h7 h8 hT (Nat.le_refl c) ?_ ((gFr.rf.step 3 (by omega) _).step 4 (by omega) _) ⟨rfl, rfl, rfl⟩
      exact RN.at2 ⟨Eq.trans rfl (upd_at (F 3) i (3 + 1)).symm, e4.trans (upd_at (F 4) i (F 4 i)).symm, hR.1.2.2.1, hR.1.2.2.2.1, hR.1.2.2.2.2.1, hR.1.2.2.2.2.2.1, hR.1.2.2.2.2.2.2⟩ (Or.inr (Or.inr rfl)) (hR.end_ z0) (hR.own z0) hR.am (hR.zero zz)
    · have z2 : ¬ N i 0 = 2 := by rw [z]; decide
      have z3 : ¬ N i 0 = 3 := by rw [z]; decide
      have a1 : sGoOn (N i) = upd (upd (N i) 0 0) 1 (-1) := by rw [sGoOn, if_neg z2, if_neg z3]
      have a2 : sGoOnF (N i) (f i) = (fun _ => 0) := by rw [sGoOnF, if_neg z2, if_neg z3]
      have a3 : F 3 i = 4 := e3.symm.trans z
      rw [a1, a2, if_pos a3]
      refine RELt.one h3 h4 h5 h6 h7 h8 hT (Nat.le_refl c) ?_ ((gFr.rf.step 3 (by omega) _).step 4 (by omega) _) ⟨rfl, rfl, rfl⟩
      exact RN.at0 ⟨(upd_at (F 3) i 0).symm, (upd_at (F 4) i (-1)).symm, hR.1.2.2.1, hR.1.2.2.2.1, hR.1.2.2.2.2.1, hR.1.2.2.2.2.2.1, hR.1.2.2.2.2.2.2⟩ rfl rfl (fun k hk => (hR.am k hk).trans (hR.zero zz k hk)) (fun _ _ => rfl)
  rw [updA_self] at K
  exact K
theorem clR_01 (f g mny : Nat → Int32) : sClR f g mny = 0 ∨ sClR f g mny = 1 := by
  rw [sClR]
  cases sBest f g mny (-1) 6 with
  | none => exact Or.inl rfl
  | some b => exact Or.inr rfl
/-- one name on a day -/
theorem sim_go {i : Nat} (hc : c < 2 ^ 30) (ht : t < 2 ^ 31) (hT : RELt t c D mny N f g rk rf rg rh I1 F) (hi : i < 16) (w : Int32) {D2 m2 : Nat → Int32} {N2 f2 : Nat → Nat → Int32} {w2 : Int32}
    (he : (if sDay (N i) = D 3 then
        (if N i 0 = 1 then (sClD D (f i) (g i) mny, sClM (f i) (g i) mny, updA N i (sClN D (N i) (f i) (g i) mny), updA f i (fun _ => 0), if sClR (f i) (g i) mny = 0 then w else w + 1)
         else (D, mny, updA N i (sGoOn (N i)), updA f i (sGoOnF (N i) (f i)), w))
      else (D, mny, N, f, w) : NS) = (D2, m2, N2, f2, w2)) : RELt t c D2 m2 N2 f2 g rk rf rg rh (mGoI I1 F i) (mGoF I1 F i) ∧ w2 = w + mGoR I1 F i := by
  obtain ⟨h3, h4, h5, h6, h7, h8, h9, h10⟩ := id hT
  have hR := h9 i hi
  have e3 : N i 0 = F 3 i := hR.1.1
  have ed := sim_day hR
  have e30 : D 3 = I1 0 := by rw [h3, h4]
  by_cases q : sDay (N i) = D 3
  · have q2 : mNext F i = I1 0 := by rw [← ed, q, e30]
    rw [if_pos q] at he
    rw [mGoI, mGoF, mGoR, if_pos q2, if_pos q2, if_pos q2]
    by_cases z : N i 0 = 1
    · have z2 : F 3 i = 1 := e3.symm.trans z
      rw [if_pos z] at he
      rw [if_pos z2, if_pos z2, if_pos z2]
      obtain ⟨K, k1⟩ := sim_close hc hT hi z
      obtain ⟨rfl, rfl, rfl, rfl, rfl⟩ : _ = D2 ∧ _ = m2 ∧ _ = N2 ∧ _ = f2 ∧ _ = w2 := by simpa only [Prod.mk.injEq] using he
      refine ⟨K, ?_⟩
      rw [← k1]
      rcases clR_01 (f i) (g i) mny with y | y
      · rw [y, if_pos rfl]; exact (Int32.add_zero w).symm
      · rw [y, if_neg (by decide)]
    · have z2 : ¬ F 3 i = 1 := fun y => z (e3.trans y)
      rw [if_neg z] at he
      rw [if_neg z2, if_neg z2, if_neg z2]
      obtain ⟨rfl, rfl, rfl, rfl, rfl⟩ : _ = D2 ∧ _ = m2 ∧ _ = N2 ∧ _ = f2 ∧ _ = w2 := by simpa only [Prod.mk.injEq] using he
      refine ⟨sim_goOn hT hi ?_, (Int32.add_zero w).symm⟩
      have no : ¬ sDay (N i) = -1 := by rw [q, h3]; exact nI_notm1 ht
      rcases hR.st with y | y | y | y | y | y
      · exact absurd (by simp [sDay, y]) no
      · exact absurd y z
      · exact Or.inl y
      · exact Or.inr (Or.inl y)
      · exact Or.inr (Or.inr y)
      · exact absurd (by simp [sDay, y]) no
  · have q2 : ¬ mNext F i = I1 0 := by rw [← ed, ← e30]; exact q
    rw [if_neg q] at he
    rw [mGoI, mGoF, mGoR, if_neg q2, if_neg q2, if_neg q2]
    obtain ⟨rfl, rfl, rfl, rfl, rfl⟩ : _ = D2 ∧ _ = m2 ∧ _ = N2 ∧ _ = f2 ∧ _ = w2 := by simpa only [Prod.mk.injEq] using he
    exact ⟨hT, (Int32.add_zero w).symm⟩
theorem sim_chg (hc : c < 2 ^ 30) (ht : t < 2 ^ 31) (hT : RELt t c D mny N f g rk rf rg rh I1 F) (w n2 : Int32) : ∀ i, i ≤ 16 → ∀ (D2 m2 : Nat → Int32) (N2 f2 : Nat → Nat → Int32) (w2 : Int32) (I2 : Nat → Int32) (F2 : Nat → Nat → Int32) (n3 : Int32),
    sChg g i (D, mny, N, f, w) = (D2, m2, N2, f2, w2) → mChg i (I1, F, n2) = (I2, F2, n3) → RELt t c D2 m2 N2 f2 g rk rf rg rh I2 F2 ∧ ∃ x : Int32, w2 = w + x ∧ n3 = n2 + x
  | 0, _, D2, m2, N2, f2, w2, I2, F2, n3, h1, h2 => by
    cases h1; cases h2
    exact ⟨hT, 0, (Int32.add_zero w).symm, (Int32.add_zero n2).symm⟩
  | i + 1, hi, D2, m2, N2, f2, w2, I2, F2, n3, h1, h2 => by
    rcases k1 : sChg g i (D, mny, N, f, w) with ⟨D', m', N', f', w'⟩
    rcases k2 : mChg i (I1, F, n2) with ⟨I', F', n'⟩
    obtain ⟨K, x, e1, e2⟩ := sim_chg hc ht hT w n2 i (by omega) D' m' N' f' w' I' F' n' k1 k2
    rw [sChg, k1] at h1
    rw [mChg, k2] at h2
    dsimp only at h1 h2
    obtain ⟨K2, e3⟩ := sim_go hc ht K (show i < 16 by omega) w' h1
    obtain ⟨rfl, rfl, rfl⟩ : _ = I2 ∧ _ = F2 ∧ _ = n3 := by simpa only [Prod.mk.injEq] using h2
    exact ⟨K2, x + mGoR I' F' i, by rw [e3, e1, Int32.add_assoc], by rw [e2, Int32.add_assoc]⟩
theorem RELt.day (h : RELt t c D mny N f g rk rf rg rh I1 F) : RELt (t + 1) c (upd D 3 (D 3 + 1)) mny N f g rk rf rg rh (upd I1 0 (I1 0 + 1)) F := by
  obtain ⟨h3, h4, h5, h6, h7, h8, h9, h10⟩ := h
  refine ⟨by rw [upd_at, h3, nI_1], by rw [upd_at, h4, nI_1], h5, h6, h7, h8, h9, fun r hr j hj => ?_⟩
  rcases h10 r hr j hj with y | ⟨y1, y2, y3, y4, d, hd, y5⟩
  · exact Or.inl y
  · exact Or.inr ⟨y1, y2, y3, y4, d, by omega, y5⟩
theorem sim_days (hc : c < 2 ^ 30) (hT : RELt t c D mny N f g rk rf rg rh I1 F) (k : Nat) : t + k < 2 ^ 31 → ∀ (D2 m2 : Nat → Int32) (N2 f2 : Nat → Nat → Int32) (w2 : Int32) (I2 : Nat → Int32) (F2 : Nat → Nat → Int32) (n3 : Int32),
    sDays g k (D, mny, N, f, 0) = (D2, m2, N2, f2, w2) → mDays k (I1, F, 0) = (I2, F2, n3) → RELt (t + k) c D2 m2 N2 f2 g rk rf rg rh I2 F2 ∧ w2 = n3 := by
  induction k with
  | zero =>
    intro _ D2 m2 N2 f2 w2 I2 F2 n3 h1 h2
    rw [sDays] at h1
    rw [mDays] at h2
    obtain ⟨rfl, rfl, rfl, rfl, rfl⟩ : D = D2 ∧ mny = m2 ∧ N = N2 ∧ f = f2 ∧ 0 = w2 := by simpa only [Prod.mk.injEq] using h1
    obtain ⟨rfl, rfl, rfl⟩ : I1 = I2 ∧ F = F2 ∧ 0 = n3 := by simpa only [Prod.mk.injEq] using h2
    exact ⟨hT, rfl⟩
  | succ k ih =>
    intro ht D2 m2 N2 f2 w2 I2 F2 n3 h1 h2
    generalize k1 : sDays g k (D, mny, N, f, 0) = S at h1
    generalize k2 : mDays k (I1, F, 0) = M at h2
    obtain ⟨D', m', N', f', w'⟩ := S
    obtain ⟨I', F', n'⟩ := M
    obtain ⟨K, e1⟩ := ih (by omega) D' m' N' f' w' I' F' n' k1 k2
    generalize k3 : sChg g 16 (upd D' 3 (D' 3 + 1), m', N', f', 0) = S3
    generalize k4 : mChg 16 (upd I' 0 (I' 0 + 1), F', n') = M3
    obtain ⟨D3, m3, N3, f3, w3⟩ := S3
    obtain ⟨I3, F3, n4⟩ := M3
    rw [sDays_step k1 k3] at h1
    rw [mDays_step k2 k4] at h2
    obtain ⟨K2, x, e2, e3⟩ := sim_chg hc (show t + k + 1 < 2 ^ 31 by omega) K.day 0 n' 16 (Nat.le_refl 16) D3 m3 N3 f3 w3 I3 F3 n4 k3 k4
    obtain ⟨rfl, rfl, rfl, rfl, rfl⟩ : D3 = D2 ∧ m3 = m2 ∧ N3 = N2 ∧ f3 = f2 ∧ w' + w3 = w2 := by simpa only [Prod.mk.injEq] using h1
    obtain ⟨rfl, rfl, rfl⟩ : I3 = I2 ∧ F3 = F2 ∧ n4 = n3 := by simpa only [Prod.mk.injEq] using h2
    exact ⟨K2, by rw [e1, e2, e3, Int32.zero_add]⟩
theorem sim_pass (h : REL n D mny N f g rk rf rg rh I1 F) (hn : n < 512) {p0 : Int32} (hk : kDays p0 = 0) :
    (sDays g p0.toNatClampNeg (D, mny, N, f, 0)).2.2.2.2 = (mDays p0.toNatClampNeg (upd I1 17 0, F, 0)).2.2 ∧
      REL (n + 1) (sDays g p0.toNatClampNeg (D, mny, N, f, 0)).1 (sDays g p0.toNatClampNeg (D, mny, N, f, 0)).2.1 (sDays g p0.toNatClampNeg (D, mny, N, f, 0)).2.2.1 (sDays g p0.toNatClampNeg (D, mny, N, f, 0)).2.2.2.1 g rk rf rg rh (mDays p0.toNatClampNeg (upd I1 17 0, F, 0)).1 (mDays p0.toNatClampNeg (upd I1 17 0, F, 0)).2.1 := by
  obtain ⟨t, c, h1, h2, hT⟩ := h
  have hp : p0.toNatClampNeg ≤ 200 := by
    have q : okR p0 1 200 = true := by
      simp only [kDays] at hk
      split at hk
      · assumption
      · exact absurd hk (by decide)
    obtain ⟨q1, q2⟩ := okR_of q
    obtain ⟨k, k1, k2⟩ := okR_nat q
    subst k2
    rw [nI_clamp k1]
    rcases Nat.lt_or_ge 200 k with z | z
    · exact absurd (show (200 : Int32) < nI k from nI_lt (a := 200) z k1) q2
    · exact z
  generalize p0.toNatClampNeg = m at hp
  have hT2 : RELt t c D mny N f g rk rf rg rh (upd I1 17 0) F := hT
  generalize k1 : sDays g m (D, mny, N, f, 0) = S
  generalize k2 : mDays m (upd I1 17 0, F, 0) = M
  obtain ⟨D', m', N', f', w'⟩ := S
  obtain ⟨I', F', n'⟩ := M
  obtain ⟨K, e1⟩ := sim_days (show c < 2 ^ 30 by omega) hT2 m (by omega) D' m' N' f' w' I' F' n' k1 k2
  exact ⟨e1, K.rel (by omega) (by omega)⟩
end SIM7
