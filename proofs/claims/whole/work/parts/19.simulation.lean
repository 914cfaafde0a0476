/-! THE SIMULATION, call by call -/
section SIM
variable {n : Nat} {D mny : Nat → Int32} {N f g : Nat → Nat → Int32} {rk rf rg rh : Nat → Nat → Int32} {I1 : Nat → Int32} {F : Nat → Nat → Int32}
/-- a call that changes nothing but 'thrown' -/
theorem REL.idle (h : REL n D mny N f g rk rf rg rh I1 F) (x : Int32) : REL (n + 1) D mny N f g rk rf rg rh (upd I1 17 x) F := by
  obtain ⟨t, c, h1, h2, h3, h4, h5, h6, h7, h8, h9, h10⟩ := h
  exact ⟨t, c, by omega, by omega, h3, h4, h5, h6, h7, h8, h9, h10⟩
theorem sim_deposit (h : REL n D mny N f g rk rf rg rh I1 F) {i : Nat} (hi : i < 6) (x : Int32) : F 2 i = mny i ∧ REL (n + 1) D (upd mny i (mny i + x)) N f g rk rf rg rh (upd I1 17 0) (updA F 2 (upd (F 2) i (F 2 i + x))) := by
  obtain ⟨t, c, h1, h2, h3, h4, h5, h6, h7, h8, h9, h10⟩ := h
  refine ⟨h8 i hi, t, c, by omega, by omega, h3, h4, h5, h6, h7, fun k hk => ?_, h9, h10⟩
  show upd (F 2) i (F 2 i + x) k = upd mny i (mny i + x) k
  rw [h8 i hi]
  by_cases hk2 : k = i
  · simp only [upd]; rw [if_pos hk2, if_pos hk2]
  · simp only [upd]; rw [if_neg hk2, if_neg hk2, h8 k hk]
theorem sim_cnt {f1 f2 : Nat → Int32} {j : Nat} (h : ∀ k, k < 6 → f2 (6 * j + k) = f1 k) : ∀ i, i ≤ 6 → mCnt f2 j i = sCnt f1 i
  | 0, _ => rfl
  | i + 1, hi => by rw [mCnt, sCnt, sim_cnt h i (by omega), h i (by omega)]
end SIM
section SIM2
variable {n : Nat} {D mny : Nat → Int32} {N f g : Nat → Nat → Int32} {rk rf rg rh : Nat → Nat → Int32} {I1 : Nat → Int32} {F : Nat → Nat → Int32}
theorem sim_day {c : Nat} {N0 f0 g0 : Nat → Int32} {i : Nat} (h : RN c N0 f0 g0 F i) : sDay N0 = mNext F i := by
  obtain ⟨⟨e0, e1, -⟩, ⟨s, hs, es⟩, h1, h2, -⟩ := h
  simp only [sDay, mNext, ← e0]
  match s, hs, es with
  | 0, _, es => rw [es]; rfl
  | 1, _, es => rw [h1 es, es]; show _ = F 5 i + 0; exact (Int32.add_zero _).symm
  | 2, _, es => rw [h2 (Or.inl es), es]; show _ = F 5 i + 0; exact (Int32.add_zero _).symm
  | 3, _, es => rw [h2 (Or.inr (Or.inl es)), es]; rfl
  | 4, _, es => rw [h2 (Or.inr (Or.inr (Or.inl es))), es]; show F 5 i + 10 + 10 = F 5 i + 20; rw [Int32.add_assoc]; rfl
  | 5, _, es => rw [es]; rfl
theorem sim_ans {c : Nat} {N0 f0 g0 : Nat → Int32} {i : Nat} (h : RN c N0 f0 g0 F i) : sAns N0 = mAns F i ∧ sLife N0 = (if mRec F i = 0 then 5 else F 7 i) := by
  obtain ⟨⟨e0, e1, e4, e5, e6, -⟩, ⟨s, hs, es⟩, -, -, h3, -⟩ := h
  have er : sRec N0 = mRec F i := by
    simp only [sRec, mRec, sHeld, ← e0, ← e6]
    match s, hs, es with
    | 0, _, es => rw [es]; rfl
    | 1, _, es => rw [es]; rfl
    | 2, _, es => rw [es]; rfl
    | 3, _, es => rw [es]; rfl
    | 4, _, es => rw [es]; rfl
    | 5, _, es =>
      rcases h3 es with e | e | e <;> (rw [es, e]; rfl)
  exact ⟨by simp only [sAns, mAns, er, e4], by simp only [sLife, er, e5]⟩
end SIM2
section SIM3
variable {n : Nat} {D mny : Nat → Int32} {N f g : Nat → Nat → Int32} {rk rf rg rh : Nat → Nat → Int32} {I1 : Nat → Int32} {F : Nat → Nat → Int32}
theorem nI_notm1 {d : Nat} (h : d < 2 ^ 31) : ¬ nI d = -1 := by
  intro e
  have h1 := nI_toInt h
  rw [e] at h1
  have h2 : ((-1 : Int32)).toInt = -1 := rfl
  omega
theorem sim_young {t r j : Nat} {k0 f0 g0 h0 : Nat → Int32} {x : Int32} (ht : t < 2 ^ 31) (h : RV t k0 f0 g0 h0 F r j) (hx : I1 0 = x) : sFresh k0 g0 h0 j x = mYoung I1 F (16 * r + j) := by
  rcases h with ⟨h1, h2⟩ | ⟨h1, h2, h3, h4, d, hd, h5⟩
  · simp [sFresh, mYoung, h1, h2, bI]
  · have h6 : ¬ F 14 (16 * r + j) = -1 := by rw [h4, h5]; exact nI_notm1 (by omega)
    simp only [mYoung]
    rw [if_neg h6, h3, h4, hx]
    by_cases q : g0 j ≤ x - h0 j
    · rw [if_pos q]
      have q2 : ¬ x - h0 j < g0 j := Int32.not_lt.mpr q
      simp [sFresh, bI, q2]
    · rw [if_neg q]
      have q2 : x - h0 j < g0 j := Int32.not_le.mp q
      simp [sFresh, bI, h1, q2]
theorem sim_kept {t r : Nat} {k0 f0 g0 h0 : Nat → Int32} (ht : t < 2 ^ 31) (h : ∀ j, j < 16 → RV t k0 f0 g0 h0 F r j) : ∀ i, i ≤ 16 → sKept k0 i = mKept (F 14) r i
  | 0, _ => rfl
  | i + 1, hi => by
    rw [sKept, mKept, sim_kept ht h i (by omega)]
    rcases h i (by omega) with ⟨h1, h2⟩ | ⟨h1, h2, h3, h4, d, hd, h5⟩
    · rw [h1, h2]; rfl
    · rw [h1, h4, h5, if_neg (nI_notm1 (by omega)), if_neg (by decide)]
end SIM3
section SIM4
variable {mny : Nat → Int32} {F : Nat → Nat → Int32}
theorem okI_6 : ∀ k, k < 6 → okI (nI k) 6 = true := by decide +kernel
theorem sCan_nI (mny : Nat → Int32) {k : Nat} (hk : k < 6) (x : Int32) : sCan mny (nI k) x = bI (decide (¬ mny k < x)) := by
  simp only [sCan, okI_6 k hk, Bool.true_and]
  rw [nI_clamp (by omega)]
theorem sBest_pos {f g mny : Nat → Int32} {out : Int32} : ∀ {n b : Nat}, sBest f g mny out n = some b → 0 < f b
  | 0, b, h => by cases h
  | n + 1, b, h => by
    simp only [sBest] at h
    split at h
    · exact sBest_pos h
    · split at h
      · exact sBest_pos h
      · rename_i q0
        split at h
        · exact sBest_pos h
        · split at h
          · cases h; exact Int32.not_le.mp q0
          · rename_i q
            split at h
            · cases h; exact sBest_pos q
            · cases h; exact Int32.not_le.mp q0
theorem sim_best {c i : Nat} {N0 f0 g0 : Nat → Int32} (hc : c < 2 ^ 30) (hm : ∀ k, k < 6 → F 2 k = mny k) (h : RN c N0 f0 g0 F i) (out : Int32) : ∀ n, n ≤ 6 → mBest F i out n = sBest f0 g0 mny out n
  | 0, _ => rfl
  | k + 1, hk => by
    have hk6 : k < 6 := by omega
    have ih := sim_best hc hm h out k (by omega)
    obtain ⟨-, -, -, -, -, -, -, -, ha, -, hb⟩ := h
    simp only [mBest, sBest, ih, ha k hk6, hm k hk6, sCan_nI mny hk6]
    by_cases q1 : nI k = out
    · rw [if_pos q1, if_pos q1]
    · rw [if_neg q1, if_neg q1]
      by_cases q2 : f0 k ≤ 0
      · rw [if_pos q2, if_pos q2]
      · rw [if_neg q2, if_neg q2]
        by_cases q3 : mny k < f0 k
        · rw [if_pos q3, if_pos (by simp [bI, q3])]
        · rw [if_neg q3, if_neg (by simp [bI, q3])]
          cases ho : sBest f0 g0 mny out k with
          | none => rfl
          | some b =>
            have hb6 : b < 6 := by have := sBest_lt ho; omega
            have pb := sBest_pos ho
            dsimp only
            rw [ha b hb6]
            by_cases q4 : f0 b < f0 k
            · have q5 : ¬ f0 k = f0 b := fun e => by rw [e] at q4; exact Int32.lt_irrefl q4
              rw [if_pos q4, if_neg (by simp [sAhead, q5, q4, bI])]
            · rw [if_neg q4]
              by_cases q5 : f0 k = f0 b
              · rw [if_pos q5]
                have z : ∀ x : Int32, 0 < x → ¬ x = 0 := fun x hx e => by rw [e] at hx; exact Int32.lt_irrefl hx
                rcases hb k hk6 with e | ⟨-, -, dk, hdk, ek1, ek2⟩
                · exact absurd e (z _ (Int32.not_le.mp q2))
                · rcases hb b hb6 with e | ⟨-, -, db, hdb, eb1, eb2⟩
                  · exact absurd e (z _ pb)
                  · rw [ek1, eb1]
                    simp only [sAhead, if_pos q5, ek2, eb2]
                    by_cases q6 : db ≤ dk
                    · rw [if_pos (nI_le q6 (by omega)), if_pos (by simp [bI, nI_nlt (show db + 1 ≤ dk + 1 by omega) (by omega)])]
                    · rw [if_neg (nI_ge (show dk < db by omega) (by omega)), if_neg (by simp [bI, nI_lt (show dk + 1 < db + 1 by omega) (by omega)])]
              · rw [if_neg q5, if_pos (by simp [sAhead, q5, q4, bI])]
end SIM4
