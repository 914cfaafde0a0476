/-! DAYS: what a day makes of the names, and of the money -/
theorem okI_6 : ∀ k, k < 6 → okI (nI k) 6 = true := by decide +kernel
theorem sCan_nI (mny : Nat → Int32) {k : Nat} (hk : k < 6) (x : Int32) : sCan mny (nI k) x = bI (decide (¬ mny k < x)) := by
  simp only [sCan, okI_6 k hk, Bool.true_and]
  rw [nI_clamp (by omega)]
section BEST
variable {f g mny : Nat → Int32} {out : Int32}
def cand (f mny : Nat → Int32) (out : Int32) (k : Nat) : Prop := ¬ nI k = out ∧ ¬ f k ≤ 0 ∧ ¬ mny k < f k
def bestP (f mny : Nat → Int32) (out : Int32) (n : Nat) (o : Option Nat) : Prop := (o = none → ∀ k, k < n → ¬ cand f mny out k) ∧ (∀ w, o = some w → w < n ∧ cand f mny out w ∧ ∀ k, k < n → cand f mny out k → f k ≤ f w)
theorem bestP.skip {n : Nat} {o : Option Nat} (h : bestP f mny out n o) (hc : ¬ cand f mny out n) : bestP f mny out (n + 1) o := by
  refine ⟨fun e k hk z => ?_, fun w e => ⟨by have := (h.2 w e).1; omega, (h.2 w e).2.1, fun k hk z => ?_⟩⟩
  · by_cases q : k = n
    · subst q; exact hc z
    · exact h.1 e k (by omega) z
  · by_cases q : k = n
    · subst q; exact absurd z hc
    · exact (h.2 w e).2.2 k (by omega) z
theorem bestP.new {n : Nat} (h : bestP f mny out n none) (hc : cand f mny out n) : bestP f mny out (n + 1) (some n) := by
  refine ⟨fun e => (by cases e), fun w e => ?_⟩
  cases e
  refine ⟨by omega, hc, fun k hk z => ?_⟩
  by_cases q : k = n
  · subst q; exact Int32.le_refl _
  · exact absurd z (h.1 rfl k (by omega))
theorem bestP.keep {n b : Nat} (h : bestP f mny out n (some b)) (hl : f n ≤ f b) : bestP f mny out (n + 1) (some b) := by
  refine ⟨fun e => (by cases e), fun w e => ?_⟩
  cases e
  obtain ⟨h1, h2, h3⟩ := h.2 b rfl
  refine ⟨by omega, h2, fun k hk z => ?_⟩
  by_cases q : k = n
  · subst q; exact hl
  · exact h3 k (by omega) z
theorem bestP.take {n b : Nat} (h : bestP f mny out n (some b)) (hc : cand f mny out n) (hl : f b ≤ f n) : bestP f mny out (n + 1) (some n) := by
  refine ⟨fun e => (by cases e), fun w e => ?_⟩
  cases e
  obtain ⟨h1, h2, h3⟩ := h.2 b rfl
  refine ⟨by omega, hc, fun k hk z => ?_⟩
  by_cases q : k = n
  · subst q; exact Int32.le_refl _
  · exact Int32.le_trans (h3 k (by omega) z) hl
theorem sBest_spec : ∀ n, n ≤ 6 → bestP f mny out n (sBest f g mny out n)
  | 0, _ => ⟨fun _ k hk => absurd hk (by omega), fun w h => by cases h⟩
  | n + 1, hn => by
    have hn6 : n < 6 := by omega
    have ih := sBest_spec n (by omega)
    simp only [sBest, sCan_nI mny hn6]
    by_cases q1 : nI n = out
    · rw [if_pos q1]; exact ih.skip (fun z => z.1 q1)
    · rw [if_neg q1]
      by_cases q2 : f n ≤ 0
      · rw [if_pos q2]; exact ih.skip (fun z => z.2.1 q2)
      · rw [if_neg q2]
        by_cases q3 : mny n < f n
        · rw [if_pos (by simp [bI, q3])]; exact ih.skip (fun z => z.2.2 q3)
        · rw [if_neg (by simp [bI, q3])]
          have hc : cand f mny out n := ⟨q1, q2, q3⟩
          cases ho : sBest f g mny out n with
          | none => rw [ho] at ih; exact ih.new hc
          | some b =>
            rw [ho] at ih
            dsimp only
            by_cases q4 : f n = f b
            · by_cases q5 : sAhead f g n b = 0
              · rw [if_pos q5]; exact ih.keep (by rw [q4]; exact Int32.le_refl _)
              · rw [if_neg q5]; exact ih.take hc (by rw [q4]; exact Int32.le_refl _)
            · by_cases q5 : f b < f n
              · rw [if_neg (by simp [sAhead, q4, q5, bI])]; exact ih.take hc (Int32.le_of_lt q5)
              · rw [if_pos (by simp [sAhead, q4, q5, bI])]; exact ih.keep (Int32.not_lt.mp q5)
end BEST

/-- the price that the best bid pays -/
theorem price_ok {f g mny : Nat → Int32} {w : Nat} (hB : ∀ k, k < 6 → f k = 0 ∨ ∃ a : Nat, 10 ≤ a ∧ a < 400 ∧ f k = nI a) (hw : sBest f g mny (-1) 6 = some w) : w < 6 ∧ ∃ x : Nat, 10 ≤ x ∧ x < 400 ∧ sPrice f g mny w = nI x ∧ ¬ mny w < nI x := by
  obtain ⟨hw6, hcw, hmax⟩ := (sBest_spec (f := f) (g := g) (mny := mny) (out := -1) 6 (Nat.le_refl 6)).2 w hw
  have am : ∀ k, k < 6 → cand f mny (-1) k → ∃ a : Nat, 10 ≤ a ∧ a < 400 ∧ f k = nI a := by
    intro k hk hc
    rcases hB k hk with e | e
    · exact absurd (by rw [e]; decide) hc.2.1
    · exact e
  obtain ⟨aw, w1, w2, w3⟩ := am w hw6 hcw
  refine ⟨hw6, ?_⟩
  rw [sPrice]
  cases ho : sBest f g mny (nI w) 6 with
  | none =>
    refine ⟨10, by omega, by omega, rfl, fun z => hcw.2.2 (Int32.lt_of_lt_of_le z ?_)⟩
    rw [w3]
    exact nI_le w1 (by omega)
  | some r =>
    obtain ⟨hr6, hcr, -⟩ := (sBest_spec (f := f) (g := g) (mny := mny) (out := nI w) 6 (Nat.le_refl 6)).2 r ho
    have hcr2 : cand f mny (-1) r := ⟨nI_nm1 (by omega), hcr.2.1, hcr.2.2⟩
    obtain ⟨ar, r1, r2, r3⟩ := am r hr6 hcr2
    exact ⟨ar, r1, r2, r3, fun z => hcw.2.2 (Int32.lt_of_lt_of_le z (by rw [← r3]; exact hmax r hr6 hcr2))⟩
/-- one name on the day d1 -/
def STEP (d1 : Nat) (N f N2 f2 : Nat → Int32) (w : Nat) : Prop :=
  (¬ sDay N = nI d1 ∧ N2 = N ∧ f2 = f ∧ w = 0) ∨
  (sDay N = nI d1 ∧ N 0 = 1 ∧ Z6 f2 ∧ ((w = 1 ∧ N2 0 = 2 ∧ (∃ o : Nat, o < 6 ∧ N2 1 = nI o) ∧ N2 3 = nI (d1 + 100) ∧ N2 4 = 0 ∧ N2 5 = 10) ∨ (w = 0 ∧ N2 0 = 0 ∧ N2 1 = -1 ∧ N2 4 = N 4))) ∨
  (sDay N = nI d1 ∧ (∃ s : Nat, 2 ≤ s ∧ s ≤ 4 ∧ N 0 = nI s) ∧ N2 = sGoOn N ∧ f2 = sGoOnF N f ∧ w = 0)
def wsum (wn : Nat → Nat) : Nat → Nat
  | 0 => 0
  | i + 1 => wsum wn i + wn i
theorem wsum_cong {w1 w2 : Nat → Nat} : ∀ {i : Nat}, (∀ j, j < i → w1 j = w2 j) → wsum w1 i = wsum w2 i
  | 0, _ => rfl
  | i + 1, h => by rw [wsum, wsum, wsum_cong (fun j hj => h j (by omega)), h i (by omega)]
/-- the money, its parts named -/
def MO (a p : Nat) (D mny : Nat → Int32) : Prop := D 4 = nI p ∧ ∃ m : Nat → Nat, (∀ k, k < 6 → mny k = nI (m k)) ∧ psum p m 6 = a
theorem MO.pay {a o x p : Nat} {m : Nat → Nat} {D2 mny m2 : Nat → Int32} (h2 : ∀ k, k < 6 → mny k = nI (m k)) (h3 : psum p m 6 = a) (ho : o < 6) (hx : x ≤ m o) (e4 : D2 4 = nI (p + x)) (eo : m2 o = nI (m o - x)) (ek : ∀ k, ¬ k = o → m2 k = mny k) : MO a (p + x) D2 m2 := by
  refine ⟨e4, fun k => if k = o then m o - x else m k, fun k hk => ?_, ?_⟩
  · by_cases hko : k = o
    · subst hko
      show m2 k = nI (if k = k then m k - x else m k)
      rw [if_pos rfl, eo]
    · show m2 k = nI (if k = o then m o - x else m k)
      rw [if_neg hko, ek k hko, h2 k hk]
  · rw [← h3]
    have hall : ∀ i, psum (p + x) (fun k => if k = o then m o - x else m k) i = psum p m i + (if o < i then 0 else x) := by
      intro i
      induction i with
      | zero => simp [psum]
      | succ i ih =>
        rw [psum, psum, ih]
        by_cases hio : i = o
        · subst hio
          rw [if_pos rfl, if_neg (by omega), if_pos (by omega)]
          omega
        · rw [if_neg hio]
          by_cases h : o < i
          · rw [if_pos h, if_pos (by omega)]; omega
          · rw [if_neg h, if_neg (by omega)]; omega
    rw [hall 6, if_pos ho]
    omega
/-- an auction that closes today -/
theorem close_ok {d1 a p : Nat} {D mny N f g : Nat → Int32} (hd : D 3 = nI d1) (hM : MO a p D mny) (ha : a < 2 ^ 30) (hday : sDay N = nI d1) (h0 : N 0 = 1) (hB : ∀ k, k < 6 → f k = 0 ∨ ∃ a : Nat, 10 ≤ a ∧ a < 400 ∧ f k = nI a) :
    ∃ (w p2 : Nat), sClR f g mny = nI w ∧ (w = 0 ∨ w = 1) ∧ sClD D f g mny 3 = nI d1 ∧ MO a p2 (sClD D f g mny) (sClM f g mny) ∧ p + 10 * w ≤ p2 ∧ (w = 0 → p2 = p) ∧ STEP d1 N f (sClN D N f g mny) (fun _ => 0) w := by
  obtain ⟨e4, m, hm, hs⟩ := id hM
  cases ho : sBest f g mny (-1) 6 with
  | none =>
    have a0 : sClR f g mny = 0 := by rw [sClR, ho]
    have a1 : sClD D f g mny = D := by rw [sClD, ho]
    have a2 : sClM f g mny = mny := by rw [sClM, ho]
    have a3 : sClN D N f g mny = upd (upd N 0 0) 1 (-1) := by rw [sClN, ho]
    refine ⟨0, p, a0, Or.inl rfl, by rw [a1, hd], by rw [a1, a2]; exact hM, by omega, fun _ => rfl, ?_⟩
    rw [a3]
    exact Or.inr (Or.inl ⟨hday, h0, fun _ _ => rfl, Or.inr ⟨rfl, rfl, rfl, rfl⟩⟩)
  | some b =>
    obtain ⟨hb6, x, x1, x2, x3, x4⟩ := price_ok hB ho
    have hmb : m b < 2 ^ 31 := by have := psum_le (p := p) (m := m) hb6; omega
    have hpay : x ≤ m b := Nat.not_lt.mp (fun q => x4 (by rw [hm b hb6]; exact nI_lt q (by omega)))
    obtain ⟨y1, y2⟩ := sPay_n (D := D) hb6 (hm b hb6) hmb hpay
    have a0 : sClR f g mny = 1 := by rw [sClR, ho]
    have a1 : sClD D f g mny = upd D 4 (D 4 + nI x) := by rw [sClD, ho]; dsimp only; rw [x3]; exact y1
    have a2 : sClM f g mny = upd mny b (nI (m b - x)) := by rw [sClM, ho]; dsimp only; rw [x3]; exact y2
    have a3 : sClN D N f g mny = upd (upd (upd (upd (upd N 0 2) 1 (nI b)) 3 (D 3 + 100)) 4 0) 5 10 := by rw [sClN, ho]; dsimp only; rw [x3, y1]; rfl
    refine ⟨1, p + x, a0, Or.inr rfl, by rw [a1]; exact hd, ?_, by omega, fun z => absurd z (by omega), ?_⟩
    · rw [a1, a2]
      exact MO.pay hm hs hb6 hpay (by rw [upd_at, e4, nI_add]) (upd_at _ _ _) (fun k hk => upd_no hk)
    · rw [a3]
      exact Or.inr (Or.inl ⟨hday, h0, fun _ _ => rfl, Or.inl ⟨rfl, rfl, ⟨b, hb6, rfl⟩, (congrArg (· + (100 : Int32)) hd).trans (nI_add d1 100), rfl, rfl⟩⟩)
theorem NI.amt {d : Nat} {N f : Nat → Int32} (h : NI d N f) (h0 : N 0 = 1) : ∀ k, k < 6 → f k = 0 ∨ ∃ a : Nat, 10 ≤ a ∧ a < 400 ∧ f k = nI a := (h.at1 h0).2.1.1
theorem NI.due {d d1 : Nat} {N f : Nat → Int32} (h : NI d N f) (hd1 : d1 < 2 ^ 31) (hday : sDay N = nI d1) (h1 : ¬ N 0 = 1) : ∃ s : Nat, 2 ≤ s ∧ s ≤ 4 ∧ N 0 = nI s := by
  obtain ⟨s, hs, e⟩ := h.st
  match s, hs, e with
  | 0, _, e => exact absurd (hday.symm.trans (sDay_0 e)) (nI_nm1 hd1)
  | 1, _, e => exact absurd e h1
  | 2, _, e => exact ⟨2, by omega, by omega, e⟩
  | 3, _, e => exact ⟨3, by omega, by omega, e⟩
  | 4, _, e => exact ⟨4, by omega, by omega, e⟩
  | 5, _, e => exact absurd (hday.symm.trans (sDay_5 e)) (nI_nm1 hd1)
/-- the names, one behind another, on the day d1 -/
theorem chg_ok {d d1 a p : Nat} {D mny : Nat → Int32} {N f g : Nat → Nat → Int32} (hd : D 3 = nI d1) (hd1 : d1 < 2 ^ 31) (hM : MO a p D mny) (ha : a < 2 ^ 30) (hn : ∀ j, j < 16 → NI d (N j) (f j)) : ∀ i, i ≤ 16 →
    ∃ (D2 m2 : Nat → Int32) (N2 f2 : Nat → Nat → Int32) (wn : Nat → Nat) (p2 : Nat), sChg g i (D, mny, N, f, 0) = (D2, m2, N2, f2, nI (wsum wn i)) ∧ D2 3 = nI d1 ∧ MO a p2 D2 m2 ∧ p + 10 * wsum wn i ≤ p2 ∧ (wsum wn i = 0 → p2 = p) ∧
      (∀ j, j < i → STEP d1 (N j) (f j) (N2 j) (f2 j) (wn j)) ∧ (∀ j, i ≤ j → N2 j = N j ∧ f2 j = f j) := by
  intro i
  induction i with
  | zero =>
    intro _
    exact ⟨D, mny, N, f, fun _ => 0, p, rfl, hd, hM, by simp [wsum], fun _ => rfl, fun j hj => absurd hj (by omega), fun j _ => ⟨rfl, rfl⟩⟩
  | succ i ih =>
    intro hi
    obtain ⟨D', m', N', f', wn, p', e1, e2, e3, e4, e5, e6, e7⟩ := ih (by omega)
    obtain ⟨hNi, hfi⟩ := e7 i (Nat.le_refl i)
    have hni := hn i (by omega)
    have hstep : ∀ (w : Nat), wsum (fun k => if k = i then w else wn k) (i + 1) = wsum wn i + w := by
      intro w
      rw [wsum]
      show wsum (fun k => if k = i then w else wn k) i + (if i = i then w else wn i) = _
      rw [if_pos rfl, wsum_cong (w2 := wn) (fun j hj => if_neg (by omega))]
    rw [sChg, e1]
    dsimp only
    by_cases hdue : sDay (N' i) = D' 3
    · rw [if_pos hdue]
      have hdue2 : sDay (N i) = nI d1 := by rw [← hNi, hdue, e2]
      by_cases hau : N' i 0 = 1
      · rw [if_pos hau]
        have hau2 : N i 0 = 1 := by rw [← hNi]; exact hau
        obtain ⟨w, p2, c1, c2, c3, c4, c5, c6, c7⟩ := close_ok (g := g i) e2 e3 ha hdue2 hau2 (hni.amt hau2)
        rw [← hNi, ← hfi] at c7
        rw [← hfi] at c1 c3 c4
        refine ⟨sClD D' (f' i) (g i) m', sClM (f' i) (g i) m', updA N' i (sClN D' (N' i) (f' i) (g i) m'), updA f' i (fun _ => 0), fun k => if k = i then w else wn k, p2, ?_, c3, c4, ?_, ?_, fun j hj => ?_, fun j hj => ?_⟩
        · rw [hstep w, c1]
          rcases c2 with c2 | c2
          · subst c2
            rw [if_pos (show nI 0 = 0 from rfl)]; rfl
          · subst c2
            rw [if_neg (show ¬ nI 1 = 0 by decide)]
            rw [show nI (wsum wn i) + 1 = nI (wsum wn i + 1) from nI_add _ 1]
        · rw [hstep w]; omega
        · rw [hstep w]
          intro z
          rw [c6 (by omega), e5 (by omega)]
        · by_cases hji : j = i
          · subst hji
            rw [updA_at, updA_at]
            show STEP d1 (N j) (f j) _ _ (if j = j then w else wn j)
            rw [if_pos rfl, ← hNi, ← hfi]
            exact c7
          · rw [updA_no hji, updA_no hji]
            show STEP d1 (N j) (f j) _ _ (if j = i then w else wn j)
            rw [if_neg hji]
            exact e6 j (by omega)
        · rw [updA_no (by omega), updA_no (by omega)]
          exact e7 j (by omega)
      · rw [if_neg hau]
        have hau2 : ¬ N i 0 = 1 := by rw [← hNi]; exact hau
        refine ⟨D', m', updA N' i (sGoOn (N' i)), updA f' i (sGoOnF (N' i) (f' i)), fun k => if k = i then 0 else wn k, p', ?_, e2, e3, ?_, ?_, fun j hj => ?_, fun j hj => ?_⟩
        · rw [hstep 0, Nat.add_zero]
        · rw [hstep 0]; omega
        · rw [hstep 0]
          intro z
          exact e5 (by omega)
        · by_cases hji : j = i
          · subst hji
            rw [updA_at, updA_at]
            show STEP d1 (N j) (f j) _ _ (if j = j then 0 else wn j)
            rw [if_pos rfl, hNi, hfi]
            exact Or.inr (Or.inr ⟨hdue2, hni.due hd1 hdue2 hau2, rfl, rfl, rfl⟩)
          · rw [updA_no hji, updA_no hji]
            show STEP d1 (N j) (f j) _ _ (if j = i then 0 else wn j)
            rw [if_neg hji]
            exact e6 j (by omega)
        · rw [updA_no (by omega), updA_no (by omega)]
          exact e7 j (by omega)
    · rw [if_neg hdue]
      refine ⟨D', m', N', f', fun k => if k = i then 0 else wn k, p', ?_, e2, e3, ?_, ?_, fun j hj => ?_, fun j hj => e7 j (by omega)⟩
      · rw [hstep 0, Nat.add_zero]
      · rw [hstep 0]; omega
      · rw [hstep 0]
        intro z
        exact e5 (by omega)
      · by_cases hji : j = i
        · subst hji
          show STEP d1 (N j) (f j) _ _ (if j = j then 0 else wn j)
          rw [if_pos rfl, hNi, hfi]
          exact Or.inl ⟨fun z => hdue (by rw [hNi, z, e2]), rfl, rfl, rfl⟩
        · show STEP d1 (N j) (f j) _ _ (if j = i then 0 else wn j)
          rw [if_neg hji]
          exact e6 j (by omega)
theorem sGoOn_2 {N : Nat → Int32} (h : N 0 = 2) : sGoOn N = upd N 0 3 := by rw [sGoOn, if_pos h]
theorem sGoOn_3 {N : Nat → Int32} (h : N 0 = 3) : sGoOn N = upd N 0 4 := by rw [sGoOn, if_neg (by rw [h]; decide), if_pos h]
theorem sGoOn_4 {N : Nat → Int32} (h : N 0 = 4) : sGoOn N = upd (upd N 0 0) 1 (-1) := by rw [sGoOn, if_neg (by rw [h]; decide), if_neg (by rw [h]; decide)]
/-- what still holds of a name when the day is over -/
theorem STEP.ni {d w : Nat} {N f N2 f2 : Nat → Int32} (hd : d < 2 ^ 30) (h : NI d N f) (hs : STEP (d + 1) N f N2 f2 w) : NI (d + 1) N2 f2 := by
  rcases hs with ⟨hn, rfl, rfl, -⟩ | ⟨-, h0, hz, ⟨-, a0, ⟨o, ho, a1⟩, a3, -, -⟩ | ⟨-, a0, a1, -⟩⟩ | ⟨hday, ⟨s, s2, s4, e⟩, rfl, rfl, -⟩
  · rcases h with ⟨h0, h1, hz⟩ | ⟨h0, h1, hb, e, e1, e2, e3⟩ | ⟨s, e, o, s2, s4, ho, a1, a2, a3, a4, a5, hz⟩ | ⟨q, hq, b1, b2, b3, b4, hz⟩ | ⟨s, e, o, q, z, s2, s3, ho, hq, hne, z1, z2, z3, b1, b2, b3, b4, b5, b6, hz⟩
    · exact NI.mk0 h0 h1 hz
    · refine NI.mk1 h0 h1 hb (e := e) ?_ (by omega) e3
      rcases (show e = d + 1 ∨ d + 1 < e by omega) with q | q
      · exact absurd (by rw [sDay_1 h0, e3, q]) hn
      · exact q
    · refine NI.mkH (e := e) s2 s4 ho ?_ (by omega) a3 a4 a5 hz
      rcases (show e + 10 * s - 20 = d + 1 ∨ d + 1 + 20 < e + 10 * s by omega) with q | q
      · exact absurd (by rw [sDay_H s2 s4 a3 a5, q]) hn
      · exact q
    · exact NI.mkA hq b1 b2 b3 b4 hz
    · exact NI.mkF s2 s3 ho hq hne (by omega) z2 z3 b1 b2 b3 b4 b5 b6 hz
  · exact NI.mkH (s := 2) (e := d + 1 + 100) (by omega) (by omega) ho (by omega) (by omega) a0 a1 a3 hz
  · exact NI.mk0 a0 a1 hz
  · obtain ⟨e9, o, ho, b1, b2, b3, b4, hz⟩ := h.atH e s2 s4
    have he : e9 + 10 * s - 20 = d + 1 := nI_inj (by omega) (by omega) ((sDay_H s2 s4 e b4).symm.trans hday)
    rcases (show s = 2 ∨ s = 3 ∨ s = 4 by omega) with q | q | q
    · subst q
      have e : N 0 = 2 := e
      rw [sGoOn_2 e, sGoOnF, if_pos e]
      exact NI.mkH (s := 3) (e := e9) (by omega) (by omega) ho (by omega) (by omega) rfl b3 b4 hz
    · subst q
      have e : N 0 = 3 := e
      rw [sGoOn_3 e, sGoOnF, if_neg (by rw [e]; decide), if_pos e]
      exact NI.mkH (s := 4) (e := e9) (by omega) (by omega) ho (by omega) (by omega) rfl b3 b4 hz
    · subst q
      have e : N 0 = 4 := e
      rw [sGoOn_4 e, sGoOnF, if_neg (by rw [e]; decide), if_neg (by rw [e]; decide)]
      exact NI.mk0 rfl rfl (fun _ _ => rfl)
theorem goOn_0 {N : Nat → Int32} {s : Nat} (s2 : 2 ≤ s) (s4 : s ≤ 4) (e : N 0 = nI s) : sGoOn N 0 = nI ((s + 1) % 5) := by
  rcases (show s = 2 ∨ s = 3 ∨ s = 4 by omega) with q | q | q
  · subst q; rw [sGoOn_2 e]; rfl
  · subst q; rw [sGoOn_3 e]; rfl
  · subst q; rw [sGoOn_4 e]; rfl
theorem goOn_day {d : Nat} {N f : Nat → Int32} {s : Nat} (hd : d < 2 ^ 30) (h : NI d N f) (hday : sDay N = nI (d + 1)) (s2 : 2 ≤ s) (s4 : s ≤ 4) (e : N 0 = nI s) : sDay (sGoOn N) = if s = 4 then -1 else nI ((d + 1) + 10) := by
  obtain ⟨e9, o, ho, b1, b2, b3, b4, hz⟩ := h.atH e s2 s4
  have he : e9 + 10 * s - 20 = d + 1 := nI_inj (by omega) (by omega) ((sDay_H s2 s4 e b4).symm.trans hday)
  rcases (show s = 2 ∨ s = 3 ∨ s = 4 by omega) with q | q | q
  · subst q
    rw [sGoOn_2 e, if_neg (by omega), sDay_H (N := upd N 0 3) (s := 3) (e := e9) (by omega) (by omega) rfl b4, show e9 + 10 * 3 - 20 = d + 1 + 10 by omega]
  · subst q
    rw [sGoOn_3 e, if_neg (by omega), sDay_H (N := upd N 0 4) (s := 4) (e := e9) (by omega) (by omega) rfl b4, show e9 + 10 * 4 - 20 = d + 1 + 10 by omega]
  · subst q
    rw [sGoOn_4 e, if_pos rfl, sDay_0 rfl]
abbrev t3 (t : Nat → Int32) (j : Nat) (N : Nat → Int32) : Nat → Int32 := upd (upd (upd t j (N 0)) (16 + j) (N 1)) (32 + j) (sDay N)
/-- the law's rows, where they don't speak of j -/
theorem LI.frame {t c t2 c2 : Nat → Int32} {k : Nat} {N : Nat → Int32} (h : LI t c k N) (ht : t2 k = t k ∧ t2 (16 + k) = t (16 + k) ∧ t2 (32 + k) = t (32 + k) ∧ c2 k = c k ∧ c2 (16 + k) = c (16 + k) ∧ c2 (32 + k) = c (32 + k)) : LI t2 c2 k N := by
  obtain ⟨a1, a2, a3, a4, a5, a6⟩ := ht
  obtain ⟨b2, b3, b4, b5, b6, b7⟩ := h
  refine ⟨a1.trans b2, a2.trans b3, a3.trans b4, fun z => ?_, fun z => ?_, b7⟩
  · rw [a4, a5]; exact b5 z
  · rw [a6]; exact b6 z
/-- .. behind one name of a day: an auction that closed, or another one -/
theorem STEP.li {d1 w j : Nat} {N f N2 f2 t c : Nat → Int32} (hd1 : d1 < 2 ^ 31) (hj : j < 16) (h : LI t c j N) (hs : STEP d1 N f N2 f2 w) (hno : ¬ (sDay N = nI d1 ∧ N 0 = 1)) : LI (t3 t j N2) c j N2 := by
  obtain ⟨b2, b3, b4, b5, b6, b7⟩ := h
  rcases hs with ⟨hn, rfl, rfl, -⟩ | ⟨hd, h0, -⟩ | ⟨hday, ⟨s, s2, s4, e⟩, rfl, rfl, -⟩
  · exact LI_sees hj b5 b6 b7
  · exact absurd ⟨hd, h0⟩ hno
  · rcases (show s = 2 ∨ s = 3 ∨ s = 4 by omega) with q | q | q
    · subst q
      have e : N 0 = 2 := e
      rw [sGoOn_2 e]
      refine LI_sees hj (fun _ => b5 (by rw [sRec_2 e]; decide)) (fun z => ?_) b7
      exact absurd (show (3 : Int32) = 5 from z) (by decide)
    · subst q
      have e : N 0 = 3 := e
      rw [sGoOn_3 e]
      refine LI_sees hj (fun z => ?_) (fun z => ?_) b7
      · exact absurd (sRec_0 (s := 4) (by omega) rfl (by omega)) z
      · exact absurd (show (4 : Int32) = 5 from z) (by decide)
    · subst q
      have e : N 0 = 4 := e
      rw [sGoOn_4 e]
      refine LI_sees hj (fun z => ?_) (fun z => ?_) b7
      · exact absurd (sRec_0 (s := 0) (by omega) rfl (by omega)) z
      · exact absurd (show (0 : Int32) = 5 from z) (by decide)
theorem STEP.liA {d1 w j : Nat} {N f N2 f2 t c : Nat → Int32} (hj : j < 16) (h : LI t c j N) (hs : STEP d1 N f N2 f2 w) (hday : sDay N = nI d1) (h0 : N 0 = 1) : LI (t3 t j N2) (upd (upd c j 0) (16 + j) 10) j N2 := by
  obtain ⟨b2, b3, b4, b5, b6, b7⟩ := h
  rcases hs with ⟨hn, -⟩ | ⟨-, -, -, ⟨-, a0, -, -, a4, a5⟩ | ⟨-, a0, -, a4⟩⟩ | ⟨-, ⟨s, s2, s4, e⟩, -⟩
  · exact absurd hday hn
  · refine LI_sees hj (fun _ => ⟨?_, ?_⟩) (fun z => ?_) ⟨0, by omega, a4⟩
    · rw [upd_no (by omega), upd_at, a4]
    · rw [upd_at, a5]
    · exact absurd (a0.symm.trans z) (by decide)
  · refine LI_sees hj (fun z => ?_) (fun z => ?_) (by rw [a4]; exact b7)
    · exact absurd (sRec_0 (s := 0) (by omega) a0 (by omega)) z
    · exact absurd (a0.symm.trans z) (by decide)
  · have := nI_inj (a := s) (b := 1) (by omega) (by omega) (e.symm.trans h0)
    omega
/-- how far the law's rows have come on a day -/
def DAYL (i : Nat) (N N2 : Nat → Nat → Int32) (t c : Nat → Int32) : Prop := ∀ j, j < 16 → (j < i → LI t c j (N2 j)) ∧ (¬ j < i → LI t c j (N j))
theorem DAYL.step {i : Nat} {N N2 : Nat → Nat → Int32} {t c c2 : Nat → Int32} (h : DAYL i N N2 t c) (hi : i < 16) (hc : ∀ k, k < 16 → ¬ k = i → c2 k = c k ∧ c2 (16 + k) = c (16 + k) ∧ c2 (32 + k) = c (32 + k)) (hl : LI (t3 t i (N2 i)) c2 i (N2 i)) : DAYL (i + 1) N N2 (t3 t i (N2 i)) c2 := by
  intro j hj
  by_cases hji : j = i
  · subst hji
    exact ⟨fun _ => hl, fun z => absurd (Nat.lt_succ_self j) z⟩
  · have fr : t3 t i (N2 i) j = t j ∧ t3 t i (N2 i) (16 + j) = t (16 + j) ∧ t3 t i (N2 i) (32 + j) = t (32 + j) ∧ c2 j = c j ∧ c2 (16 + j) = c (16 + j) ∧ c2 (32 + j) = c (32 + j) := by
      refine ⟨?_, ?_, ?_, hc j hj hji⟩
      · rw [t3, upd_no (by omega), upd_no (by omega), upd_no (by omega)]
      · rw [t3, upd_no (by omega), upd_no (by omega), upd_no (by omega)]
      · rw [t3, upd_no (by omega), upd_no (by omega), upd_no (by omega)]
    exact ⟨fun z => ((h j hj).1 (by omega)).frame fr, fun z => ((h j hj).2 (by omega)).frame fr⟩
theorem INV.day {d a p2 : Nat} {D mny D2 m2 : Nat → Int32} {N f N2 f2 : Nat → Nat → Int32} {rk rf rg rh : Nat → Nat → Int32} {t c F G t2 c2 G2 : Nat → Int32} {wn : Nat → Nat} (h : INV d a D mny N f rk rf rg rh t c F G) (hd : d < 2 ^ 30) (hD : D2 3 = nI (d + 1)) (hM : MO a p2 D2 m2) (hs : ∀ j, j < 16 → STEP (d + 1) (N j) (f j) (N2 j) (f2 j) (wn j)) (hL : DAYL 16 N N2 t2 c2) (g0 : G2 0 = nI (d + 1)) (g1 : G2 1 = G 1) (g2 : G2 2 = G 2) :
    INV (d + 1) a D2 m2 N2 f2 rk rf rg rh t2 c2 F G2 := by
  obtain ⟨i1, i2, i3, i4, i5, i6, i7⟩ := h
  obtain ⟨m4, m, hm, hsum⟩ := hM
  refine ⟨hD, g0, ⟨m, p2, m4, hm, hsum⟩, g1.trans i4, fun j hj => ⟨STEP.ni hd (i5 j hj).1 (hs j hj), (hL j hj).1 hj⟩, fun j hj => ?_, g2.trans i7⟩
  rcases i6 j hj with q | ⟨q1, q2, q3, z, q4, q5, q6⟩
  · exact Or.inl q
  · exact Or.inr ⟨q1, q2, q3, z, by omega, q5, q6⟩
