/-! what is read is a land -/
theorem bnd_inv {α β : Type} {x : Rs α} {f : α → Rs β} {b : β} (h : bnd x f = .inr b) : ∃ a, x = .inr a ∧ f a = .inr b := by
  cases x with
  | inl e => cases h
  | inr a => exact ⟨a, rfl, h⟩
section U1
variable {p : Nat → Nat} {n : Nat}
theorem tWd_2 {w : List Nat} {s s' : PS} (h : tWd p n w s = .inr s') : s' = ad p n s ∧ tW s = w := by
  unfold tWd at h
  split at h
  · rename_i e
    cases h; exact ⟨rfl, e⟩
  · cases h
theorem tWh_2 {lo hi : Nat} {s : PS} {r : Nat × PS} (h : tWh p n lo hi s = .inr r) : r.2 = ad p n s ∧ lo ≤ r.1 ∧ r.1 ≤ hi ∧ tK s = 2 := by
  unfold tWh at h
  split at h
  · rename_i e
    split at h
    · rename_i e2
      cases h; exact ⟨rfl, e2.1, e2.2, e⟩
    · cases h
  · cases h
theorem one_2 {ws : Nat → List Nat} {c : Nat} {s : PS} {r : Nat × PS} (h : one p n ws c s = .inr r) : r.2 = ad p n s ∧ r.1 < c ∧ tW s = ws r.1 := by
  unfold one at h
  split at h
  · rename_i i e
    cases h
    have := fst1_i e
    exact ⟨rfl, this.1, of_decide_eq_true this.2.1⟩
  · cases h
theorem tld_2 {so g : Nat} {s : PS} (h : tld so s = .inr g) : isNm s = true ∧ ∃ i, i < (pM s).1 ∧ ((pM s).2 i).2.1 = so ∧ g = ((pM s).2 i).2.2 := by
  unfold tld at h
  split at h
  · rename_i e
    split at h
    · rename_i i e2
      split at h
      · rename_i e3
        cases h
        exact ⟨e, i, (fst1_i e2).1, e3, rfl⟩
      · cases h
    · cases h
  · cases h
theorem tlA_2 {so : Nat} {s : PS} {r : Nat × PS} (h : tlA p n so s = .inr r) : r.2 = ad p n s ∧ tld so s = .inr r.1 := by
  obtain ⟨g, h1, h2⟩ := bnd_inv h
  cases h2
  exact ⟨rfl, h1⟩
theorem nmd_2 {so nu : Nat} {s s' : PS} (h : nmd p n so nu s = .inr s') : s' = (adv p n (tE s), pL s, nAdd (pM s) (tW s) so nu) ∧ isNm s = true := by
  unfold nmd at h
  split at h
  · rename_i e
    split at h
    · cases h
    · cases h; exact ⟨rfl, e⟩
  · cases h
theorem isNm_k {s : PS} (h : isNm s = true) : tK s = 1 := by
  unfold isNm at h
  simp only [Bool.and_eq_true, decide_eq_true_eq] at h
  exact h.2
end U1
def NI (a : Ld) (m : Nm) : Prop := m.1 = nGr a + nTh a + nHo a + nOf a ∧ (∀ i, i < m.1 → ((m.2 i).2.1 = 0 → (m.2 i).2.2 < nGr a) ∧ ((m.2 i).2.1 = 1 → (m.2 i).2.2 < nTh a))
def LdP (a : Ld) : Prop :=
  (nMo a = 0 ∨ (2 ≤ nMo a ∧ nMo a ≤ 12)) ∧ CnB a ∧
  (∀ t, t < nTh a → tG a t < nGr a ∧ (10 ≤ a.2.1 t 1 ∧ a.2.1 t 1 ≤ 999) ∧ (10 ≤ a.2.1 t 2 ∧ a.2.1 t 2 ≤ 200) ∧ (1 ≤ a.2.1 t 3 ∧ a.2.1 t 3 ≤ 999)) ∧
  (∀ k, k < nCh a → cT a k < nTh a ∧ (1 ≤ cM a k ∧ cM a k ≤ 11) ∧ cH a k ≤ 6 ∧ (cH a k ≤ 4 → 1 ≤ cB a k ∧ cB a k ≤ 999)) ∧
  (∀ h, h < nHo a → hN a h ≤ 99 ∧ hP a h ≤ 999 ∧ ∀ g, g < 4 → hW a h g ≤ 99) ∧
  (∀ o, o < nOf a → oM a o ≤ 2 ∧ oS a o ≤ 1 ∧ oB a o ≤ 1)
def LI (s : PS) : Prop := LdP (pL s) ∧ NI (pL s) (pM s)
theorem NI.add {a a' : Ld} {m : Nm} {w : List Nat} {so nu : Nat} (h : NI a m) (h1 : nGr a ≤ nGr a') (h2 : nTh a ≤ nTh a') (h3 : nGr a' + nTh a' + nHo a' + nOf a' = nGr a + nTh a + nHo a + nOf a + 1) (h4 : so = 0 → nu < nGr a') (h5 : so = 1 → nu < nTh a') : NI a' (nAdd m w so nu) := by
  have e := h.1
  refine ⟨by show m.1 + 1 = _; omega, fun i hi => ?_⟩
  have hi : i < m.1 + 1 := hi
  show ((if i = m.1 then (w, so, nu) else m.2 i).2.1 = 0 → (if i = m.1 then (w, so, nu) else m.2 i).2.2 < nGr a') ∧ ((if i = m.1 then (w, so, nu) else m.2 i).2.1 = 1 → (if i = m.1 then (w, so, nu) else m.2 i).2.2 < nTh a')
  by_cases e1 : i = m.1
  · rw [if_pos e1]; exact ⟨h4, h5⟩
  · rw [if_neg e1]
    have q := h.2 i (by omega)
    exact ⟨fun e => Nat.lt_of_lt_of_le (q.1 e) h1, fun e => Nat.lt_of_lt_of_le (q.2 e) h2⟩
theorem nAdd_0 {a : Ld} {m : Nm} {w : List Nat} {so nu i : Nat} (h : NI a m) (hs : so ≠ 0) (hi : i < (nAdd m w so nu).1) (h0 : ((nAdd m w so nu).2 i).2.1 = 0) : ((nAdd m w so nu).2 i).2.2 < nGr a := by
  have hi : i < m.1 + 1 := hi
  have h0 : (if i = m.1 then (w, so, nu) else m.2 i).2.1 = 0 := h0
  show (if i = m.1 then (w, so, nu) else m.2 i).2.2 < nGr a
  by_cases e1 : i = m.1
  · rw [if_pos e1] at h0; exact absurd h0 hs
  · rw [if_neg e1] at h0 ⊢
    exact (h.2 i (by omega)).1 h0
section U2
variable {p : Nat → Nat} {n : Nat} {s s' : PS}
theorem rMo_I (hI : LI s) (h : rMo p n s = .inr s') : LI s' := by
  unfold rMo at h
  split at h
  · cases h
  obtain ⟨v, h1, h2⟩ := bnd_inv h
  obtain ⟨e, l1, l2, -⟩ := tWh_2 h1
  cases h2
  rw [e]
  obtain ⟨⟨a1, a2, a3, a4, a5, a6⟩, b⟩ := hI
  exact ⟨⟨Or.inr ⟨l1, l2⟩, ⟨l2, a2.2⟩, a3, a4, a5, a6⟩, b⟩
theorem rGr_I (hI : LI s) (h : rGr p n s = .inr s') : LI s' := by
  unfold rGr at h
  split at h
  · cases h
  rename_i hc
  obtain ⟨v, h1, h2⟩ := bnd_inv h
  obtain ⟨e, -⟩ := nmd_2 h1
  cases h2
  rw [e]
  obtain ⟨⟨a1, a2, a3, a4, a5, a6⟩, b⟩ := hI
  obtain ⟨c1, c2, c3, c4, c5, c6⟩ := a2
  refine ⟨⟨a1, ⟨c1, ?_, c3, c4, c5, c6⟩, fun t ht => ⟨Nat.lt_succ_of_lt (a3 t ht).1, (a3 t ht).2⟩, a4, a5, a6⟩, NI.add b ?_ (Nat.le_refl _) ?_ (fun _ => ?_) (fun e => by cases e)⟩
  · show nGr (pL s) + 1 ≤ 4
    omega
  · show nGr (pL s) ≤ nGr (pL s) + 1
    omega
  · show nGr (pL s) + 1 + nTh (pL s) + nHo (pL s) + nOf (pL s) = _
    show _ = nGr (pL s) + nTh (pL s) + nHo (pL s) + nOf (pL s) + 1
    omega
  · show nGr (pL s) < nGr (pL s) + 1
    omega
theorem rTh_I (hI : LI s) (h : rTh p n s = .inr s') : LI s' := by
  unfold rTh at h
  split at h
  · cases h
  rename_i hc
  obtain ⟨s1, h1, h⟩ := bnd_inv h
  obtain ⟨s2, h2, h⟩ := bnd_inv h
  obtain ⟨g, h3, h⟩ := bnd_inv h
  obtain ⟨s3, h4, h⟩ := bnd_inv h
  obtain ⟨z, h5, h⟩ := bnd_inv h
  obtain ⟨s4, h6, h⟩ := bnd_inv h
  obtain ⟨f, h7, h⟩ := bnd_inv h
  obtain ⟨s5, h8, h⟩ := bnd_inv h
  obtain ⟨c, h9, h⟩ := bnd_inv h
  cases h
  obtain ⟨e1, -⟩ := nmd_2 h1
  obtain ⟨e2, -⟩ := tWd_2 h2
  obtain ⟨e3, t3⟩ := tlA_2 h3
  obtain ⟨e4, -⟩ := tWd_2 h4
  obtain ⟨e5, z1, z2, -⟩ := tWh_2 h5
  obtain ⟨e6, -⟩ := tWd_2 h6
  obtain ⟨e7, f1, f2, -⟩ := tWh_2 h7
  obtain ⟨e8, -⟩ := tWd_2 h8
  obtain ⟨e9, c1, c2, -⟩ := tWh_2 h9
  have k2 : c.2.2 = s1.2 := by rw [e9, e8, e7, e6, e5, e4, e3, e2]; rfl
  have k1 : s1.2 = (pL s, nAdd (pM s) (tW (ad p n s)) 1 (nTh (pL s))) := by rw [e1]; rfl
  have k3 : pL c.2 = pL s := by show c.2.2.1 = _; rw [k2, k1]
  have k4 : c.2.2.2 = nAdd (pM s) (tW (ad p n s)) 1 (nTh (pL s)) := by rw [k2, k1]
  have hg : g.1 < nGr (pL s) := by
    obtain ⟨-, i, hi, so, eg⟩ := tld_2 t3
    have k5 : pM s2 = nAdd (pM s) (tW (ad p n s)) 1 (nTh (pL s)) := by rw [e2]; show s1.2.2 = _; rw [k1]
    rw [k5] at hi so eg
    rw [eg]
    exact nAdd_0 hI.2 (by decide) hi so
  rw [k3, k4]
  obtain ⟨⟨a1, a2, a3, a4, a5, a6⟩, b⟩ := hI
  obtain ⟨d1, d2, d3, d4, d5, d6⟩ := a2
  refine ⟨⟨a1, ⟨d1, d2, ?_, d4, d5, d6⟩, fun t ht => ?_, fun k hk => ?_, a5, a6⟩, NI.add b (Nat.le_refl _) ?_ ?_ (fun e => by cases e) (fun _ => ?_)⟩
  · show nTh (pL s) + 1 ≤ 8
    omega
  · have ht : t < nTh (pL s) + 1 := ht
    show (if t = (pL s).1 2 then adf g.1 z.1 f.1 c.1 0 else (pL s).2.1 t 0) < nGr (pL s) ∧ (10 ≤ (if t = (pL s).1 2 then adf g.1 z.1 f.1 c.1 1 else (pL s).2.1 t 1) ∧ (if t = (pL s).1 2 then adf g.1 z.1 f.1 c.1 1 else (pL s).2.1 t 1) ≤ 999) ∧ (10 ≤ (if t = (pL s).1 2 then adf g.1 z.1 f.1 c.1 2 else (pL s).2.1 t 2) ∧ (if t = (pL s).1 2 then adf g.1 z.1 f.1 c.1 2 else (pL s).2.1 t 2) ≤ 200) ∧ (1 ≤ (if t = (pL s).1 2 then adf g.1 z.1 f.1 c.1 3 else (pL s).2.1 t 3) ∧ (if t = (pL s).1 2 then adf g.1 z.1 f.1 c.1 3 else (pL s).2.1 t 3) ≤ 999)
    by_cases e : t = (pL s).1 2
    · simp only [if_pos e]
      exact ⟨hg, ⟨z1, z2⟩, ⟨f1, f2⟩, c1, c2⟩
    · simp only [if_neg e]
      exact a3 t (by have : (pL s).1 2 = nTh (pL s) := rfl; omega)
  · have q := a4 k hk
    exact ⟨Nat.lt_succ_of_lt q.1, q.2⟩
  · show nTh (pL s) ≤ nTh (pL s) + 1
    omega
  · show nGr (pL s) + (nTh (pL s) + 1) + nHo (pL s) + nOf (pL s) = nGr (pL s) + nTh (pL s) + nHo (pL s) + nOf (pL s) + 1
    omega
  · show nTh (pL s) < nTh (pL s) + 1
    omega
theorem rCh_I (hI : LI s) (h : rCh p n s = .inr s') : LI s' := by
  unfold rCh at h
  split at h
  · cases h
  rename_i hc
  obtain ⟨t, h1, h⟩ := bnd_inv h
  obtain ⟨s1, h2, h⟩ := bnd_inv h
  obtain ⟨m, h3, h⟩ := bnd_inv h
  obtain ⟨w, h4, h⟩ := bnd_inv h
  obtain ⟨b, h5, h⟩ := bnd_inv h
  cases h
  obtain ⟨e1, t1⟩ := tlA_2 h1
  obtain ⟨e2, -⟩ := tWd_2 h2
  obtain ⟨e3, m1, m2, -⟩ := tWh_2 h3
  obtain ⟨e4, w1, -⟩ := one_2 h4
  have k5 : b.2.2 = w.2.2 ∧ (w.1 ≤ 4 → 1 ≤ b.1 ∧ b.1 ≤ 999) := by
    unfold rBy at h5
    split at h5
    · obtain ⟨e5, b1, b2, -⟩ := tWh_2 h5
      exact ⟨by rw [e5]; rfl, fun _ => ⟨b1, b2⟩⟩
    · rename_i hw
      cases h5
      exact ⟨rfl, fun q => absurd q hw⟩
  have k2 : b.2.2 = s.2 := by rw [k5.1, e4, e3, e2, e1]; rfl
  have ht : t.1 < nTh (pL s) := by
    obtain ⟨-, i, hi, so, eg⟩ := tld_2 t1
    have k6 : pM (ad p n s) = pM s := rfl
    rw [k6] at hi so eg
    rw [eg]
    exact (hI.2.2 i hi).2 so
  have k3 : pL b.2 = pL s := by show b.2.2.1 = _; rw [k2]
  have k4 : b.2.2.2 = pM s := by rw [k2]
  rw [k3, k4]
  obtain ⟨⟨a1, a2, a3, a4, a5, a6⟩, bb⟩ := hI
  obtain ⟨d1, d2, d3, d4, d5, d6⟩ := a2
  refine ⟨⟨a1, ⟨d1, d2, d3, ?_, d5, d6⟩, a3, fun k hk => ?_, a5, a6⟩, bb⟩
  · show nCh (pL s) + 1 ≤ 16
    omega
  · have hk : k < (pL s).1 3 + 1 := hk
    show (if k = (pL s).1 3 then adf t.1 m.1 w.1 b.1 0 else (pL s).2.2.1 k 0) < _ ∧ (1 ≤ (if k = (pL s).1 3 then adf t.1 m.1 w.1 b.1 1 else (pL s).2.2.1 k 1) ∧ (if k = (pL s).1 3 then adf t.1 m.1 w.1 b.1 1 else (pL s).2.2.1 k 1) ≤ 11) ∧ (if k = (pL s).1 3 then adf t.1 m.1 w.1 b.1 2 else (pL s).2.2.1 k 2) ≤ 6 ∧ ((if k = (pL s).1 3 then adf t.1 m.1 w.1 b.1 2 else (pL s).2.2.1 k 2) ≤ 4 → 1 ≤ (if k = (pL s).1 3 then adf t.1 m.1 w.1 b.1 3 else (pL s).2.2.1 k 3) ∧ (if k = (pL s).1 3 then adf t.1 m.1 w.1 b.1 3 else (pL s).2.2.1 k 3) ≤ 999)
    by_cases e : k = (pL s).1 3
    · simp only [if_pos e]
      exact ⟨ht, ⟨m1, m2⟩, Nat.le_of_lt_succ w1, k5.2⟩
    · simp only [if_neg e]
      exact a4 k (by have : (pL s).1 3 = nCh (pL s) := rfl; omega)
theorem rWa_2 : ∀ (f : Nat) (w : Nat → Nat) (s : PS) (r : (Nat → Nat) × PS), (∀ g, w g ≤ 99) → rWa p n f w s = .inr r → r.2.2 = s.2 ∧ ∀ g, r.1 g ≤ 99
  | 0, w, s, r, _, h => by cases h
  | f + 1, w, s, r, hw, h => by
    unfold rWa at h
    obtain ⟨g, h1, h⟩ := bnd_inv h
    split at h
    · cases h
    obtain ⟨v, h2, h⟩ := bnd_inv h
    obtain ⟨e2, v1, v2, -⟩ := tWh_2 h2
    have hw' : ∀ k, upW w g v.1 k ≤ 99 := by
      intro k
      unfold upW
      split
      · exact v2
      · exact hw k
    split at h
    · have ih := rWa_2 f _ _ r hw' h
      exact ⟨by rw [ih.1, e2]; rfl, ih.2⟩
    · cases h
      exact ⟨by rw [e2]; rfl, hw'⟩
theorem rHo_I (hI : LI s) (h : rHo p n s = .inr s') : LI s' := by
  unfold rHo at h
  split at h
  · cases h
  rename_i hc
  obtain ⟨s1, h1, h⟩ := bnd_inv h
  obtain ⟨s2, h2, h⟩ := bnd_inv h
  obtain ⟨no, h3, h⟩ := bnd_inv h
  obtain ⟨s3, h4, h⟩ := bnd_inv h
  obtain ⟨pe, h5, h⟩ := bnd_inv h
  obtain ⟨s4, h6, h⟩ := bnd_inv h
  obtain ⟨w, h7, h⟩ := bnd_inv h
  cases h
  obtain ⟨e1, -⟩ := nmd_2 h1
  obtain ⟨e2, -⟩ := tWd_2 h2
  obtain ⟨e3, n1, n2, -⟩ := tWh_2 h3
  obtain ⟨e4, -⟩ := tWd_2 h4
  obtain ⟨e5, p1, p2, -⟩ := tWh_2 h5
  obtain ⟨e6, -⟩ := tWd_2 h6
  obtain ⟨e7, w9⟩ := rWa_2 _ _ _ _ (fun _ => Nat.zero_le _) h7
  have k2 : w.2.2 = s1.2 := by rw [e7, e6, e5, e4, e3, e2]; rfl
  have k1 : s1.2 = (pL s, nAdd (pM s) (tW (ad p n s)) 2 (nHo (pL s))) := by rw [e1]; rfl
  have k3 : pL w.2 = pL s := by show w.2.2.1 = _; rw [k2, k1]
  have k4 : w.2.2.2 = nAdd (pM s) (tW (ad p n s)) 2 (nHo (pL s)) := by rw [k2, k1]
  rw [k3, k4]
  obtain ⟨⟨a1, a2, a3, a4, a5, a6⟩, b⟩ := hI
  obtain ⟨d1, d2, d3, d4, d5, d6⟩ := a2
  refine ⟨⟨a1, ⟨d1, d2, d3, d4, ?_, d6⟩, a3, a4, fun k hk => ?_, a6⟩, NI.add b (Nat.le_refl _) (Nat.le_refl _) ?_ (fun e => by cases e) (fun e => by cases e)⟩
  · show nHo (pL s) + 1 ≤ 3
    omega
  · have hk : k < (pL s).1 5 + 1 := hk
    show (if k = (pL s).1 5 then hof no.1 pe.1 w.1 0 else (pL s).2.2.2.1 k 0) ≤ 99 ∧ (if k = (pL s).1 5 then hof no.1 pe.1 w.1 1 else (pL s).2.2.2.1 k 1) ≤ 999 ∧ ∀ g, g < 4 → (if k = (pL s).1 5 then hof no.1 pe.1 w.1 (2 + g) else (pL s).2.2.2.1 k (2 + g)) ≤ 99
    by_cases e : k = (pL s).1 5
    · simp only [if_pos e]
      refine ⟨n2, p2, fun g _ => ?_⟩
      unfold hof
      rw [if_neg (by omega), if_neg (by omega)]
      exact w9 _
    · simp only [if_neg e]
      exact a5 k (by have : (pL s).1 5 = nHo (pL s) := rfl; omega)
  · show nGr (pL s) + nTh (pL s) + (nHo (pL s) + 1) + nOf (pL s) = nGr (pL s) + nTh (pL s) + nHo (pL s) + nOf (pL s) + 1
    omega
theorem rOf_I (hI : LI s) (h : rOf p n s = .inr s') : LI s' := by
  unfold rOf at h
  split at h
  · cases h
  rename_i hc
  obtain ⟨s1, h1, h⟩ := bnd_inv h
  obtain ⟨x, h2, h⟩ := bnd_inv h
  obtain ⟨y, h3, h⟩ := bnd_inv h
  obtain ⟨z, h4, h⟩ := bnd_inv h
  cases h
  obtain ⟨e1, -⟩ := nmd_2 h1
  obtain ⟨e2, x1, -⟩ := one_2 h2
  obtain ⟨e3, y1, -⟩ := one_2 h3
  obtain ⟨e4, z1, -⟩ := one_2 h4
  have k2 : z.2.2 = s1.2 := by rw [e4, e3, e2]; rfl
  have k1 : s1.2 = (pL s, nAdd (pM s) (tW (ad p n s)) 3 (nOf (pL s))) := by rw [e1]; rfl
  have k3 : pL z.2 = pL s := by show z.2.2.1 = _; rw [k2, k1]
  have k4 : z.2.2.2 = nAdd (pM s) (tW (ad p n s)) 3 (nOf (pL s)) := by rw [k2, k1]
  rw [k3, k4]
  obtain ⟨⟨a1, a2, a3, a4, a5, a6⟩, b⟩ := hI
  obtain ⟨d1, d2, d3, d4, d5, d6⟩ := a2
  refine ⟨⟨a1, ⟨d1, d2, d3, d4, d5, ?_⟩, a3, a4, a5, fun k hk => ?_⟩, NI.add b (Nat.le_refl _) (Nat.le_refl _) ?_ (fun e => by cases e) (fun e => by cases e)⟩
  · show nOf (pL s) + 1 ≤ 3
    omega
  · have hk : k < (pL s).1 6 + 1 := hk
    show (if k = (pL s).1 6 then adf x.1 y.1 z.1 0 0 else (pL s).2.2.2.2 k 0) ≤ 2 ∧ (if k = (pL s).1 6 then adf x.1 y.1 z.1 0 1 else (pL s).2.2.2.2 k 1) ≤ 1 ∧ (if k = (pL s).1 6 then adf x.1 y.1 z.1 0 2 else (pL s).2.2.2.2 k 2) ≤ 1
    by_cases e : k = (pL s).1 6
    · simp only [if_pos e]
      exact ⟨Nat.le_of_lt_succ x1, Nat.le_of_lt_succ y1, Nat.le_of_lt_succ z1⟩
    · simp only [if_neg e]
      exact a6 k (by have : (pL s).1 6 = nOf (pL s) := rfl; omega)
  · show nGr (pL s) + nTh (pL s) + nHo (pL s) + (nOf (pL s) + 1) = nGr (pL s) + nTh (pL s) + nHo (pL s) + nOf (pL s) + 1
    omega
theorem rLn_I (hI : LI s) (h : rLn p n s = .inr s') : LI s' := by
  unfold rLn at h
  split at h
  · exact rMo_I hI h
  split at h
  · exact rGr_I hI h
  split at h
  · exact rTh_I hI h
  split at h
  · exact rCh_I hI h
  split at h
  · exact rHo_I hI h
  split at h
  · exact rOf_I hI h
  · cases h
theorem rEn_ok (hI : LI s) (h : rEn s = .inr s') : LdOk (pL s') := by
  unfold rEn at h
  split at h
  · rename_i hw
    cases h
    unfold isWl at hw
    simp only [Bool.and_eq_true, decide_eq_true_eq] at hw
    obtain ⟨⟨a1, a2, a3, a4, a5, a6⟩, b⟩ := hI
    obtain ⟨d1, d2, d3, d4, d5, d6⟩ := a2
    refine ⟨?_, d2, ⟨hw.1.1.2, d3⟩, ⟨?_, ?_⟩, ⟨hw.1.2, d5⟩, ⟨hw.2, d6⟩, a3, a4, a5, a6⟩
    · show 2 ≤ nMo (pL s) ∧ nMo (pL s) ≤ 12
      omega
    · show nCh (pL s) ≤ 20
      omega
    · show nCh (pL s) ≤ nCh (pL s)
      omega
  · cases h
theorem rLs_ok : ∀ (f : Nat) (s s' : PS), LI s → rLs p n f s = .inr s' → LdOk (pL s')
  | 0, s, s', _, h => by cases h
  | f + 1, s, s', hI, h => by
    unfold rLs at h
    obtain ⟨s1, h1, h⟩ := bnd_inv h
    have hI1 := rLn_I hI h1
    split at h
    · exact rEn_ok hI1 h
    split at h
    · exact rLs_ok f _ _ (show LI (ad p n s1) from hI1) h
    · cases h
theorem LI_0 (t : Tk) : LI (t, ld0, nm0) := by
  refine ⟨⟨Or.inl rfl, ⟨Nat.zero_le 12, Nat.zero_le 4, Nat.zero_le 8, Nat.zero_le 16, Nat.zero_le 3, Nat.zero_le 3⟩, fun t ht => absurd ht (Nat.not_lt_zero _), fun t ht => absurd ht (Nat.not_lt_zero _), fun t ht => absurd ht (Nat.not_lt_zero _), fun t ht => absurd ht (Nat.not_lt_zero _)⟩, rfl, fun i hi => absurd hi (Nat.not_lt_zero _)⟩
theorem prs_ok (h : prs p n = .inr s') : LdOk (pL s') := rLs_ok 901 _ _ (LI_0 _) h
end U2
