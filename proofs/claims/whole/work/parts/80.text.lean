/-! the text: words as their bytes, the last one first; tokens; what is read of them -/
def cdB (B o : Nat) : List Nat → Nat
  | [] => 0
  | b :: w => B * cdB B o w + (b - o)
def bdB (B d : Nat) : Nat → Nat
  | 0 => 0
  | n + 1 => B * bdB B d n + d
def okW (w : List Nat) : Prop := w.length ≤ 8 ∧ ∀ b ∈ w, 97 ≤ b ∧ b ≤ 122
def sWs : List (List Nat) := [[115, 104, 116, 110, 111, 109], [112, 117, 111, 114, 103], [103, 110, 105, 104, 116], [101, 103, 110, 97, 104, 99], [101, 115, 117, 111, 104], [101, 99, 105, 102, 102, 111], [101, 110, 111, 103], [101, 109, 111, 99], [102, 111], [101, 122, 105, 115], [102, 102, 117, 116, 115], [101, 99, 105, 114, 112], [104, 116, 110, 111, 109], [114, 101, 114, 97, 101, 100], [114, 101, 112, 97, 101, 104, 99], [114, 101, 108, 108, 97, 109, 115], [114, 101, 110, 110, 105, 104, 116], [114, 101, 116, 116, 101, 98], [115, 101, 99, 105, 116, 111, 110], [110, 111, 105, 115, 110, 101, 112], [115, 116, 110, 97, 119], [121, 114, 114, 97, 99], [114, 97, 101, 110], [112, 111, 114, 100], [101, 99, 101, 105, 112], [116, 104, 103, 105, 101, 119], [100, 101, 120, 105, 102], [100, 101, 110, 105, 97, 104, 99]]
def sW (k : Nat) : List Nat := sWs.getD (k - 7) []
theorem cdB_inj {B o : Nat} (hB : 122 < B + o) (ho : o ≤ 96) : ∀ {w w' : List Nat}, (∀ b ∈ w, 97 ≤ b ∧ b ≤ 122) → (∀ b ∈ w', 97 ≤ b ∧ b ≤ 122) → cdB B o w = cdB B o w' → w = w'
  | [], [], _, _, _ => rfl
  | [], b :: w, _, h', e => by
    have := h' b List.mem_cons_self
    unfold cdB at e
    generalize B * cdB B o w = x at e
    omega
  | b :: w, [], h, _, e => by
    have := h b List.mem_cons_self
    unfold cdB at e
    generalize B * cdB B o w = x at e
    omega
  | b :: w, b' :: w', h, h', e => by
    have h1 := h b List.mem_cons_self
    have h2 := h' b' List.mem_cons_self
    unfold cdB at e
    have m1 : (B * cdB B o w + (b - o)) % B = b - o := by rw [Nat.mul_add_mod, Nat.mod_eq_of_lt (by omega)]
    have m2 : (B * cdB B o w' + (b' - o)) % B = b' - o := by rw [Nat.mul_add_mod, Nat.mod_eq_of_lt (by omega)]
    rw [e, m2] at m1
    have hb : b = b' := by omega
    subst hb
    have e2 : B * cdB B o w = B * cdB B o w' := Nat.add_right_cancel e
    have e3 := Nat.eq_of_mul_eq_mul_left (by omega) e2
    rw [cdB_inj hB ho (fun c hc => h c (List.mem_cons_of_mem _ hc)) (fun c hc => h' c (List.mem_cons_of_mem _ hc)) e3]
theorem cdB_le {B o d : Nat} : ∀ {n : Nat} {w : List Nat}, w.length ≤ n → (∀ b ∈ w, b - o ≤ d) → cdB B o w ≤ bdB B d n
  | _, [], _, _ => Nat.zero_le _
  | 0, b :: w, h, _ => absurd h (by simp)
  | n + 1, b :: w, h, hd => by
    unfold cdB bdB
    exact Nat.add_le_add (Nat.mul_le_mul_left B (cdB_le (by simpa using h) (fun c hc => hd c (List.mem_cons_of_mem _ hc)))) (hd b List.mem_cons_self)
theorem okW.lt {w : List Nat} (h : okW w) : cdB 256 0 w < 2 ^ 63 :=
  Nat.lt_of_le_of_lt (cdB_le (d := 122) h.1 (fun b hb => by have := h.2 b hb; omega)) (by decide +kernel)
theorem okW.lt32 {w : List Nat} (h : okW w) : cdB 32 96 w < 2 ^ 63 :=
  Nat.lt_of_le_of_lt (cdB_le (d := 26) h.1 (fun b hb => by have := h.2 b hb; omega)) (by decide +kernel)
/-- two words are one, by their numbers -/
theorem okW.eq {w w' : List Nat} (h : okW w) (h' : okW w') : (lN (cdB 256 0 w) = lN (cdB 256 0 w')) = (w = w') := by
  rw [lN_eqI h.lt h'.lt]
  exact propext ⟨cdB_inj (by omega) (by omega) h.2 h'.2, fun e => by rw [e]⟩
theorem okW.eq32 {w w' : List Nat} (h : okW w) (h' : okW w') : (lN (cdB 32 96 w) = lN (cdB 32 96 w')) = (w = w') := by
  rw [lN_eqI h.lt32 h'.lt32]
  exact propext ⟨cdB_inj (by omega) (by omega) h.2 h'.2, fun e => by rw [e]⟩
theorem okW.nil : okW [] := ⟨by decide, fun b hb => by cases hb⟩
theorem sW_ok : ∀ k, 7 ≤ k → k < 35 → okW (sW k) ∧ sW k ≠ [] := by
  have h : ∀ k, k < 28 → (decide ((sW (k + 7)).length ≤ 8) && (sW (k + 7)).all (fun b => decide (97 ≤ b) && decide (b ≤ 122)) && decide (sW (k + 7) ≠ [])) = true := by decide +kernel
  intro k h1 h2
  have q := h (k - 7) (by omega)
  rw [show k - 7 + 7 = k by omega] at q
  simp only [Bool.and_eq_true, decide_eq_true_eq, List.all_eq_true] at q
  exact ⟨⟨q.1.1, fun b hb => q.1.2 b hb⟩, q.2⟩
/-- the end of a row of such bytes -/
def enF (P : Nat → Bool) (n : Nat) : Nat → Nat → Nat
  | 0, i => i
  | d + 1, i => if i < n ∧ P i = true then enF P n d (i + 1) else i
def en (P : Nat → Bool) (n i : Nat) : Nat := enF P n (n - i) i
theorem en_s {P : Nat → Bool} {n i : Nat} (h : i < n) (hp : P i = true) : en P n i = en P n (i + 1) := by
  unfold en
  rw [show n - i = (n - (i + 1)) + 1 by omega]
  show (if i < n ∧ P i = true then _ else _) = _
  rw [if_pos ⟨h, hp⟩]
theorem en_e {P : Nat → Bool} {n i : Nat} (h : ¬ (i < n ∧ P i = true)) : en P n i = i := by
  unfold en
  cases hd : n - i with
  | zero => rfl
  | succ d =>
    show (if i < n ∧ P i = true then _ else _) = _
    rw [if_neg h]
theorem en_in {P : Nat → Bool} {n : Nat} : ∀ (d i : Nat), n - i = d → i ≤ n → i ≤ en P n i ∧ en P n i ≤ n ∧ ∀ j, i ≤ j → j < en P n i → P j = true
  | 0, i, hd, hi => by rw [en_e (by omega)]; exact ⟨Nat.le_refl _, hi, fun j h1 h2 => by omega⟩
  | d + 1, i, hd, hi => by
    by_cases h : i < n ∧ P i = true
    · rw [en_s h.1 h.2]
      obtain ⟨q1, q2, q3⟩ := en_in (P := P) (n := n) d (i + 1) (by omega) (by omega)
      refine ⟨by omega, q2, fun j h1 h2 => ?_⟩
      by_cases e : j = i
      · rw [e]; exact h.2
      · exact q3 j (by omega) h2
    · rw [en_e h]; exact ⟨Nat.le_refl _, hi, fun j h1 h2 => by omega⟩
theorem en_ge {P : Nat → Bool} {n i : Nat} (hi : i ≤ n) : i ≤ en P n i ∧ en P n i ≤ n := ⟨(en_in _ i rfl hi).1, (en_in _ i rfl hi).2.1⟩
def wdN (p : Nat → Nat) (s : Nat) : Nat → List Nat
  | 0 => []
  | d + 1 => p (s + d) :: wdN p s d
theorem wdN_len (p : Nat → Nat) (s : Nat) : ∀ d, (wdN p s d).length = d
  | 0 => rfl
  | d + 1 => by unfold wdN; rw [List.length_cons, wdN_len p s d]
theorem wdN_mem {p : Nat → Nat} {s : Nat} {Q : Nat → Prop} : ∀ {d : Nat}, (∀ j, s ≤ j → j < s + d → Q (p j)) → ∀ b ∈ wdN p s d, Q b
  | 0, _, b, hb => by cases hb
  | d + 1, h, b, hb => by
    unfold wdN at hb
    rcases List.mem_cons.mp hb with e | hb
    · rw [e]; exact h (s + d) (by omega) (by omega)
    · exact wdN_mem (fun j h1 h2 => h j h1 (by omega)) b hb
abbrev isSp (p : Nat → Nat) : Nat → Bool := fun k => decide (p k = 32)
abbrev isLt (p : Nat → Nat) : Nat → Bool := fun k => decide (97 ≤ p k) && decide (p k ≤ 122)
abbrev isDg (p : Nat → Nat) : Nat → Bool := fun k => decide (48 ≤ p k) && decide (p k ≤ 57)
/-- a token: its kind (0 end, 1 word, 2 whole, 3 semicolon, 4 comma, 5 none), start, stop, word, whole -/
abbrev Tk : Type := Nat × Nat × Nat × List Nat × Nat
def advS (p : Nat → Nat) (n s : Nat) : Tk :=
  if n ≤ s then (0, s, s, [], 0)
  else if isLt p s = true then (if en (isLt p) n s - s ≤ 8 then (1, s, en (isLt p) n s, wdN p s (en (isLt p) n s - s), 0) else (5, s, en (isLt p) n s, [], 0))
  else if isDg p s = true then (if en (isDg p) n s - s ≤ 3 then (2, s, en (isDg p) n s, [], cdB 10 48 (wdN p s (en (isDg p) n s - s))) else (5, s, en (isDg p) n s, [], 0))
  else if p s = 59 then (3, s, s + 1, [], 0) else if p s = 44 then (4, s, s + 1, [], 0) else (5, s, s + 1, [], 0)
def adv (p : Nat → Nat) (n i : Nat) : Tk := advS p n (en (isSp p) n i)
def TkOk (n : Nat) (t : Tk) : Prop := t.2.1 ≤ t.2.2.1 ∧ t.2.2.1 ≤ n ∧ t.1 ≤ 5 ∧ okW t.2.2.2.1 ∧ (t.1 = 1 → t.2.2.2.1 ≠ []) ∧ (t.1 ≠ 1 → t.2.2.2.1 = []) ∧ t.2.2.2.2 ≤ 999 ∧ (t.1 = 3 → t.2.1 < t.2.2.1)
theorem TkOk.of0 {n k s e v : Nat} (hk : k ≤ 5) (h1 : k ≠ 1) (hs : s ≤ e) (he : e ≤ n) (h3 : k = 3 → s < e) (hv : v ≤ 999) : TkOk n (k, s, e, [], v) :=
  ⟨hs, he, hk, okW.nil, (fun q => absurd q h1), (fun _ => rfl), hv, h3⟩
theorem advS_ok {p : Nat → Nat} {n s : Nat} (hs : s ≤ n) : TkOk n (advS p n s) ∧ (advS p n s).2.1 = s := by
  unfold advS
  by_cases h0 : n ≤ s
  · rw [if_pos h0]
    exact ⟨TkOk.of0 (by omega) (by omega) (Nat.le_refl _) hs (by omega) (by omega), rfl⟩
  rw [if_neg h0]
  by_cases h1 : isLt p s = true
  · rw [if_pos h1]
    obtain ⟨q1, q2, q3⟩ := en_in (P := isLt p) (n := n) _ s rfl hs
    have q4 : s < en (isLt p) n s := by
      rw [en_s (by omega) h1]
      have := (en_ge (P := isLt p) (show s + 1 ≤ n by omega)).1
      omega
    by_cases h2 : en (isLt p) n s - s ≤ 8
    · rw [if_pos h2]
      refine ⟨⟨q1, q2, Nat.le_of_ble_eq_true rfl, ⟨?_, wdN_mem (Q := fun b => 97 ≤ b ∧ b ≤ 122) (fun j j1 j2 => ?_)⟩, (fun _ e => ?_), (fun e => absurd rfl e), Nat.zero_le _, (fun e => by cases e)⟩, rfl⟩
      · show (wdN p s (en (isLt p) n s - s)).length ≤ 8
        rw [wdN_len]; exact h2
      · have := q3 j j1 (by omega)
        simpa using this
      · have e : wdN p s (en (isLt p) n s - s) = [] := e
        have hl := wdN_len p s (en (isLt p) n s - s)
        rw [e] at hl
        have : (0 : Nat) = en (isLt p) n s - s := hl
        omega
    · rw [if_neg h2]
      exact ⟨TkOk.of0 (by omega) (by omega) q1 q2 (by omega) (by omega), rfl⟩
  rw [if_neg h1]
  by_cases h2 : isDg p s = true
  · rw [if_pos h2]
    obtain ⟨q1, q2, q3⟩ := en_in (P := isDg p) (n := n) _ s rfl hs
    by_cases h3 : en (isDg p) n s - s ≤ 3
    · rw [if_pos h3]
      refine ⟨TkOk.of0 (by omega) (by omega) q1 q2 (by omega) ?_, rfl⟩
      refine Nat.le_trans (cdB_le (d := 9) (n := 3) (by rw [wdN_len]; exact h3) (wdN_mem (Q := fun b => b - 48 ≤ 9) (fun j j1 j2 => ?_))) (by decide +kernel)
      have := q3 j j1 (by omega)
      simp only [Bool.and_eq_true, decide_eq_true_eq] at this
      omega
    · rw [if_neg h3]
      exact ⟨TkOk.of0 (by omega) (by omega) q1 q2 (by omega) (by omega), rfl⟩
  rw [if_neg h2]
  by_cases h3 : p s = 59
  · rw [if_pos h3]
    exact ⟨TkOk.of0 (by omega) (by omega) (by omega) (by omega) (by omega) (by omega), rfl⟩
  rw [if_neg h3]
  by_cases h4 : p s = 44
  · rw [if_pos h4]
    exact ⟨TkOk.of0 (by omega) (by omega) (by omega) (by omega) (by omega) (by omega), rfl⟩
  rw [if_neg h4]
  exact ⟨TkOk.of0 (by omega) (by omega) (by omega) (by omega) (by omega) (by omega), rfl⟩
theorem adv_ok {p : Nat → Nat} {n i : Nat} (hi : i ≤ n) : TkOk n (adv p n i) ∧ i ≤ (adv p n i).2.1 := by
  have h := en_ge (P := isSp p) hi
  have q := advS_ok (p := p) h.2
  exact ⟨q.1, by unfold adv; rw [q.2]; exact h.1⟩
/-- the first that fits -/
def fst1 (f : Nat → Bool) : Nat → Option Nat
  | 0 => none
  | k + 1 => match fst1 f k with
    | some i => some i
    | none => if f k = true then some k else none
theorem fst1_n {f : Nat → Bool} : ∀ {n : Nat}, (∀ j, j < n → f j = false) → fst1 f n = none
  | 0, _ => rfl
  | n + 1, h => by
    unfold fst1
    rw [fst1_n (fun j hj => h j (by omega))]
    simp only
    rw [if_neg (by rw [h n (by omega)]; exact Bool.false_ne_true)]
theorem fst1_s {f : Nat → Bool} {k : Nat} (hk : f k = true) (h : ∀ j, j < k → f j = false) : ∀ {n : Nat}, k < n → fst1 f n = some k
  | 0, hn => by omega
  | n + 1, hn => by
    unfold fst1
    by_cases e : k = n
    · subst e
      rw [fst1_n h]
      simp only
      rw [if_pos hk]
    · rw [fst1_s hk h (show k < n by omega)]
theorem fst1_i {f : Nat → Bool} : ∀ {n i : Nat}, fst1 f n = some i → i < n ∧ f i = true ∧ ∀ j, j < i → f j = false
  | n + 1, i, h => by
    unfold fst1 at h
    cases hq : fst1 f n with
    | some i' =>
      rw [hq] at h
      cases h
      have := fst1_i hq
      exact ⟨by omega, this.2⟩
    | none =>
      rw [hq] at h
      simp only at h
      split at h
      · cases h
        rename_i hf
        refine ⟨by omega, hf, fun j hj => ?_⟩
        cases hj2 : f j
        · rfl
        · exfalso
          have : ∀ n, fst1 f n = none → ∀ j, j < n → f j = false := by
            intro n
            induction n with
            | zero => intro _ j hj; omega
            | succ n ih =>
              intro hn j hj
              unfold fst1 at hn
              cases hq2 : fst1 f n with
              | some i' => rw [hq2] at hn; cases hn
              | none =>
                rw [hq2] at hn
                simp only at hn
                by_cases e : j = n
                · subst e
                  cases hf2 : f j
                  · rfl
                  · rw [if_pos hf2] at hn; cases hn
                · exact ih hq2 j (by omega)
          rw [this _ hq j hj] at hj2; cases hj2
      · cases h
theorem fst1_0 {f : Nat → Bool} {n : Nat} (h : fst1 f n = none) : ∀ j, j < n → f j = false := by
  intro j hj
  cases hf : f j
  · rfl
  · exfalso
    have q : ∃ i, i ≤ j ∧ f i = true ∧ ∀ k, k < i → f k = false := by
      induction j using Nat.strongRecOn with
      | ind j ih =>
        by_cases hx : ∃ k, k < j ∧ f k = true
        · obtain ⟨k, hk, hk2⟩ := hx
          obtain ⟨i, hi, hi2⟩ := ih k hk (by omega) hk2
          exact ⟨i, by omega, hi2⟩
        · exact ⟨j, Nat.le_refl _, hf, fun k hk => by
            cases hfk : f k
            · rfl
            · exact absurd ⟨k, hk, hfk⟩ hx⟩
    obtain ⟨i, hi, hi2, hi3⟩ := q
    rw [fst1_s hi2 hi3 (show i < n by omega)] at h
    cases h
/-! what is read: an end with a fault and its place, or what stands -/
abbrev Rs (α : Type) : Type := (Nat × Nat) ⊕ α
def bnd {α β : Type} (x : Rs α) (f : α → Rs β) : Rs β := match x with
  | .inl e => .inl e
  | .inr a => f a
theorem bnd_l {α β : Type} (e : Nat × Nat) (f : α → Rs β) : bnd (.inl e) f = .inl e := rfl
theorem bnd_r {α β : Type} (a : α) (f : α → Rs β) : bnd (.inr a) f = f a := rfl
theorem bnd_b {α β γ : Type} (x : Rs α) (f : α → Rs β) (g : β → Rs γ) : bnd (bnd x f) g = bnd x (fun a => bnd (f a) g) := by cases x <;> rfl
/-- the names told: how many; word, sort (0 group, 1 thing, 2 house, 3 office), number -/
abbrev Nm : Type := Nat × (Nat → List Nat × Nat × Nat)
abbrev PS : Type := Tk × Ld × Nm
abbrev tK (s : PS) : Nat := s.1.1
abbrev tS (s : PS) : Nat := s.1.2.1
abbrev tE (s : PS) : Nat := s.1.2.2.1
abbrev tW (s : PS) : List Nat := s.1.2.2.2.1
abbrev tN (s : PS) : Nat := s.1.2.2.2.2
abbrev pL (s : PS) : Ld := s.2.1
abbrev pM (s : PS) : Nm := s.2.2
def er {α : Type} (k : Nat) (s : PS) : Rs α := .inl (k, tS s)
def fnd (m : Nm) (w : List Nat) : Option Nat := fst1 (fun i => decide ((m.2 i).1 = w)) m.1
def nAdd (m : Nm) (w : List Nat) (so nu : Nat) : Nm := (m.1 + 1, fun i => if i = m.1 then (w, so, nu) else m.2 i)
def isNm (s : PS) : Bool := !anyN (fun i => decide (tW s = sW (7 + i))) 8 && decide (tK s = 1)
def wHow (i : Nat) : List Nat := if i < 5 then sW (20 + i) else sW (8 + i)
def wMis (i : Nat) : List Nat := sW (28 + i)
def wSee (i : Nat) : List Nat := sW (31 + i)
def wBas (i : Nat) : List Nat := sW (33 + i)
section T1
variable (p : Nat → Nat) (n : Nat)
def ad (s : PS) : PS := (adv p n (tE s), s.2)
def tWd (w : List Nat) (s : PS) : Rs PS := if tW s = w then .inr (ad p n s) else er 1 s
def tWh (lo hi : Nat) (s : PS) : Rs (Nat × PS) := if tK s = 2 then (if lo ≤ tN s ∧ tN s ≤ hi then .inr (tN s, ad p n s) else er 4 s) else er 1 s
def one (ws : Nat → List Nat) (c : Nat) (s : PS) : Rs (Nat × PS) := match fst1 (fun i => decide (tW s = ws i)) c with
  | some i => .inr (i, ad p n s)
  | none => er 1 s
def nmd (so nu : Nat) (s : PS) : Rs PS := if isNm s = true then (match fnd (pM s) (tW s) with
    | some _ => er 3 s
    | none => .inr (adv p n (tE s), pL s, nAdd (pM s) (tW s) so nu))
  else er 1 s
def tld (so : Nat) (s : PS) : Rs Nat := if isNm s = true then (match fnd (pM s) (tW s) with
    | some i => if ((pM s).2 i).2.1 = so then .inr ((pM s).2 i).2.2 else er 2 s
    | none => er 2 s)
  else er 1 s
def tlA (so : Nat) (s : PS) : Rs (Nat × PS) := bnd (tld so s) (fun g => .inr (g, ad p n s))
def inc (a : Ld) (k : Nat) : Ld := ((fun j => if j = k then a.1 k + 1 else a.1 j), a.2)
def sMo (a : Ld) (v : Nat) : Ld := ((fun j => if j = 0 then v else a.1 j), a.2)
def adT (a : Ld) (g z f c : Nat) : Ld := ((fun j => if j = 2 then a.1 2 + 1 else a.1 j), (fun t k => if t = a.1 2 then adf g z f c k else a.2.1 t k), a.2.2)
def hof (no pe : Nat) (w : Nat → Nat) (k : Nat) : Nat := if k = 0 then no else if k = 1 then pe else w (k - 2)
def adH (a : Ld) (no pe : Nat) (w : Nat → Nat) : Ld := ((fun j => if j = 5 then a.1 5 + 1 else a.1 j), a.2.1, a.2.2.1, (fun h k => if h = a.1 5 then hof no pe w k else a.2.2.2.1 h k), a.2.2.2.2)
def adO (a : Ld) (x y z : Nat) : Ld := ((fun j => if j = 6 then a.1 6 + 1 else a.1 j), a.2.1, a.2.2.1, a.2.2.2.1, (fun o k => if o = a.1 6 then adf x y z 0 k else a.2.2.2.2 o k))
/-- the changes of the text are told -/
def tll (a : Ld) : Ld := ((fun j => if j = 4 then a.1 3 else a.1 j), a.2)
def rMo (s : PS) : Rs PS := if 0 < nMo (pL s) then er 3 s else bnd (tWh p n 2 12 (ad p n s)) (fun v => .inr (v.2.1, sMo (pL v.2) v.1, v.2.2.2))
def rGr (s : PS) : Rs PS := if 4 ≤ nGr (pL s) then er 5 s else bnd (nmd p n 0 (nGr (pL s)) (ad p n s)) (fun v => .inr (v.1, inc (pL v) 1, v.2.2))
def rTh (s : PS) : Rs PS := if 8 ≤ nTh (pL s) then er 5 s else
  bnd (nmd p n 1 (nTh (pL s)) (ad p n s)) (fun s1 => bnd (tWd p n (sW 15) s1) (fun s2 => bnd (tlA p n 0 s2) (fun g =>
  bnd (tWd p n (sW 16) g.2) (fun s3 => bnd (tWh p n 10 999 s3) (fun z => bnd (tWd p n (sW 17) z.2) (fun s4 => bnd (tWh p n 10 200 s4) (fun f =>
  bnd (tWd p n (sW 18) f.2) (fun s5 => bnd (tWh p n 1 999 s5) (fun c => .inr (c.2.1, adT (pL c.2) g.1 z.1 f.1 c.1, c.2.2.2))))))))))
def rBy (h : Nat × PS) : Rs (Nat × PS) := if h.1 ≤ 4 then tWh p n 1 999 h.2 else .inr (0, h.2)
def rCh (s : PS) : Rs PS := if 16 ≤ nCh (pL s) then er 5 s else
  bnd (tlA p n 1 (ad p n s)) (fun t => bnd (tWd p n (sW 19) t.2) (fun s1 => bnd (tWh p n 1 11 s1) (fun m => bnd (one p n wHow 7 m.2) (fun h =>
  bnd (rBy p n h) (fun b => .inr (b.2.1, adc (pL b.2) t.1 m.1 h.1 b.1, b.2.2.2))))))
def upW (w : Nat → Nat) (g v : Nat) : Nat → Nat := fun k => if k = g then v else w k
def rWa : Nat → (Nat → Nat) → PS → Rs ((Nat → Nat) × PS)
  | 0, _, s => er 3 s
  | f + 1, w, s => bnd (tld 0 s) (fun g => if 0 < w g then er 3 s else bnd (tWh p n 1 99 (ad p n s)) (fun v => if tK v.2 = 4 then rWa f (upW w g v.1) (ad p n v.2) else .inr (upW w g v.1, v.2)))
def rHo (s : PS) : Rs PS := if 3 ≤ nHo (pL s) then er 5 s else
  bnd (nmd p n 2 (nHo (pL s)) (ad p n s)) (fun s1 => bnd (tWd p n (sW 25) s1) (fun s2 => bnd (tWh p n 0 99 s2) (fun no =>
  bnd (tWd p n (sW 26) no.2) (fun s3 => bnd (tWh p n 0 999 s3) (fun pe => bnd (tWd p n (sW 27) pe.2) (fun s4 =>
  bnd (rWa p n 5 (fun _ => 0) s4) (fun w => .inr (w.2.1, adH (pL w.2) no.1 pe.1 w.1, w.2.2.2))))))))
def rOf (s : PS) : Rs PS := if 3 ≤ nOf (pL s) then er 5 s else
  bnd (nmd p n 3 (nOf (pL s)) (ad p n s)) (fun s1 => bnd (one p n wMis 3 s1) (fun x => bnd (one p n wSee 2 x.2) (fun y => bnd (one p n wBas 2 y.2) (fun z =>
  .inr (z.2.1, adO (pL z.2) x.1 y.1 z.1, z.2.2.2)))))
def rLn (s : PS) : Rs PS := if tW s = sW 7 then rMo p n s else if tW s = sW 8 then rGr p n s else if tW s = sW 9 then rTh p n s else if tW s = sW 10 then rCh p n s else if tW s = sW 11 then rHo p n s else if tW s = sW 12 then rOf p n s else er 1 s
def isWl (a : Ld) : Bool := decide (0 < nMo a) && decide (0 < nTh a) && decide (0 < nHo a) && decide (0 < nOf a)
def rEn (s : PS) : Rs PS := if isWl (pL s) = true then .inr (s.1, tll (pL s), s.2.2) else er 6 s
def rLs : Nat → PS → Rs PS
  | 0, s => er 1 s
  | f + 1, s => bnd (rLn p n s) (fun s1 => if tK s1 = 0 then rEn s1 else if tK s1 = 3 then rLs f (ad p n s1) else er 1 s1)
def ld0 : Ld := (fun _ => 0, fun _ _ => 0, fun _ _ => 0, fun _ _ => 0, fun _ _ => 0)
def nm0 : Nm := (0, fun _ => ([], 0, 0))
def prs : Rs PS := rLs p n 901 (adv p n 0, ld0, nm0)
end T1
def aLand (st : St) (x : Int32) : Int32 × St := if x < nI 0 then (-nI 1, sT st 2) else if x ≤ nI (ln st) then (match prs (tp st) (cl x) with
    | .inl e => (-nI 1, (tp st, 0, 4, e.1, e.2, lan st))
    | .inr s => (nI (nTh (pL s)), (tp st, 0, 0, 0, pla st, some (pL s))))
  else (-nI 1, sT st 2)
