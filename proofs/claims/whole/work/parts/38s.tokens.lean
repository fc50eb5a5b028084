/-! the steps of the law: the text, token by token -/
theorem x_byteN : ∀ n : Fin 256, (n.val < 128 → (nI n.val).toInt8.toInt32 = nI n.val) ∧ (128 ≤ n.val → (nI n.val).toInt8.toInt32 < 0) := by decide +kernel
def Chs (c : Nat → Nat) (len : Nat) (et ut : Nat → Int32) : Prop := len ≤ 300 ∧ ∀ k : Nat, k < len → c k < 256 ∧ et k = nI (c k) ∧ (c k < 128 → ut k = nI (c k)) ∧ (128 ≤ c k → ut k < 0)
theorem x_chs {n un : Nat} {et ut : Nat → Int32} (h : RelText n et un ut) : ∃ c : Nat → Nat, Chs c n et ut := by
  obtain ⟨h1, h2, h3⟩ := h
  have e : ∀ k : Nat, ∃ j : Nat, k < n → j < 256 ∧ et k = nI j ∧ (j < 128 → ut k = nI j) ∧ (128 ≤ j → ut k < 0) := by
    intro k
    by_cases hk : k < n
    · obtain ⟨e1, e2⟩ := h3 k hk
      obtain ⟨j, j1, j2⟩ := pk_andE (ut k) (m := 255) 8 (by decide)
      have j3 := (sc_eq e2 (n := j) (by omega)).mpr j2
      obtain ⟨b1, b2⟩ := x_byteN ⟨j, by omega⟩
      dsimp only at b1 b2
      refine ⟨j, fun _ => ⟨by omega, e1.trans j2, fun q => j3.trans (b1 q), fun q => ?_⟩⟩
      rw [j3]
      exact b2 q
    · exact ⟨0, fun q => absurd q hk⟩
  exact ⟨fun k => Classical.choose (e k), h1, fun k hk => Classical.choose_spec (e k) hk⟩
def t_sp (x : Nat) : Bool := x == 32
def t_dg (x : Nat) : Bool := decide (48 ≤ x) && decide (x ≤ 57)
def t_lt (x : Nat) : Bool := decide (97 ≤ x) && decide (x ≤ 122)
theorem t_spE (x : Nat) : t_sp x = true ↔ x = 32 := by simp [t_sp]
theorem t_dgE (x : Nat) : t_dg x = true ↔ 48 ≤ x ∧ x ≤ 57 := by simp [t_dg]
theorem t_ltE (x : Nat) : t_lt x = true ↔ 97 ≤ x ∧ x ≤ 122 := by simp [t_lt]
def t_run (p : Nat → Bool) (c : Nat → Nat) (len : Nat) : Nat → Nat → Nat
  | 0, N => N
  | n + 1, N => if N < len ∧ p (c N) = true then t_run p c len n (N + 1) else N
theorem t_run_ge (p : Nat → Bool) (c : Nat → Nat) (len : Nat) : ∀ n N : Nat, N ≤ t_run p c len n N := by
  intro n
  induction n with
  | zero => intro N; exact Nat.le_refl _
  | succ n ih =>
    intro N
    rw [t_run]
    split
    · have := ih (N + 1); omega
    · exact Nat.le_refl _
theorem t_run_le (p : Nat → Bool) (c : Nat → Nat) (len : Nat) : ∀ n N : Nat, N ≤ len → t_run p c len n N ≤ len := by
  intro n
  induction n with
  | zero => intro N h; exact h
  | succ n ih =>
    intro N h
    rw [t_run]
    split
    · exact ih (N + 1) (by omega)
    · exact h
theorem t_run_in (p : Nat → Bool) (c : Nat → Nat) (len : Nat) : ∀ n N i : Nat, N ≤ i → i < t_run p c len n N → i < len ∧ p (c i) = true := by
  intro n
  induction n with
  | zero => intro N i a b; exact absurd b (by rw [t_run]; omega)
  | succ n ih =>
    intro N i a b
    rw [t_run] at b
    split at b
    · rename_i h
      rcases Nat.eq_or_lt_of_le a with rfl | a2
      · exact h
      · exact ih (N + 1) i a2 b
    · omega
theorem t_run_end (p : Nat → Bool) (c : Nat → Nat) (len : Nat) : ∀ n N : Nat, len - N < n → ¬ (t_run p c len n N < len ∧ p (c (t_run p c len n N)) = true) := by
  intro n
  induction n with
  | zero => intro N a; exact absurd a (Nat.not_lt_zero _)
  | succ n ih =>
    intro N a
    rw [t_run]
    split
    · rename_i h; exact ih (N + 1) (by omega)
    · rename_i h; exact h
theorem t_run_idem (p : Nat → Bool) (c : Nat → Nat) (len n N : Nat) (h : len - N < n + 1) : t_run p c len (n + 1) (t_run p c len (n + 1) N) = t_run p c len (n + 1) N := by
  rw [t_run, if_neg (t_run_end p c len (n + 1) N h)]
theorem x_byteAt {c : Nat → Nat} {len : Nat} {et ut : Nat → Int32} (hc : Chs c len et ut) (a : Nat) (ha : a < 2 ^ 31) : F_X2_byteAt et len a = if a < len then nI (c a) else -1 := by
  rw [F_X2_byteAt, x_nmE]
  have h0 : ¬ nI a < 0 := by
    have := nI_le (a := 0) (b := a) (by omega) ha
    exact Int32.not_lt.mpr this
  rw [if_neg h0]
  by_cases h : a < len
  · rw [if_neg (by omega), if_neg (by have := hc.1; omega), if_pos h, (hc.2 a h).2.1]
  · rw [if_pos (by omega), if_neg h]
theorem x_dig {x : Nat} (hx : x < 256) : F_X2_isDigit (nI x) = if t_dg x = true then 1 else 0 := by
  rw [F_X2_isDigit, x_nmE]
  by_cases h1 : x < 48
  · rw [if_pos (show nI x < 48 from nI_lt (b := 48) h1 (by omega)), if_neg (by rw [t_dgE]; omega)]
  · rw [if_neg (show ¬ nI x < 48 from fun q => h1 ((nI_ltI (b := 48) (by omega) (by omega)).mp q))]
    by_cases h2 : 57 < x
    · rw [if_pos (show 57 < nI x from nI_lt (a := 57) h2 (by omega)), if_neg (by rw [t_dgE]; omega)]
    · rw [if_neg (show ¬ 57 < nI x from fun q => h2 ((nI_ltI (a := 57) (by omega) (by omega)).mp q)), if_pos (by rw [t_dgE]; omega)]
theorem x_let {x : Nat} (hx : x < 256) : F_X2_isLetter (nI x) = if t_lt x = true then 1 else 0 := by
  rw [F_X2_isLetter, x_nmE]
  by_cases h1 : x < 97
  · rw [if_pos (show nI x < 97 from nI_lt (b := 97) h1 (by omega)), if_neg (by rw [t_ltE]; omega)]
  · rw [if_neg (show ¬ nI x < 97 from fun q => h1 ((nI_ltI (b := 97) (by omega) (by omega)).mp q))]
    by_cases h2 : 122 < x
    · rw [if_pos (show 122 < nI x from nI_lt (a := 122) h2 (by omega)), if_neg (by rw [t_ltE]; omega)]
    · rw [if_neg (show ¬ 122 < nI x from fun q => h2 ((nI_ltI (a := 122) (by omega) (by omega)).mp q)), if_pos (by rw [t_ltE]; omega)]
/-- a char of the reference: equal to one below 128, or not -/
theorem x_chE {x : Nat} {u : Int32} (hx : x < 256) (h1 : x < 128 → u = nI x) (h2 : 128 ≤ x → u < 0) (v : Nat) (hv : v < 128) : u = nI v ↔ x = v := by
  by_cases h : x < 128
  · rw [h1 h, nI_eq (by omega) (by omega)]
  · have h3 := h2 (by omega)
    refine ⟨fun q => ?_, fun q => by omega⟩
    rw [q] at h3
    exact absurd h3 (Int32.not_lt.mpr (nI_le (a := 0) (by omega) (by omega)))
theorem x_chIn {x : Nat} {u : Int32} (hx : x < 256) (h1 : x < 128 → u = nI x) (h2 : 128 ≤ x → u < 0) {lo hi : Nat} {lo' hi' : Int64} (e1 : lo' = (nI lo).toInt64) (e2 : hi' = (nI hi).toInt64) (hl : lo < 128) (hh : hi < 128) : (F_X5_in u.toInt64 lo' hi' = 0 ↔ ¬ (lo ≤ x ∧ x ≤ hi)) := by
  subst e1
  subst e2
  have h := x_in_iff u (nI lo) (nI hi)
  have h3 : (nI lo ≤ u ∧ u ≤ nI hi) ↔ (lo ≤ x ∧ x ≤ hi) := by
    by_cases c : x < 128
    · rw [h1 c, nI_leI (by omega) (by omega), nI_leI (by omega) (by omega)]
    · have h4 := h2 (by omega)
      refine ⟨fun q => ?_, fun q => by omega⟩
      have h5 := q.1
      have h6 : (0 : Int32) ≤ nI lo := nI_le (a := 0) (by omega) (by omega)
      exact absurd h4 (Int32.not_lt.mpr (Int32.le_trans h6 h5))
  rw [← h3, ← h, Decidable.not_not]
theorem x_skip4 {c : Nat → Nat} {len : Nat} {et ut : Nat → Int32} (hc : Chs c len et ut) : ∀ n N : Nat, N + n < 2 ^ 30 → F_X2_readToken_L8 et len n N = t_run t_sp c len n N := by
  intro n
  induction n with
  | zero => intro N _; rfl
  | succ n ih =>
    intro N h
    rw [F_X2_readToken_L8, t_run]
    by_cases c1 : N < len
    · rw [if_neg (by omega), x_byteAt hc N (by omega), if_pos c1, x_nmE]
      by_cases c2 : c N = 32
      · rw [c2, if_pos (show nI 32 = 32 from rfl), if_pos ⟨c1, by rfl⟩]
        exact ih (N + 1) (by omega)
      · have hb := (hc.2 N c1).1
        have c3 : ¬ nI (c N) = 32 := fun q => c2 ((nI_eq (b := 32) (by omega) (by omega)).mp q)
        rw [if_neg c3, if_neg (fun q => c2 ((t_spE _).mp q.2))]
    · rw [if_pos (by omega), if_neg (fun q => c1 q.1)]
theorem x_skip5 {c : Nat → Nat} {len : Nat} {et ut : Nat → Int32} (hc : Chs c len et ut) : ∀ n N : Nat, F_X5_blanks_L0 len ut n N = t_run t_sp c len n N := by
  intro n
  induction n with
  | zero => intro N; rfl
  | succ n ih =>
    intro N
    rw [F_X5_blanks_L0, t_run]
    by_cases c1 : N < len
    · obtain ⟨b1, b2, b3, b4⟩ := hc.2 N c1
      have e := x_chE b1 b3 b4 32 (by decide)
      rw [if_neg (by omega)]
      by_cases c2 : c N = 32
      · rw [if_pos (show ut N = 32 from e.mpr c2), if_pos ⟨c1, (t_spE _).mpr c2⟩]
        exact ih (N + 1)
      · rw [if_neg (show ¬ ut N = 32 from fun q => c2 (e.mp q)), if_neg (fun q => c2 ((t_spE _).mp q.2))]
    · rw [if_pos (by omega), if_neg (fun q => c1 q.1)]
def t_skip (c : Nat → Nat) (len N : Nat) : Nat := t_run t_sp c len 301 N
theorem x_blanks {c : Nat → Nat} {len : Nat} {et ut : Nat → Int32} (hc : Chs c len et ut) (N : Nat) : F_X5_blanks len ut N = (t_skip c len N, t_skip c len N) := by
  rw [F_X5_blanks, x_nmE, x_skip5 hc]
  rfl
/-! numbers -/
def t_inv (j cv rv : Nat) (nz : Prop) : Prop := (j = 0 ∧ cv = 0 ∧ rv = 0) ∨ (j = 1 ∧ cv = rv ∧ rv ≤ 9 ∧ (nz → 1 ≤ rv)) ∨ (j = 2 ∧ cv = rv ∧ rv ≤ 99 ∧ (nz → 10 ≤ rv)) ∨ (j = 3 ∧ cv = rv ∧ rv ≤ 999 ∧ (nz → 100 ≤ rv)) ∨ (4 ≤ j ∧ cv ≤ 1000 ∧ rv = 1000 ∧ (nz → cv = 1000))
theorem t_inv_step {j cv rv x : Nat} {nz : Prop} (h : t_inv j cv rv nz) (h1 : 48 ≤ x) (h2 : x ≤ 57) (h0 : j = 0 → nz → 49 ≤ x) : t_inv (j + 1) (if cv * 10 + (x - 48) < 1000 then cv * 10 + (x - 48) else 1000) (if 3 ≤ j then 1000 else 10 * rv + (x - 48)) nz := by
  obtain ⟨d, hd, rfl⟩ : ∃ d, d ≤ 9 ∧ x = 48 + d := ⟨x - 48, by omega, by omega⟩
  rw [show 48 + d - 48 = d by omega]
  rcases h with ⟨rfl, rfl, rfl⟩ | ⟨rfl, rfl, q1, q2⟩ | ⟨rfl, rfl, q1, q2⟩ | ⟨rfl, rfl, q1, q2⟩ | ⟨q0, q1, rfl, q2⟩
  · rw [if_pos (by omega), if_neg (by omega)]
    exact Or.inr (Or.inl ⟨rfl, by omega, by omega, fun z => by have := h0 rfl z; omega⟩)
  · rw [if_pos (by omega), if_neg (by omega)]
    exact Or.inr (Or.inr (Or.inl ⟨rfl, by omega, by omega, fun z => by have := q2 z; omega⟩))
  · rw [if_pos (by omega), if_neg (by omega)]
    exact Or.inr (Or.inr (Or.inr (Or.inl ⟨rfl, by omega, by omega, fun z => by have := q2 z; omega⟩)))
  · rw [if_pos (show (3 : Nat) ≤ 3 by omega)]
    refine Or.inr (Or.inr (Or.inr (Or.inr ⟨by omega, by split <;> omega, rfl, fun z => ?_⟩)))
    have := q2 z
    rw [if_neg (by omega)]
  · rw [if_pos (show 3 ≤ j by omega)]
    refine Or.inr (Or.inr (Or.inr (Or.inr ⟨by omega, by split <;> omega, rfl, fun z => ?_⟩)))
    have := q2 z
    rw [if_neg (by omega)]
theorem t_inv_le {j cv rv : Nat} {nz : Prop} (h : t_inv j cv rv nz) : cv ≤ 1000 ∧ rv ≤ 1000 := by
  rcases h with ⟨rfl, rfl, rfl⟩ | ⟨rfl, rfl, q1, q2⟩ | ⟨rfl, rfl, q1, q2⟩ | ⟨rfl, rfl, q1, q2⟩ | ⟨q0, q1, rfl, q2⟩ <;> omega
theorem x_num_L {c : Nat → Nat} {len : Nat} {et ut : Nat → Int32} (hc : Chs c len et ut) {B : Nat} : ∀ n j cv rv : Nat, B + j ≤ 300 → t_inv j cv rv (c B ≠ 48) →
    ∃ cv' rv' : Nat, F_X2_readNumber_L8 et len n (B + j) (nI cv) = (t_run t_dg c len n (B + j), nI cv') ∧ F_X5_number_L9 len ut B n (B + j) (nI rv) = (t_run t_dg c len n (B + j), nI rv') ∧ t_inv (t_run t_dg c len n (B + j) - B) cv' rv' (c B ≠ 48) := by
  intro n
  induction n with
  | zero =>
    intro j cv rv hj hi
    exact ⟨cv, rv, rfl, rfl, by rw [t_run, show B + j - B = j by omega]; exact hi⟩
  | succ n ih =>
    intro j cv rv hj hi
    have hl := hc.1
    rw [F_X2_readNumber_L8, F_X5_number_L9, t_run]
    by_cases c1 : B + j < len
    · obtain ⟨b1, b2, b3, b4⟩ := hc.2 (B + j) c1
      have e := x_chIn b1 b3 b4 (lo := 48) (hi := 57) (lo' := 48) (hi' := 57) (by decide) (by decide) (by decide) (by decide)
      rw [if_neg (show ¬ len ≤ B + j by omega), if_neg (show ¬ len ≤ B + j by omega), x_byteAt hc _ (by omega), if_pos c1, x_nmE, x_dig b1, x_nmE]
      by_cases c2 : 48 ≤ c (B + j) ∧ c (B + j) ≤ 57
      · have e1 : t_dg (c (B + j)) = true := (t_dgE _).mpr c2
        have e2 : ¬ F_X5_in (ut (B + j)).toInt64 48 57 = 0 := fun q => e.mp q c2
        rw [if_pos e1, if_neg (show ¬ (1 : Int32) = 0 by decide), x_nmE, x_nmE, x_nmE, if_neg e2, x_nmE, if_pos (show B + j < len ∧ t_dg (c (B + j)) = true from ⟨c1, e1⟩)]
        obtain ⟨hcv, hrv⟩ := t_inv_le hi
        have ev : (if nI cv * 10 + nI (c (B + j)) - 48 < 1000 then nI cv * 10 + nI (c (B + j)) - 48 else 1000) = nI (if cv * 10 + (c (B + j) - 48) < 1000 then cv * 10 + (c (B + j) - 48) else 1000) := by
          have q1 : nI cv * 10 + nI (c (B + j)) - 48 = nI (cv * 10 + (c (B + j) - 48)) := by
            rw [show (10 : Int32) = nI 10 from rfl, pk_mul, nI_add, show (48 : Int32) = nI 48 from rfl, pk_sub (by omega)]
            congr 1
            omega
          rw [q1]
          by_cases q2 : cv * 10 + (c (B + j) - 48) < 1000
          · rw [if_pos q2, if_pos (show nI _ < 1000 from nI_lt (b := 1000) q2 (by omega))]
          · rw [if_neg q2, if_neg (show ¬ nI _ < 1000 from fun q => q2 ((nI_ltI (b := 1000) (by omega) (by omega)).mp q))]
            rfl
        have eu : (if 3 ≤ B + j - B then 1000 else 10 * nI rv + ut (B + j) - 48) = nI (if 3 ≤ j then 1000 else 10 * rv + (c (B + j) - 48)) := by
          rw [show B + j - B = j by omega]
          by_cases q2 : 3 ≤ j
          · rw [if_pos q2, if_pos q2]; rfl
          · rw [if_neg q2, if_neg q2, b3 (by omega), show (10 : Int32) = nI 10 from rfl, pk_mul, nI_add, show (48 : Int32) = nI 48 from rfl, pk_sub (by omega)]
            congr 1
            omega
        rw [ev, eu]
        refine ih (j + 1) _ _ (by omega) ?_
        exact t_inv_step hi c2.1 c2.2 (fun q1 q2 => by rw [q1, Nat.add_zero] at c2 ⊢; omega)
      · have e1 : ¬ t_dg (c (B + j)) = true := fun q => c2 ((t_dgE _).mp q)
        have e2 : F_X5_in (ut (B + j)).toInt64 48 57 = 0 := e.mpr c2
        rw [if_neg e1, if_pos rfl, x_nmE, if_pos e2, if_neg (show ¬ (B + j < len ∧ t_dg (c (B + j)) = true) from fun q => e1 q.2)]
        exact ⟨cv, rv, rfl, rfl, by rw [show B + j - B = j by omega]; exact hi⟩
    · rw [if_pos (show len ≤ B + j by omega), if_pos (show len ≤ B + j by omega), if_neg (show ¬ (B + j < len ∧ t_dg (c (B + j)) = true) from fun q => c1 q.1)]
      exact ⟨cv, rv, rfl, rfl, by rw [show B + j - B = j by omega]; exact hi⟩
