/-! the steps of the law: a token, both sides -/
def TokIs (c : Nat → Nat) (len : Nat) (ut : Nat → Int32) (A : Nat) (T : Int32 × Nat × Nat × Int32) : Prop :=
  (len ≤ A ∧ T = (0, A, A + 1, 0)) ∨ (A < len ∧ c A = 59 ∧ T = (1, A, A + 1, 0)) ∨
  (A < len ∧ t_dg (c A) = true ∧ ∃ cv rv : Nat, t_inv (t_run t_dg c len 301 A - A) cv rv (c A ≠ 48) ∧ F_X5_number_L9 len ut A 301 A 0 = (t_run t_dg c len 301 A, nI rv) ∧ T = ((if (if c A = 48 then if t_run t_dg c len 301 A ≤ A + 1 then (0 : Int32) else 1 else 0) = 0 then if cv ≤ 999 then 2 else 4 else 4), A, t_run t_dg c len 301 A, nI cv)) ∨
  (A < len ∧ t_lt (c A) = true ∧ T = ((t_cls (t_word c A (t_run t_lt c len 301 A - A)) 0).1, A, t_run t_lt c len 301 A, (t_cls (t_word c A (t_run t_lt c len 301 A - A)) 0).2)) ∨
  (A < len ∧ ¬ t_dg (c A) = true ∧ ¬ t_lt (c A) = true ∧ ¬ c A = 59 ∧ T = (4, A, A + 1, 0))
theorem x_tokn {c : Nat → Nat} {len : Nat} {et ut : Nat → Int32} (hc : Chs c len et ut) {N : Nat} (hN : N ≤ 301) {T : Int32 × Nat × Nat × Int32} (hT : F_X2_readToken et len N = T) : TokIs c len ut (t_skip c len N) T := by
  have hl := hc.1
  have hs : F_X2_readToken_L8 et len 301 N = t_skip c len N := x_skip4 hc 301 N (by omega)
  have hA : t_skip c len N ≤ 301 := by
    rw [t_skip]
    by_cases h : N ≤ len
    · have := t_run_le t_sp c len 301 N h; omega
    · rw [t_run, if_neg (fun q => h (by omega))]; exact hN
  rw [F_X2_readToken, hs, x_nmE] at hT
  generalize t_skip c len N = A at hT hA
  rw [x_byteAt hc A (by omega), x_nmE] at hT
  obtain ⟨u9, h9, hT⟩ := x_nmG hT
  by_cases c1 : A < len
  · have hb := (hc.2 A c1).1
    rw [if_pos c1, if_pos (show (0 : Int32) ≤ nI (c A) from nI_le (a := 0) (by omega) (by omega))] at h9
    by_cases c2 : c A = 59
    · rw [c2, if_pos (show nI 59 = 59 from rfl)] at h9
      subst h9
      exact Or.inr (Or.inl ⟨c1, c2, hT.symm⟩)
    · have c2' : ¬ nI (c A) = 59 := fun q => c2 ((nI_eq (b := 59) (by omega) (by omega)).mp q)
      rw [if_neg c2', x_dig hb] at h9
      by_cases c3 : t_dg (c A) = true
      · rw [if_pos c3] at h9
        obtain ⟨cv, rv, n1, n2, n3⟩ := x_num_L hc (B := A) 301 0 0 0 (by omega) (Or.inl ⟨rfl, rfl, rfl⟩)
        rw [Nat.add_zero, nI_0] at n1 n2
        rw [Nat.add_zero] at n3
        have hr : F_X2_readNumber et len A 0 = ((if (if c A = 48 then if t_run t_dg c len 301 A ≤ A + 1 then (0 : Int32) else 1 else 0) = 0 then if cv ≤ 999 then 2 else 4 else 4), t_run t_dg c len 301 A, nI cv) := by
          rw [F_X2_readNumber, n1, x_nmE, x_byteAt hc A (by omega), if_pos c1, x_nmE, x_nmE, x_nmE]
          dsimp only
          have e1 : (if nI (c A) = 48 then if t_run t_dg c len 301 A ≤ A + 1 then (0 : Int32) else 1 else 0) = (if c A = 48 then if t_run t_dg c len 301 A ≤ A + 1 then (0 : Int32) else 1 else 0) := by
            by_cases q : c A = 48
            · rw [if_pos q, if_pos (by rw [q]; rfl)]
            · rw [if_neg q, if_neg (show ¬ nI (c A) = 48 from fun z => q ((nI_eq (b := 48) (by omega) (by omega)).mp z))]
          have e2 : (if nI cv ≤ 999 then (2 : Int32) else 4) = (if cv ≤ 999 then 2 else 4) := by
            have := (t_inv_le n3).1
            by_cases q : cv ≤ 999
            · rw [if_pos q, if_pos (show nI cv ≤ 999 from nI_le (b := 999) q (by omega))]
            · rw [if_neg q, if_neg (show ¬ nI cv ≤ 999 from fun z => q ((nI_leI (b := 999) (by omega) (by omega)).mp z))]
          rw [e1, e2]
        rw [x_nmE, if_neg (show ¬ (1 : Int32) = 0 by decide), hr, x_nmE] at h9
        subst h9
        exact Or.inr (Or.inr (Or.inl ⟨c1, c3, cv, rv, n3, n2, hT.symm⟩))
      · rw [if_neg c3, x_nmE, if_pos rfl, x_let hb] at h9
        by_cases c4 : t_lt (c A) = true
        · rw [if_pos c4, x_nmE, if_neg (show ¬ (1 : Int32) = 0 by decide), x_word4 hc (by omega) rfl, x_nmE] at h9
          subst h9
          exact Or.inr (Or.inr (Or.inr (Or.inl ⟨c1, c4, hT.symm⟩)))
        · rw [if_neg c4, x_nmE, if_pos rfl] at h9
          subst h9
          exact Or.inr (Or.inr (Or.inr (Or.inr ⟨c1, c3, c4, c2, hT.symm⟩)))
  · rw [if_neg c1, if_neg (by decide)] at h9
    subst h9
    exact Or.inl ⟨by omega, hT.symm⟩
theorem t_cls_tok (l : List Nat) (x : Int32) : (t_cls l x).1 = 3 ∨ (t_cls l x).1 = 4 := by
  rw [t_cls]
  split
  · exact Or.inl rfl
  split
  · exact Or.inl rfl
  split
  · exact Or.inl rfl
  split
  · exact Or.inl rfl
  split
  · exact Or.inl rfl
  split
  · exact Or.inl rfl
  · exact Or.inr rfl
theorem t_dg_lt {x : Nat} (h : t_dg x = true) : ¬ t_lt x = true := by
  rw [t_dgE] at h
  rw [t_ltE]
  omega
theorem x_tokA {c : Nat → Nat} {len A : Nat} {ut : Nat → Int32} {T : Int32 × Nat × Nat × Int32} (h : TokIs c len ut A T) : T.2.1 = A ∧ (T.1 = 0 ↔ len ≤ A) ∧ (T.1 = 1 ↔ A < len ∧ c A = 59) ∧ (T.1 = 1 → T.2.2.1 = A + 1) := by
  rcases h with ⟨h1, rfl⟩ | ⟨h1, h2, rfl⟩ | ⟨h1, h2, cv, rv, h3, -, rfl⟩ | ⟨h1, h2, rfl⟩ | ⟨h1, h2, h3, h4, rfl⟩
  · exact ⟨rfl, ⟨fun _ => h1, fun _ => rfl⟩, ⟨fun q => absurd q (show ¬ (0 : Int32) = 1 by decide), fun q => by omega⟩, fun q => absurd q (show ¬ (0 : Int32) = 1 by decide)⟩
  · exact ⟨rfl, ⟨fun q => absurd q (show ¬ (1 : Int32) = 0 by decide), fun q => by omega⟩, ⟨fun _ => ⟨h1, h2⟩, fun _ => rfl⟩, fun _ => rfl⟩
  · rw [t_dgE] at h2
    have e : ∀ x : Int32, (x = 0 ∨ x = 1) → ¬ (if (if c A = 48 then if t_run t_dg c len 301 A ≤ A + 1 then (0 : Int32) else 1 else 0) = 0 then if cv ≤ 999 then (2 : Int32) else 4 else 4) = x := by
      intro x hx
      generalize (if c A = 48 then if t_run t_dg c len 301 A ≤ A + 1 then (0 : Int32) else 1 else 0) = y
      rcases hx with rfl | rfl
      · split
        · split <;> decide
        · decide
      · split
        · split <;> decide
        · decide
    exact ⟨rfl, ⟨fun q => absurd q (e 0 (Or.inl rfl)), fun q => by omega⟩, ⟨fun q => absurd q (e 1 (Or.inr rfl)), fun q => by omega⟩, fun q => absurd q (e 1 (Or.inr rfl))⟩
  · rw [t_ltE] at h2
    have e : ∀ x : Int32, (x = 0 ∨ x = 1) → ¬ (t_cls (t_word c A (t_run t_lt c len 301 A - A)) 0).1 = x := by
      intro x hx
      rcases t_cls_tok (t_word c A (t_run t_lt c len 301 A - A)) 0 with q | q <;> rw [q] <;> rcases hx with rfl | rfl <;> decide
    exact ⟨rfl, ⟨fun q => absurd q (e 0 (Or.inl rfl)), fun q => by omega⟩, ⟨fun q => absurd q (e 1 (Or.inr rfl)), fun q => by omega⟩, fun q => absurd q (e 1 (Or.inr rfl))⟩
  · exact ⟨rfl, ⟨fun q => absurd q (show ¬ (4 : Int32) = 0 by decide), fun q => by omega⟩, ⟨fun q => absurd q (show ¬ (4 : Int32) = 1 by decide), fun q => absurd q.2 h4⟩, fun q => absurd q (show ¬ (4 : Int32) = 1 by decide)⟩
theorem x_skipB {c : Nat → Nat} {len N : Nat} (h : N ≤ len) : N ≤ t_skip c len N ∧ t_skip c len N ≤ len := ⟨t_run_ge _ _ _ _ _, t_run_le _ _ _ _ _ h⟩
theorem x_blanksN {c : Nat → Nat} {len A : Nat} (h : ¬ t_dg (c A) = true ∨ len ≤ A) : t_run t_dg c len 301 A = A := by
  rw [t_run, if_neg]
  intro z
  rcases h with q | q
  · exact q z.2
  · omega
theorem x_no2 {c : Nat → Nat} {len A : Nat} {ut : Nat → Int32} {T : Int32 × Nat × Nat × Int32} (h : TokIs c len ut A T) (h2 : ¬ t_dg (c A) = true ∨ len ≤ A) : ¬ T.1 = 2 := by
  rcases h with ⟨h1, rfl⟩ | ⟨h1, h2, rfl⟩ | ⟨h1, h3, cv, rv, h4, h5, rfl⟩ | ⟨h1, h2, rfl⟩ | ⟨h1, h2, h3, h4, rfl⟩
  · exact show ¬ (0 : Int32) = 2 by decide
  · exact show ¬ (1 : Int32) = 2 by decide
  · rcases h2 with q | q
    · exact absurd h3 q
    · omega
  · intro z
    have z : (t_cls (t_word c A (t_run t_lt c len 301 A - A)) 0).1 = 2 := z
    rcases t_cls_tok (t_word c A (t_run t_lt c len 301 A - A)) 0 with q | q <;> rw [q] at z <;> exact absurd z (by decide)
  · exact show ¬ (4 : Int32) = 2 by decide
/-- a number: both sides -/
theorem x_number {c : Nat → Nat} {len : Nat} {et ut : Nat → Int32} (hc : Chs c len et ut) {N : Nat} (hN : N ≤ len) {lo hi : Nat} (hlo : lo ≤ 999) (hhi : hi ≤ 999) {T : Int32 × Nat × Nat × Int32} (hT : F_X2_readToken et len N = T) :
    ∃ (ok : Int32) (at' : Nat) (told' : Int32), F_X5_number len ut N (nI lo) (nI hi) = (ok, at', T.2.1, told') ∧ ((ok = 1 ∧ T.1 = 2 ∧ F_X4_outside T.2.2.2 (nI lo) (nI hi) = 0 ∧ told' = T.2.2.2 ∧ at' = T.2.2.1 ∧ N < at' ∧ at' ≤ len) ∨ (ok = 0 ∧ ¬ (T.1 = 2 ∧ F_X4_outside T.2.2.2 (nI lo) (nI hi) = 0))) := by
  have hl := hc.1
  have ht := x_tokn hc (by omega) hT
  obtain ⟨s1, s2⟩ := x_skipB (c := c) hN
  have hpl := (x_tokA ht).1
  rw [F_X5_number, x_blanks hc, x_nmE]
  dsimp only
  generalize t_skip c len N = A at ht s1 s2 hpl
  by_cases hd : A < len ∧ t_dg (c A) = true
  · obtain ⟨c1, c3⟩ := hd
    obtain ⟨b1, b2, b3, b4⟩ := hc.2 A c1
    have hE : A + 1 ≤ t_run t_dg c len 301 A := by
      rw [t_run, if_pos ⟨c1, c3⟩]
      exact t_run_ge _ _ _ _ _
    have hE2 : t_run t_dg c len 301 A ≤ len := t_run_le _ _ _ _ _ (by omega)
    have c3' := (t_dgE _).mp c3
    obtain ⟨cv, rv, h3, h4, h5⟩ : ∃ cv rv : Nat, t_inv (t_run t_dg c len 301 A - A) cv rv (c A ≠ 48) ∧ F_X5_number_L9 len ut A 301 A 0 = (t_run t_dg c len 301 A, nI rv) ∧ T = ((if (if c A = 48 then if t_run t_dg c len 301 A ≤ A + 1 then (0 : Int32) else 1 else 0) = 0 then if cv ≤ 999 then 2 else 4 else 4), A, t_run t_dg c len 301 A, nI cv) := by
      rcases ht with ⟨h1, h2⟩ | ⟨h1, h2, h3⟩ | ⟨h1, h2, cv2, rv2, h3, h4⟩ | ⟨h1, h2, h3⟩ | ⟨h1, h2, h3, h4, h5⟩
      · omega
      · omega
      · exact ⟨cv2, rv2, h3, h4⟩
      · exact absurd h2 (t_dg_lt c3)
      · exact absurd c3 h2
    subst h5
    rw [h4, x_nmE, x_nmE, x_nmE]
    dsimp only
    generalize t_run t_dg c len 301 A = E at hE hE2 h3
    have hle := t_inv_le h3
    have hu : (ut A = 48) ↔ c A = 48 := x_chE b1 b3 b4 48 (by decide)
    rw [if_neg (show ¬ E ≤ A by omega)]
    -- a zero ahead
    by_cases z0 : c A = 48 ∧ A + 1 < E
    · have e1 : (if c A = 48 then if E ≤ A + 1 then (0 : Int32) else 1 else 0) = 1 := by rw [if_pos z0.1, if_neg (by omega)]
      rw [if_pos (hu.mpr z0.1), if_neg (show ¬ E = A + 1 by omega), if_pos rfl, e1, if_neg (show ¬ (1 : Int32) = 0 by decide)]
      exact ⟨_, _, _, rfl, Or.inr ⟨rfl, fun q => absurd q.1 (by decide)⟩⟩
    · have e1 : (if c A = 48 then if E ≤ A + 1 then (0 : Int32) else 1 else 0) = 0 := by
        by_cases q : c A = 48
        · rw [if_pos q, if_pos (by omega)]
        · rw [if_neg q]
      have e2 : (if ut A = 48 then if E = A + 1 then (1 : Int32) else 0 else 1) = 1 := by
        by_cases q : c A = 48
        · rw [if_pos (hu.mpr q), if_pos (by omega)]
        · rw [if_neg (fun z => q (hu.mp z))]
      have e3 : cv = rv := by
        rcases h3 with ⟨q1, q2, q3⟩ | ⟨q1, q2, q3⟩ | ⟨q1, q2, q3⟩ | ⟨q1, q2, q3⟩ | ⟨q1, q2, q3, q4⟩
        · omega
        · exact q2
        · exact q2
        · exact q2
        · rw [q3]
          by_cases q : c A = 48
          · omega
          · exact q4 q
      rw [e1, e2, if_pos rfl, if_neg (show ¬ (1 : Int32) = 0 by decide), ← e3]
      have h6 := x_in_iff (nI cv) (nI lo) (nI hi)
      have h7 := x_outside_iff (nI cv) (nI lo) (nI hi)
      by_cases q : F_X4_outside (nI cv) (nI lo) (nI hi) = 0
      · have q2 := h7.mp q
        have q3 : cv ≤ 999 := by
          have := (nI_leI (by omega) (by omega)).mp q2.2
          omega
        rw [x_nmE, if_neg (h6.mpr q2), if_pos q3]
        exact ⟨_, _, _, rfl, Or.inl ⟨rfl, rfl, q, rfl, rfl, by omega, hE2⟩⟩
      · have q2 : F_X5_in (nI cv).toInt64 (nI lo).toInt64 (nI hi).toInt64 = 0 := Decidable.byContradiction (fun z => q (h7.mpr (h6.mp z)))
        rw [x_nmE, if_pos q2]
        exact ⟨_, _, _, rfl, Or.inr ⟨rfl, fun z => q z.2⟩⟩
  · have hno : ¬ t_dg (c A) = true ∨ len ≤ A := by
      by_cases q : t_dg (c A) = true
      · exact Or.inr (by have : ¬ A < len := fun z => hd ⟨z, q⟩; omega)
      · exact Or.inl q
    obtain ⟨cv, rv, n1, n2, n3⟩ := x_num_L hc (B := A) 301 0 0 0 (by omega) (Or.inl ⟨rfl, rfl, rfl⟩)
    rw [Nat.add_zero, nI_0, x_blanksN hno] at n2
    rw [n2, x_nmE, if_pos (Nat.le_refl _), x_nmE, if_pos rfl, x_nmE, hpl]
    exact ⟨_, _, _, rfl, Or.inr ⟨rfl, fun q => x_no2 ht hno q.1⟩⟩
/-- the semicolon: both sides -/
theorem x_ends {c : Nat → Nat} {len : Nat} {et ut : Nat → Int32} (hc : Chs c len et ut) {N : Nat} (hN : N ≤ len) {T : Int32 × Nat × Nat × Int32} (hT : F_X2_readToken et len N = T) :
    ∃ e : Int32, F_X5_ends len ut N = (e, T.2.1 + 1, T.2.1) ∧ ((e = 1 ∧ T.1 = 1 ∧ T.2.2.1 = T.2.1 + 1 ∧ N ≤ T.2.1 ∧ T.2.1 < len) ∨ (e = 0 ∧ ¬ T.1 = 1)) := by
  have hl := hc.1
  have ht := x_tokn hc (by omega) hT
  obtain ⟨s1, s2⟩ := x_skipB (c := c) hN
  obtain ⟨hpl, -, h1, h2⟩ := x_tokA ht
  rw [F_X5_ends, x_blanks hc, x_nmE, x_nmE, hpl]
  dsimp only
  generalize t_skip c len N = A at ht s1 s2 hpl h1 h2
  by_cases c1 : A < len
  · obtain ⟨b1, b2, b3, b4⟩ := hc.2 A c1
    have hu : (ut A = 59) ↔ c A = 59 := x_chE b1 b3 b4 59 (by decide)
    rw [if_neg (by omega)]
    by_cases q : c A = 59
    · rw [if_pos (hu.mpr q)]
      have t1 := h1.mpr ⟨c1, q⟩
      exact ⟨1, rfl, Or.inl ⟨rfl, t1, h2 t1, s1, c1⟩⟩
    · rw [if_neg (fun z => q (hu.mp z))]
      exact ⟨0, rfl, Or.inr ⟨rfl, fun z => q (h1.mp z).2⟩⟩
  · rw [if_pos (by omega)]
    exact ⟨0, rfl, Or.inr ⟨rfl, fun z => c1 (h1.mp z).1⟩⟩
/-- a word: both sides -/
theorem x_wordT {c : Nat → Nat} {len : Nat} {et ut : Nat → Int32} (hc : Chs c len et ut) {N : Nat} (hN : N ≤ len) {T : Int32 × Nat × Nat × Int32} (hT : F_X2_readToken et len N = T) :
    ∃ (w : Int32) (at' : Nat), F_X5_word len ut N = (w, at', T.2.1) ∧ ((∃ v : Nat, v < 6 ∧ T.1 = 3 ∧ T.2.2.2 = nI v ∧ w = nI (if v < 2 then v + 4 else v - 2) ∧ at' = T.2.2.1 ∧ N < at' ∧ at' ≤ len) ∨ (w = -1 ∧ ¬ T.1 = 3)) := by
  have hl := hc.1
  have ht := x_tokn hc (by omega) hT
  obtain ⟨s1, s2⟩ := x_skipB (c := c) hN
  have hpl := (x_tokA ht).1
  rw [x_word5 hc rfl rfl, hpl]
  generalize t_skip c len N = A at ht s1 s2 hpl
  by_cases hd : A < len ∧ t_lt (c A) = true
  · obtain ⟨c1, c3⟩ := hd
    have hE : A + 1 ≤ t_run t_lt c len 301 A := by
      rw [t_run, if_pos ⟨c1, c3⟩]
      exact t_run_ge _ _ _ _ _
    have hE2 : t_run t_lt c len 301 A ≤ len := t_run_le _ _ _ _ _ (by omega)
    have h5 : T = ((t_cls (t_word c A (t_run t_lt c len 301 A - A)) 0).1, A, t_run t_lt c len 301 A, (t_cls (t_word c A (t_run t_lt c len 301 A - A)) 0).2) := by
      rcases ht with ⟨h1, h2⟩ | ⟨h1, h2, h3⟩ | ⟨h1, h2, cv2, rv2, h3, h4⟩ | ⟨h1, h2, h3⟩ | ⟨h1, h2, h3, h4, h5⟩
      · omega
      · rw [t_ltE] at c3; omega
      · exact absurd c3 (t_dg_lt h2)
      · exact h3
      · exact absurd c3 h3
    subst h5
    refine ⟨_, _, rfl, ?_⟩
    generalize t_run t_lt c len 301 A = E at hE hE2
    generalize t_word c A (E - A) = l
    dsimp only
    by_cases q2 : l = t_nm 2
    · subst q2
      exact Or.inl ⟨2, by decide, by decide, by decide, by decide, rfl, by omega, hE2⟩
    by_cases q3 : l = t_nm 3
    · subst q3
      exact Or.inl ⟨3, by decide, by decide, by decide, by decide, rfl, by omega, hE2⟩
    by_cases q4 : l = t_nm 4
    · subst q4
      exact Or.inl ⟨4, by decide, by decide, by decide, by decide, rfl, by omega, hE2⟩
    by_cases q5 : l = t_nm 5
    · subst q5
      exact Or.inl ⟨5, by decide, by decide, by decide, by decide, rfl, by omega, hE2⟩
    by_cases q0 : l = t_nm 0
    · subst q0
      exact Or.inl ⟨0, by decide, by decide, by decide, by decide, rfl, by omega, hE2⟩
    by_cases q1 : l = t_nm 1
    · subst q1
      exact Or.inl ⟨1, by decide, by decide, by decide, by decide, rfl, by omega, hE2⟩
    · refine Or.inr ⟨by rw [t_ref, if_neg q2, if_neg q3, if_neg q4, if_neg q5, if_neg q0, if_neg q1], ?_⟩
      rw [t_cls, if_neg q5, if_neg q4, if_neg q3, if_neg q2, if_neg q1, if_neg q0]
      exact show ¬ (4 : Int32) = 3 by decide
  · have hno : t_run t_lt c len 301 A = A := by
      rw [t_run, if_neg hd]
    rw [hno, Nat.sub_self]
    refine ⟨_, _, rfl, Or.inr ⟨show t_ref [] = -1 by decide, ?_⟩⟩
    rcases ht with ⟨h1, rfl⟩ | ⟨h1, h2, rfl⟩ | ⟨h1, h2, cv, rv, h3, h4, rfl⟩ | ⟨h1, h2, rfl⟩ | ⟨h1, h2, h3, h4, rfl⟩
    · exact show ¬ (0 : Int32) = 3 by decide
    · exact show ¬ (1 : Int32) = 3 by decide
    · dsimp only
      generalize (if c A = 48 then if t_run t_dg c len 301 A ≤ A + 1 then (0 : Int32) else 1 else 0) = y
      split
      · split <;> decide
      · decide
    · exact absurd ⟨h1, h2⟩ hd
    · exact show ¬ (4 : Int32) = 3 by decide
