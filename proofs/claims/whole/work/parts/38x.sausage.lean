/-! the steps of the law: sausage -/
theorem x_tokSkip {c : Nat → Nat} {len : Nat} {et ut : Nat → Int32} (hc : Chs c len et ut) {N : Nat} (hN : N ≤ len) : F_X2_readToken et len (t_skip c len N) = F_X2_readToken et len N := by
  have hl := hc.1
  obtain ⟨s1, s2⟩ := x_skipB (c := c) hN
  have e1 : F_X2_readToken_L8 et len 301 N = t_skip c len N := x_skip4 hc 301 N (by omega)
  have e2 : F_X2_readToken_L8 et len 301 (t_skip c len N) = t_skip c len N := (x_skip4 hc 301 _ (by omega)).trans (t_run_idem t_sp c len 300 N (by omega))
  rw [F_X2_readToken, F_X2_readToken, e1, e2]
theorem x_hs {len : Nat} {ut is doings doing : Nat → Int32} {A : Nat} {told st bt : Int32} (hst : st = 0 ∨ st = 1) (hbt : bt = 0 ∨ bt = 1) : ((F_X5_isItem len ut A told is doings doing st bt).2.2.2.2.1 = 0 ∨ (F_X5_isItem len ut A told is doings doing st bt).2.2.2.2.1 = 1) ∧ ((F_X5_isItem len ut A told is doings doing st bt).2.2.2.2.2.1 = 0 ∨ (F_X5_isItem len ut A told is doings doing st bt).2.2.2.2.2.1 = 1) := by
  obtain ⟨w, hw⟩ : ∃ w, F_X5_isItem len ut A told is doings doing st bt = w := ⟨_, rfl⟩
  rw [hw]
  rw [F_X5_isItem] at hw
  obtain ⟨u5, h5, hw⟩ := x_nmG hw
  obtain ⟨u15, h15, hw⟩ := x_nmG hw
  obtain ⟨u19, h19, hw⟩ := x_nmG hw
  subst hw
  dsimp only
  clear h19
  by_cases c1 : u5.1 < 0
  · rw [if_pos c1] at h15
    subst h15
    exact ⟨hst, hbt⟩
  · rw [if_neg c1] at h15
    by_cases c2 : u5.1 = 4
    · rw [if_pos c2] at h15
      have e : (F_X5_isSkin len ut u5.2.1 u5.2.2 told is st).2.2.2.2.1 = 1 := by rw [F_X5_isSkin, x_nmE, x_nmE]
      generalize F_X5_isSkin len ut u5.2.1 u5.2.2 told is st = u59 at h15 e
      rw [x_nmE] at h15
      subst h15
      split
      · exact ⟨Or.inr e, hbt⟩
      · exact ⟨Or.inr e, hbt⟩
    · rw [if_neg c2] at h15
      by_cases c3 : u5.1 = 5
      · rw [if_pos c3] at h15
        have e : (F_X5_isBend len ut u5.2.1 u5.2.2 told is bt).2.2.2.2.1 = 0 ∨ (F_X5_isBend len ut u5.2.1 u5.2.2 told is bt).2.2.2.2.1 = 1 := by
          rw [F_X5_isBend]
          by_cases d1 : bt = 0
          · rw [if_pos d1, x_nmE]
            split
            · exact hbt
            · rw [x_nmE, x_nmE, x_nmE]; exact Or.inr rfl
          · rw [if_neg d1]; exact hbt
        generalize F_X5_isBend len ut u5.2.1 u5.2.2 told is bt = u49 at h15 e
        rw [x_nmE] at h15
        subst h15
        split
        · exact ⟨hst, e⟩
        · exact ⟨hst, e⟩
      · rw [if_neg c3] at h15
        generalize F_X5_isDoing len ut u5.2.1 u5.2.2 told doings doing u5.1 = u39 at h15
        rw [x_nmE] at h15
        subst h15
        split
        · exact ⟨hst, hbt⟩
        · exact ⟨hst, hbt⟩
def x_ra (et : Nat → Int32) (len n k : Nat) (T : TTok) (nums : Nat → Int32) (st bt : Int32) (rc : TRec) : TU := match rc with
  | (r0, r1, r2, r3, r4, r5, r6, r7, r8, m, kinds, firsts, secs) => F_X2_readAll_L21 et len n k T.1 T.2.1 T.2.2.1 T.2.2.2 st bt nums r0 r1 r2 r3 r4 r5 r6 r7 r8 m kinds firsts secs
theorem x_raS (et : Nat → Int32) (len n k : Nat) (T : TTok) (nums : Nat → Int32) (st bt : Int32) (rc : TRec) (hk : ¬ 300 < k) {T' : TTok} (hT : F_X2_readToken et len T.2.2.1 = T') {u : TU} (hu : x_ri et len nums T' st bt rc = u) :
    x_ra et len (n + 1) k T nums st bt rc = if T'.1 = 0 then (nI k, T'.1, T'.2.1, T'.2.2.1, T'.2.2.2, st, bt, nums, rc) else if u.1 = 0 then ((-10) - nI u.2.2.1, u.2) else x_ra et len n (k + 1) (u.2.1, u.2.2.1, u.2.2.2.1, u.2.2.2.2.1) u.2.2.2.2.2.2.2.1 u.2.2.2.2.2.1 u.2.2.2.2.2.2.1 u.2.2.2.2.2.2.2.2 := by
  obtain ⟨r0, r1, r2, r3, r4, r5, r6, r7, r8, m, kinds, firsts, secs⟩ := rc
  simp only [x_ri] at hu
  simp only [x_ra]
  rw [F_X2_readAll_L21, if_neg hk, hT, x_nmE]
  by_cases c1 : T'.1 = 0
  · rw [if_pos c1, if_pos c1]
  · rw [if_neg c1, if_neg c1, hu, x_nmE]
theorem x_frTrans {is doings doing is1 doings1 doing1 is2 doings2 doing2 : Nat → Int32} (h1 : FR is doings doing is1 doings1 doing1) (h2 : FR is1 doings1 doing1 is2 doings2 doing2) : FR is doings doing is2 doings2 doing2 :=
  And.intro (fun q hq => (h2.1 q hq).trans (h1.1 q hq)) (And.intro (h2.2.1.trans h1.2.1) (And.intro (fun q hq => (h2.2.2.1 q hq).trans (h1.2.2.1 q hq)) h2.2.2.2))
def ReadIs (is doings doing : Nat → Int32) (u : TU) (w : Int32 × Nat × Nat × Int32 × Int32 × Int32 × Int32 × (Nat → Int32) × (Nat → Int32) × (Nat → Int32)) : Prop :=
  FR is doings doing w.2.2.2.2.2.2.2.1 w.2.2.2.2.2.2.2.2.1 w.2.2.2.2.2.2.2.2.2 ∧
  ((∃ p : Nat, p ≤ 300 ∧ u.1 = (-10) - nI p ∧ w.1 = nI p ∧ ∀ k : Nat, k < 12 → (u.2.2.2.2.2.2.2.2.2.2.2.2.2.2.2.2.2.2.2.2 k).toNatClampNeg ≤ 99 ∧ u.2.2.2.2.2.2.2.2.2.2.2.2.2.2.2.2.2.2.2.2 k = nI (u.2.2.2.2.2.2.2.2.2.2.2.2.2.2.2.2.2.2.2.2 k).toNatClampNeg) ∨
   (∃ k : Nat, k ≤ 300 ∧ u.1 = nI k ∧ w.1 = -9 ∧ w.2.2.2.2.1 = nI k ∧ RelD u.2.2.2.2.2.2.2.2 w.2.2.2.2.2.2.2.1 w.2.2.2.2.2.2.2.2.1 w.2.2.2.2.2.2.2.2.2))
theorem x_reads_L {c : Nat → Nat} {len : Nat} {et ut : Nat → Int32} (hc : Chs c len et ut) : ∀ (n n2 k : Nat) (T : TTok) (nums : Nat → Int32) (st bt told : Int32) (rc : TRec) (bg : Nat) (is doings doing : Nat → Int32), len - T.2.2.1 < n → len - T.2.2.1 < n2 → k ≤ T.2.2.1 → T.2.2.1 ≤ len → (st = 0 ∨ st = 1) → (bt = 0 ∨ bt = 1) → RelD rc is doings doing → Bk doing →
    ReadIs is doings doing (x_ra et len n k T nums st bt rc) (F_X5_reads_L130 len ut n2 (t_skip c len T.2.2.1) bg told (nI k) st bt is doings doing) := by
  have hl := hc.1
  intro n
  induction n with
  | zero => intro n2 k T nums st bt told rc bg is doings doing a; exact absurd a (Nat.not_lt_zero _)
  | succ n ih =>
    intro n2 k T nums st bt told rc bg is doings doing a b hk hN hst hbt hrd hbk
    cases n2 with
    | zero => exact absurd b (Nat.not_lt_zero _)
    | succ n2 =>
      obtain ⟨T', hT⟩ : ∃ T', F_X2_readToken et len T.2.2.1 = T' := ⟨_, rfl⟩
      obtain ⟨s1, s2⟩ := x_skipB (c := c) hN
      obtain ⟨t1, t2, -, -⟩ := x_tokA (x_tokn hc (by omega) hT)
      have hT2 : F_X2_readToken et len (t_skip c len T.2.2.1) = T' := (x_tokSkip hc hN).trans hT
      rw [x_raS et len n k T nums st bt rc (by omega) hT rfl, F_X5_reads_L130]
      generalize t_skip c len T.2.2.1 = A at s1 s2 t1 t2 hT2
      by_cases c1 : len ≤ A
      · rw [if_pos (t2.mpr c1), if_pos c1]
        exact And.intro (x_frSame hbk (fun _ _ => rfl)) (Or.inr ⟨k, by omega, rfl, rfl, rfl, hrd⟩)
      · rw [if_neg (fun z => c1 (t2.mp z)), if_neg c1]
        have hi := x_item (told := told) (nums := nums) (is := is) hc s2 hT2 t1 hst hbt hrd hbk
        obtain ⟨v1, v2⟩ := x_hs (len := len) (ut := ut) (is := is) (doings := doings) (doing := doing) (A := A) (told := told) hst hbt
        generalize F_X5_isItem len ut A told is doings doing st bt = w at hi v1 v2
        generalize x_ri et len nums T' st bt rc = u at hi
        obtain ⟨hf, hi⟩ := hi
        rw [x_nmE]
        rcases hi with ⟨q1, q2, q3, q4, q5⟩ | ⟨q1, q2, q3, q4, q5, q6, q7, q8⟩
        · rw [if_pos q1, if_pos q2, x_nmE]
          refine And.intro hf (Or.inl ⟨w.2.2.1, by omega, by rw [q3], ?_, q5⟩)
          dsimp only
          by_cases z : len ≤ w.2.2.1
          · rw [if_pos z, Nat.le_antisymm z q4]
          · rw [if_neg z]
        · rw [if_neg (by rw [q1]; decide), if_neg (by rw [q2]; decide), x_blanks hc, x_nmE]
          dsimp only
          have v3 : u.2.2.2.2.2.1 = 0 ∨ u.2.2.2.2.2.1 = 1 := by rw [q6]; exact v1
          have v4 : u.2.2.2.2.2.2.1 = 0 ∨ u.2.2.2.2.2.2.1 = 1 := by rw [q7]; exact v2
          rw [← q3] at q4 q5 ⊢
          rw [← q6]
          have l := ih n2 (k + 1) (u.2.1, u.2.2.1, u.2.2.2.1, u.2.2.2.2.1) u.2.2.2.2.2.2.2.1 u.2.2.2.2.2.1 u.2.2.2.2.2.2.1 w.2.2.2.1 u.2.2.2.2.2.2.2.2 (t_skip c len u.2.2.2.1) w.2.2.2.2.2.2.1 w.2.2.2.2.2.2.2.1 w.2.2.2.2.2.2.2.2 (by dsimp only; omega) (by dsimp only; omega) (by dsimp only; omega) (by dsimp only; omega) v3 v4 q8 hf.2.2.2
          rw [nI_1, ← q7]
          exact And.intro (x_frTrans hf l.1) l.2
theorem x_L29 {is : Nat → Int32} : ∀ q : Nat, F_X5_reads_L29 (9 + 1) 0 is q = if 9 ≤ q ∧ q < 18 then [3, 200, 10, 300, 300, 40, 2, 4, 0].getD (q - 9) 0 else is q := by
  have e : ∀ (n k : Nat) (f : Nat → Int32), 9 - k < n → ∀ q : Nat, F_X5_reads_L29 n k f q = if 9 + k ≤ q ∧ q < 18 then [3, 200, 10, 300, 300, 40, 2, 4, 0].getD (q - 9) 0 else f q := by
    intro n
    induction n with
    | zero => intro k f a; exact absurd a (Nat.not_lt_zero _)
    | succ n ih =>
      intro k f a q
      rw [F_X5_reads_L29]
      by_cases c : 9 ≤ k
      · rw [if_pos c, if_neg (fun z => by omega)]
      · have hv : ∀ j : Fin 9, (if j.val = 0 then (3 : Int32) else if j.val = 1 then 200 else if j.val = 2 then 10 else if j.val = 3 then 300 else if j.val = 4 then 300 else if j.val = 5 then 40 else if j.val = 6 then 2 else if j.val = 7 then 4 else 0) = [3, 200, 10, 300, 300, 40, 2, 4, 0].getD j.val 0 := by decide +kernel
        have hv := hv ⟨k, by omega⟩
        dsimp only at hv
        rw [if_neg c, hv, x_nmE, x_nmE, ih (k + 1) _ (by omega) q]
        by_cases c2 : q = 9 + k
        · subst c2
          rw [if_neg (show ¬ (9 + (k + 1) ≤ 9 + k ∧ 9 + k < 18) from fun z => by omega), x_updS, if_pos (show 9 + k ≤ 9 + k ∧ 9 + k < 18 from ⟨Nat.le_refl _, by omega⟩), show 9 + k - 9 = k by omega]
        · rw [x_updN _ _ c2]
          by_cases c3 : 9 + (k + 1) ≤ q ∧ q < 18
          · rw [if_pos c3, if_pos (show 9 + k ≤ q ∧ q < 18 from ⟨by omega, c3.2⟩)]
          · rw [if_neg c3, if_neg (show ¬ (9 + k ≤ q ∧ q < 18) from fun z => c3 ⟨by omega, z.2⟩)]
  intro q
  exact e (9 + 1) 0 is (by omega) q
theorem x_L16 {is : Nat → Int32} : ∀ q : Nat, F_X5_sausage_L16 (9 + 1) 0 is q = if q < 9 then is (9 + q) else is q := by
  have e : ∀ (n k : Nat) (f : Nat → Int32), 9 - k < n → (∀ q : Nat, k ≤ q → f q = is q) → ∀ q : Nat, F_X5_sausage_L16 n k f q = if k ≤ q ∧ q < 9 then is (9 + q) else f q := by
    intro n
    induction n with
    | zero => intro k f a; exact absurd a (Nat.not_lt_zero _)
    | succ n ih =>
      intro k f a hf q
      rw [F_X5_sausage_L16]
      by_cases c : 9 ≤ k
      · rw [if_pos c, if_neg (show ¬ (k ≤ q ∧ q < 9) from fun z => by omega)]
      · rw [if_neg c, x_nmE, hf (9 + k) (by omega), ih (k + 1) _ (by omega) (fun q hq => by rw [x_updN _ _ (by omega)]; exact hf q (by omega)) q]
        by_cases c2 : q = k
        · subst c2
          rw [if_neg (show ¬ (q + 1 ≤ q ∧ q < 9) from fun z => by omega), x_updS, if_pos (show q ≤ q ∧ q < 9 from ⟨Nat.le_refl _, by omega⟩)]
        · rw [x_updN _ _ c2]
          by_cases c3 : k + 1 ≤ q ∧ q < 9
          · rw [if_pos c3, if_pos (show k ≤ q ∧ q < 9 from ⟨by omega, c3.2⟩)]
          · rw [if_neg c3, if_neg (show ¬ (k ≤ q ∧ q < 9) from fun z => c3 ⟨by omega, z.2⟩)]
  intro q
  rw [e (9 + 1) 0 is (by omega) (fun _ _ => rfl) q]
  by_cases c : q < 9
  · rw [if_pos c, if_pos (show 0 ≤ q ∧ q < 9 from ⟨Nat.zero_le _, c⟩)]
  · rw [if_neg c, if_neg (show ¬ (0 ≤ q ∧ q < 9) from fun z => c z.2)]
theorem x_L57 {doing : Nat → Int32} : ∀ q : Nat, F_X5_sausage_L57 (36 + 1) 0 doing q = if q < 36 then doing (36 + q) else doing q := by
  have e : ∀ (n k : Nat) (f : Nat → Int32), 36 - k < n → (∀ q : Nat, k ≤ q → f q = doing q) → ∀ q : Nat, F_X5_sausage_L57 n k f q = if k ≤ q ∧ q < 36 then doing (36 + q) else f q := by
    intro n
    induction n with
    | zero => intro k f a; exact absurd a (Nat.not_lt_zero _)
    | succ n ih =>
      intro k f a hf q
      rw [F_X5_sausage_L57]
      by_cases c : 36 ≤ k
      · rw [if_pos c, if_neg (show ¬ (k ≤ q ∧ q < 36) from fun z => by omega)]
      · rw [if_neg c, x_nmE, hf (36 + k) (by omega), ih (k + 1) _ (by omega) (fun q hq => by rw [x_updN _ _ (by omega)]; exact hf q (by omega)) q]
        by_cases c2 : q = k
        · subst c2
          rw [if_neg (show ¬ (q + 1 ≤ q ∧ q < 36) from fun z => by omega), x_updS, if_pos (show q ≤ q ∧ q < 36 from ⟨Nat.le_refl _, by omega⟩)]
        · rw [x_updN _ _ c2]
          by_cases c3 : k + 1 ≤ q ∧ q < 36
          · rw [if_pos c3, if_pos (show k ≤ q ∧ q < 36 from ⟨by omega, c3.2⟩)]
          · rw [if_neg c3, if_neg (show ¬ (k ≤ q ∧ q < 36) from fun z => c3 ⟨by omega, z.2⟩)]
  intro q
  rw [e (36 + 1) 0 doing (by omega) (fun _ _ => rfl) q]
  by_cases c : q < 36
  · rw [if_pos c, if_pos (show 0 ≤ q ∧ q < 36 from ⟨Nat.zero_le _, c⟩)]
  · rw [if_neg c, if_neg (show ¬ (0 ≤ q ∧ q < 36) from fun z => c z.2)]
theorem x_readAll {c : Nat → Nat} {len : Nat} {et ut : Nat → Int32} (hc : Chs c len et ut) {nums dk df ds is doings doing : Nat → Int32} {tok val told : Int32} {pl : Nat} (hds : ∀ k : Nat, k < 12 → (ds k).toNatClampNeg ≤ 99 ∧ ds k = nI (ds k).toNatClampNeg) (hbk : Bk doing) :
    ReadIs is doings doing (F_X2_readAll et len nums tok pl val dk df ds) (F_X5_reads len ut told is doings doing) := by
  rw [F_X2_readAll, F_X3_setAtFirst, x_nmE, F_X5_reads, x_nmE, x_nmE, x_blanks hc, x_nmE]
  dsimp only
  have hrd : RelD (3, 200, 10, 300, 300, 40, 2, 4, 0, 0, dk, df, ds) (F_X5_reads_L29 (9 + 1) 0 is) (upd doings 1 0) doing := by
    refine And.intro (And.intro ⟨⟨by decide, by decide⟩, ⟨by decide, by decide⟩, ⟨by decide, by decide⟩, ⟨by decide, by decide⟩, ⟨by decide, by decide⟩, ⟨by decide, by decide⟩, ⟨by decide, by decide⟩, ⟨by decide, by decide⟩, ⟨by decide, by decide⟩⟩ (And.intro (by decide) (And.intro hds (fun k hk => absurd hk (Nat.not_lt_zero _))))) (And.intro ⟨?_, ?_, ?_, ?_, ?_, ?_, ?_, ?_, ?_⟩ (And.intro (x_updS _ _ _) (fun k hk => absurd hk (Nat.not_lt_zero _))))
    all_goals (rw [x_L29, if_pos (by decide)]; decide)
  have l := x_reads_L hc (301 + 1) 301 0 (tok, pl, 0, val) nums 0 0 told _ (t_skip c len 0) _ _ _ (by dsimp only; have := hc.1; omega) (by dsimp only; have := hc.1; omega) (Nat.le_refl _) (Nat.zero_le _) (Or.inl rfl) (Or.inl rfl) hrd hbk
  obtain ⟨l1, l2⟩ := l
  refine And.intro (x_frTrans ?_ l1) l2
  exact And.intro (fun q hq => by rw [x_L29, if_neg (fun z => by omega)]) (And.intro (x_updN _ _ (by omega)) (And.intro (fun _ _ => rfl) hbk))
theorem s_sausage {t_kept : Nat → Int32} {t_heats : Nat → Int32} {t_salts : Nat → Int32} {t_crumbsOf : Nat → Int32} {t_tests : Nat} {t_traced : Int64} {r_radius : Int32} {r_skin : Int32} {r_filling : Int32} {r_water : Int32} {r_ends : Int32} {r_thin : Int32} {r_chance : Int32} {r_bentFace : Int32} {r_bentBy : Int32} {r_doings : Nat} {r_kinds : Nat → Int32} {r_firsts : Nat → Int32} {r_seconds : Nat → Int32} {d_kinds : Nat → Int32} {d_firsts : Nat → Int32} {d_seconds : Nat → Int32} {e_text : Nat → Int32} {e_length : Nat} {e_numbers : Nat → Int32} {e_token : Int32} {e_place : Nat} {e_value : Int32} {m_down : Int32} {m_degrees : Nat → Int32} {m_brown : Nat → Int32} {m_core : Int32} {m_water : Int32} {m_pricked : Int32} {m_thinSpots : Int32} {m_seconds : Int32} {m_gone : Int32} {m_splitAt : Int32} {m_steam : Int32} {i0_down : Int32} {i0_degrees : Nat → Int32} {i0_brown : Nat → Int32} {i0_core : Int32} {i0_water : Int32} {i0_pricked : Int32} {i0_thinSpots : Int32} {i0_seconds : Int32} {i0_gone : Int32} {i0_splitAt : Int32} {i0_steam : Int32} {i1_down : Int32} {i1_degrees : Nat → Int32} {i1_brown : Nat → Int32} {i1_core : Int32} {i1_water : Int32} {i1_pricked : Int32} {i1_thinSpots : Int32} {i1_seconds : Int32} {i1_gone : Int32} {i1_splitAt : Int32} {i1_steam : Int32} {u_length : Nat} {u_text : Nat → Int32} {u_told : Int32} {u_is : Nat → Int32} {u_doings : Nat → Int32} {u_doing : Nat → Int32} {u_row : Nat → Int32} {u_isKept : Nat → Int32} {u_heats : Nat → Int32} {u_orders : Nat → Int32} {u_tests : Nat} {u_salt : Nat → Int32} {u_crumbs : Nat → Int32} {u_traced : Int64} {r_radius_19 : Int32} {r_skin_20 : Int32} {r_filling_21 : Int32} {r_water_22 : Int32} {r_ends_23 : Int32} {r_thin_24 : Int32} {r_chance_25 : Int32} {r_bentFace_26 : Int32} {r_bentBy_27 : Int32} {r_doings_28 : Nat} {r_kinds_29 : Nat → Int32} {r_firsts_30 : Nat → Int32} {r_seconds_31 : Nat → Int32} {d_radius_32 : Int32} {d_skin_33 : Int32} {d_filling_34 : Int32} {d_water_35 : Int32} {d_ends_36 : Int32} {d_thin_37 : Int32} {d_chance_38 : Int32} {d_bentFace_39 : Int32} {d_bentBy_40 : Int32} {d_doings_41 : Nat} {d_kinds_42 : Nat → Int32} {d_firsts_43 : Nat → Int32} {d_seconds_44 : Nat → Int32} {e_length_45 : Nat} {e_token_46 : Int32} {e_place_47 : Nat} {e_next_48 : Nat} {e_value_49 : Int32} {e_skinTold_50 : Int32} {e_bentTold_51 : Int32} {e_numbers_52 : Nat → Int32} {m_down_53 : Int32} {m_core_54 : Int32} {m_water_55 : Int32} {m_pricked_56 : Int32} {m_thinSpots_57 : Int32} {m_seconds_58 : Int32} {m_gone_59 : Int32} {m_splitAt_60 : Int32} {m_steam_61 : Int32} {m_degrees_62 : Nat → Int32} {m_brown_63 : Nat → Int32} {t_kept_64 : Nat → Int32} {u_length_68 : Nat} {u_at_69 : Nat} {u_begin_70 : Nat} {u_told_71 : Int32} {u_items_72 : Int32} {u_hasSkin_73 : Int32} {u_hasBend_74 : Int32} {u_is_75 : Nat → Int32} {u_doings_76 : Nat → Int32} {u_doing_77 : Nat → Int32} {u_row_78 : Nat → Int32} {u_isKept_79 : Nat → Int32} {z_65 z_80 : Int32} (hI : Inv (r_radius, r_skin, r_filling, r_water, r_ends, r_thin, r_chance, r_bentFace, r_bentBy, r_doings, r_kinds, r_firsts, r_seconds) e_length e_text (m_down, m_core, m_water, m_pricked, m_thinSpots, m_seconds, m_gone, m_splitAt, m_steam, m_degrees, m_brown) (i0_down, i0_core, i0_water, i0_pricked, i0_thinSpots, i0_seconds, i0_gone, i0_splitAt, i0_steam, i0_degrees, i0_brown) (i1_down, i1_core, i1_water, i1_pricked, i1_thinSpots, i1_seconds, i1_gone, i1_splitAt, i1_steam, i1_degrees, i1_brown) t_kept t_heats t_tests t_salts t_crumbsOf t_traced u_length u_text u_is u_doings u_doing u_row u_isKept u_heats u_orders u_tests u_salt u_crumbs u_traced d_seconds) (h4 : (z_65, r_radius_19, r_skin_20, r_filling_21, r_water_22, r_ends_23, r_thin_24, r_chance_25, r_bentFace_26, r_bentBy_27, r_doings_28, r_kinds_29, r_firsts_30, r_seconds_31, d_radius_32, d_skin_33, d_filling_34, d_water_35, d_ends_36, d_thin_37, d_chance_38, d_bentFace_39, d_bentBy_40, d_doings_41, d_kinds_42, d_firsts_43, d_seconds_44, e_length_45, e_token_46, e_place_47, e_next_48, e_value_49, e_skinTold_50, e_bentTold_51, e_numbers_52, m_down_53, m_core_54, m_water_55, m_pricked_56, m_thinSpots_57, m_seconds_58, m_gone_59, m_splitAt_60, m_steam_61, m_degrees_62, m_brown_63, t_kept_64) = F_X4_sausage t_kept r_radius r_skin r_filling r_water r_ends r_thin r_chance r_bentFace r_bentBy r_doings r_kinds r_firsts r_seconds d_kinds d_firsts d_seconds e_text e_length e_numbers e_token e_place e_value m_down m_degrees m_brown m_core m_water m_pricked m_thinSpots m_seconds m_gone m_splitAt m_steam) (h5 : (z_80, u_length_68, u_at_69, u_begin_70, u_told_71, u_items_72, u_hasSkin_73, u_hasBend_74, u_is_75, u_doings_76, u_doing_77, u_row_78, u_isKept_79) = F_X5_sausage u_length u_text u_told u_is u_doings u_doing u_row u_isKept) : z_65 = z_80 ∧ Inv (r_radius_19, r_skin_20, r_filling_21, r_water_22, r_ends_23, r_thin_24, r_chance_25, r_bentFace_26, r_bentBy_27, r_doings_28, r_kinds_29, r_firsts_30, r_seconds_31) e_length_45 e_text (m_down_53, m_core_54, m_water_55, m_pricked_56, m_thinSpots_57, m_seconds_58, m_gone_59, m_splitAt_60, m_steam_61, m_degrees_62, m_brown_63) (i0_down, i0_core, i0_water, i0_pricked, i0_thinSpots, i0_seconds, i0_gone, i0_splitAt, i0_steam, i0_degrees, i0_brown) (i1_down, i1_core, i1_water, i1_pricked, i1_thinSpots, i1_seconds, i1_gone, i1_splitAt, i1_steam, i1_degrees, i1_brown) t_kept_64 t_heats t_tests t_salts t_crumbsOf t_traced u_length_68 u_text u_is_75 u_doings_76 u_doing_77 u_row_78 u_isKept_79 u_heats u_orders u_tests u_salt u_crumbs u_traced d_seconds_44 := by
  obtain ⟨hA, hB, hC, hD, hE, hF, hG, hH, hK⟩ := hI
  obtain ⟨c, hc⟩ := x_chs hB
  have hun : u_length = e_length := hB.2.1
  subst hun
  have hr := x_readAll (nums := e_numbers) (dk := d_kinds) (df := d_firsts) (ds := d_seconds) (is := u_is) (doings := u_doings) (doing := u_doing) (tok := e_token) (val := e_value) (told := u_told) (pl := e_place) hc hK.2 hK.1
  rw [F_X4_sausage, x_nmE] at h4
  rw [F_X5_sausage, x_nmE] at h5
  generalize F_X2_readAll e_text u_length e_numbers e_token e_place e_value d_kinds d_firsts d_seconds = u at hr h4
  generalize F_X5_reads u_length u_text u_told u_is u_doings u_doing = w at hr h5
  obtain ⟨⟨g1, g2, g3, g4⟩, hr⟩ := hr
  rcases hr with ⟨p, p1, p2, p3, p4⟩ | ⟨k, k1, k2, k3, k4, k5⟩
  · have n0 : ¬ 0 ≤ u.1 := by
      have e : (-10 - nI p).toInt = -10 - (p : Int) := by
        have e1 : Btw (-10) (-10) (-10) := ⟨by decide, by decide⟩
        have e2 := x_btw_nI (k := p) (lo := 0) (hi := 300) (by omega) p1 (by decide)
        rw [x_bSub e1 e2 (by decide) (by decide), nI_toInt (by omega)]
        rfl
      rw [p2, Int32.le_iff_toInt_le, e, Int32.toInt_zero]
      omega
    have n1 : ¬ w.1 < 0 := by rw [p3]; exact Int32.not_lt.mpr (nI_le (a := 0) (by omega) (by omega))
    rw [if_neg n0] at h4
    rw [if_neg n1] at h5
    simp only [Prod.mk.injEq] at h4 h5
    obtain ⟨a0, rfl, rfl, rfl, rfl, rfl, rfl, rfl, rfl, rfl, rfl, rfl, rfl, rfl, rfl, rfl, rfl, rfl, rfl, rfl, rfl, rfl, rfl, rfl, rfl, rfl, rfl, rfl, rfl, rfl, rfl, rfl, rfl, rfl, rfl, rfl, rfl, rfl, rfl, rfl, rfl, rfl, rfl, rfl, rfl, rfl, rfl⟩ := h4
    obtain ⟨b0, rfl, rfl, rfl, rfl, rfl, rfl, rfl, rfl, rfl, rfl, rfl, rfl⟩ := h5
    refine And.intro (by rw [a0, b0, p2, p3]) (And.intro ?_ (And.intro hB (And.intro hC (And.intro hD (And.intro hE (And.intro hF (And.intro hG (And.intro hH (And.intro g4 p4)))))))))
    obtain ⟨o, ⟨i0, i1, i2, i3, i4, i5, i6, i7, i8⟩, d0, d1⟩ := hA
    refine And.intro o (And.intro ⟨?_, ?_, ?_, ?_, ?_, ?_, ?_, ?_, ?_⟩ (And.intro (g2.trans d0) (fun k hk => ?_)))
    · exact (g1 0 (by decide)).trans i0
    · exact (g1 1 (by decide)).trans i1
    · exact (g1 2 (by decide)).trans i2
    · exact (g1 3 (by decide)).trans i3
    · exact (g1 4 (by decide)).trans i4
    · exact (g1 5 (by decide)).trans i5
    · exact (g1 6 (by decide)).trans i6
    · exact (g1 7 (by decide)).trans i7
    · exact (g1 8 (by decide)).trans i8
    · have hn := o.2.1
      rw [g3 _ (by omega), g3 _ (by omega), g3 _ (by omega)]
      exact d1 k hk
  · have n0 : 0 ≤ u.1 := by rw [k2]; exact nI_le (a := 0) (by omega) (by omega)
    have n1 : w.1 < 0 := by rw [k3]; decide
    rw [if_pos n0, F_X3_take] at h4
    rw [if_pos n1] at h5
    obtain ⟨⟨tk, tf, ts⟩, hT⟩ : ∃ o, F_X3_take_L82 u.2.2.2.2.2.2.2.2.2.2.2.2.2.2.2.2.2.2.1 u.2.2.2.2.2.2.2.2.2.2.2.2.2.2.2.2.2.2.2.1 u.2.2.2.2.2.2.2.2.2.2.2.2.2.2.2.2.2.2.2.2 (12 + 1) 0 r_kinds r_firsts r_seconds = o := ⟨_, rfl⟩
    have ht := x_take_L (rk := u.2.2.2.2.2.2.2.2.2.2.2.2.2.2.2.2.2.2.1) (rf := u.2.2.2.2.2.2.2.2.2.2.2.2.2.2.2.2.2.2.2.1) (rs := u.2.2.2.2.2.2.2.2.2.2.2.2.2.2.2.2.2.2.2.2) (12 + 1) 0 r_kinds r_firsts r_seconds (by omega) (fun q hq => absurd hq (Nat.not_lt_zero _))
    rw [hT] at h4 ht
    obtain ⟨u1, u2, u3, u4, u5, u6, u7, u8, r0, r1, r2, r3, r4, r5, r6, r7, r8, n, kinds, firsts, secs⟩ := u
    obtain ⟨w1, w2, w3, w4, w5, w6, w7, wis, wdoings, wdoing⟩ := w
    dsimp only at g1 g2 g3 g4 k2 k4 k5 ht
    rw [x_nmE, x_nmE, x_nmE, x_nmE] at h4
    rw [x_nmE, x_nmE, x_nmE, x_nmE, x_nmE, x_nmE] at h5
    dsimp only at h4 h5
    obtain ⟨⟨o1, o2, o3, o4⟩, ⟨i0, i1, i2, i3, i4, i5, i6, i7, i8⟩, i9, i10⟩ := k5
    have hts : ∀ k : Nat, k < 12 → (ts k).toNatClampNeg ≤ 99 ∧ ts k = nI (ts k).toNatClampNeg := fun k hk => by rw [(ht k hk).2.2]; exact o3 k hk
    have hw3 : F_X5_sausage_L16 (9 + 1) 0 wis 3 = r3 := by rw [x_L16, if_pos (by decide)]; exact i3
    have hm := x_begin_mom (row := u_row) (degrees := m_degrees) (brown := m_brown) (a := 0) hw3 o1.2.2.2.1
    generalize F_X1_begin m_degrees m_brown r3 = M at hm h4
    obtain ⟨m1, m2, m3, m4, m5, m6, m7, m8, m9, m10, m11⟩ := M
    dsimp only at h4
    simp only [Prod.mk.injEq] at h4 h5
    obtain ⟨a0, rfl, rfl, rfl, rfl, rfl, rfl, rfl, rfl, rfl, rfl, rfl, rfl, rfl, rfl, rfl, rfl, rfl, rfl, rfl, rfl, rfl, rfl, rfl, rfl, rfl, rfl, rfl, rfl, rfl, rfl, rfl, rfl, rfl, rfl, rfl, rfl, rfl, rfl, rfl, rfl, rfl, rfl, rfl, rfl, rfl, rfl⟩ := h4
    obtain ⟨b0, rfl, rfl, rfl, rfl, rfl, rfl, rfl, rfl, rfl, rfl, rfl, rfl⟩ := h5
    refine And.intro (by rw [a0, b0, k2, k4]) (And.intro ?_ (And.intro ⟨Nat.zero_le _, rfl, fun k hk => absurd hk (Nat.not_lt_zero _)⟩ (And.intro hm (And.intro ?_ (And.intro hE (And.intro hF (And.intro hG (And.intro hH (And.intro (fun k hk => ?_) o3)))))))))
    · refine And.intro (And.intro o1 (And.intro o2 (And.intro hts (fun k hk => ?_)))) (And.intro ⟨?_, ?_, ?_, ?_, ?_, ?_, ?_, ?_, ?_⟩ (And.intro ?_ (fun k hk => ?_)))
      · have t := ht k (by omega)
        rw [t.1, t.2.1, t.2.2]
        exact o4 k hk
      · rw [x_L16, if_pos (by decide)]; exact i0
      · rw [x_L16, if_pos (by decide)]; exact i1
      · rw [x_L16, if_pos (by decide)]; exact i2
      · rw [x_L16, if_pos (by decide)]; exact i3
      · rw [x_L16, if_pos (by decide)]; exact i4
      · rw [x_L16, if_pos (by decide)]; exact i5
      · rw [x_L16, if_pos (by decide)]; exact i6
      · rw [x_L16, if_pos (by decide)]; exact i7
      · rw [x_L16, if_pos (by decide)]; exact i8
      · rw [x_updS]; exact i9
      · have t := ht k (by omega)
        rw [x_L57, x_L57, x_L57, if_pos (by omega), if_pos (by omega), if_pos (by omega), t.1, t.2.1, t.2.2, ← Nat.add_assoc, ← Nat.add_assoc]
        exact i10 k hk
    · have e : F_X4_sausage_L53 (2 + 1) 0 t_kept = upd (upd t_kept 0 0) 1 0 := rfl
      rw [e]
      refine ⟨⟨?_, Or.inl ?_, fun z => absurd z ?_⟩, ⟨?_, Or.inl ?_, fun z => absurd z ?_⟩⟩
      · rw [x_updN _ _ (by omega), x_updS, x_updN _ _ (by omega), x_updS]
      · rw [x_updN _ _ (by omega), x_updS]
      · rw [x_updN _ _ (by omega), x_updS]; decide
      · rw [x_updS, x_updS]
      · rw [x_updS]
      · rw [x_updS]; decide
    · rw [x_L57]
      by_cases z : 3 * k + 2 < 36
      · rw [if_pos z]
        have q := g4 (12 + k) (by omega)
        rw [show 3 * (12 + k) + 2 = 36 + (3 * k + 2) by omega] at q
        exact q
      · rw [if_neg z]
        exact g4 k hk
