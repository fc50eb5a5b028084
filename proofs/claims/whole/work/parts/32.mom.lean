/-! the steps of the law: the moment and its row -/
theorem x_mom0 {down core water pricked thin seconds gone splitAt steam : Int32} {degrees brown row : Nat → Int32} (h : RelMom (down, core, water, pricked, thin, seconds, gone, splitAt, steam, degrees, brown) row 0) :
    (∀ f : Nat, f < 4 → row f = degrees f ∧ row (5 + f) = brown f) ∧ row 4 = core ∧ row 9 = water ∧ row 10 = pricked ∧ row 11 = thin ∧ row 12 = seconds ∧ row 13 = gone ∧ row 14 = splitAt ∧ row 15 = steam ∧ row 16 = down := by
  obtain ⟨-, h1, h2⟩ := h
  refine ⟨fun f hf => ?_, h2⟩
  have h3 := h1 f hf
  rw [show 20 * 0 + f = f by omega, show 20 * 0 + 5 + f = 5 + f by omega] at h3
  exact h3
theorem x_mom0I {down core water pricked thin seconds gone splitAt steam : Int32} {degrees brown row : Nat → Int32} (hok : MomOk (down, core, water, pricked, thin, seconds, gone, splitAt, steam, degrees, brown)) (h1 : ∀ f : Nat, f < 4 → row f = degrees f ∧ row (5 + f) = brown f) (h2 : row 4 = core ∧ row 9 = water ∧ row 10 = pricked ∧ row 11 = thin ∧ row 12 = seconds ∧ row 13 = gone ∧ row 14 = splitAt ∧ row 15 = steam ∧ row 16 = down) : RelMom (down, core, water, pricked, thin, seconds, gone, splitAt, steam, degrees, brown) row 0 := by
  refine And.intro hok (And.intro (fun f hf => ?_) h2)
  rw [show 20 * 0 + f = f by omega, show 20 * 0 + 5 + f = 5 + f by omega]
  exact h1 f hf
theorem x_mom_row {mo : TMom} {row row' : Nat → Int32} {r : Nat} (h : RelMom mo row r) (hr : ∀ q : Nat, 20 * r ≤ q → q < 20 * r + 20 → row' q = row q) : RelMom mo row' r := by
  obtain ⟨d, c, w, pr, th, se, go, sp, st, de, br⟩ := mo
  obtain ⟨h0, h1, h2, h3, h4, h5, h6, h7, h8, h9, h10⟩ := h
  refine And.intro h0 (And.intro (fun f hf => ?_) (And.intro ?_ (And.intro ?_ (And.intro ?_ (And.intro ?_ (And.intro ?_ (And.intro ?_ (And.intro ?_ (And.intro ?_ ?_)))))))))
  · rw [hr _ (by omega) (by omega), hr _ (by omega) (by omega)]
    exact h1 f hf
  all_goals (rw [hr _ (by omega) (by omega)]; assumption)
theorem x_kept_row {i0 i1 : TMom} {kept isKept row row' : Nat → Int32} (h : (kept 0 = isKept 0 ∧ (kept 0 = 0 ∨ kept 0 = 1) ∧ (kept 0 = 1 → RelMom i0 row 1)) ∧ (kept 1 = isKept 1 ∧ (kept 1 = 0 ∨ kept 1 = 1) ∧ (kept 1 = 1 → RelMom i1 row 2))) (hr : ∀ q : Nat, 20 ≤ q → row' q = row q) :
    (kept 0 = isKept 0 ∧ (kept 0 = 0 ∨ kept 0 = 1) ∧ (kept 0 = 1 → RelMom i0 row' 1)) ∧ (kept 1 = isKept 1 ∧ (kept 1 = 0 ∨ kept 1 = 1) ∧ (kept 1 = 1 → RelMom i1 row' 2)) :=
  ⟨⟨h.1.1, h.1.2.1, fun z => x_mom_row (h.1.2.2 z) (fun q hq _ => hr q (by omega))⟩, ⟨h.2.1, h.2.2.1, fun z => x_mom_row (h.2.2.2 z) (fun q hq _ => hr q (by omega))⟩⟩
theorem x_maxc (c y : Int32) : (if c ≤ y then y else c) = (if c < y then y else c) := by
  by_cases h : c < y
  · rw [if_pos h, if_pos (Int32.le_of_lt h)]
  · rw [if_neg h]
    by_cases h2 : c ≤ y
    · rw [if_pos h2]
      exact Int32.le_antisymm (Int32.not_lt.mp h) h2
    · rw [if_neg h2]
theorem x_maxd (c y : Int32) : (if y ≤ c then c else y) = (if c < y then y else c) := by
  by_cases h : c < y
  · rw [if_pos h, if_neg (Int32.not_le.mpr h)]
  · rw [if_neg h, if_pos (Int32.not_lt.mp h)]
theorem x_minc (c y : Int32) : (if y ≤ c then y else c) = (if y < c then y else c) := by
  by_cases h : y < c
  · rw [if_pos h, if_pos (Int32.le_of_lt h)]
  · rw [if_neg h]
    by_cases h2 : y ≤ c
    · rw [if_pos h2]
      exact Int32.le_antisymm h2 (Int32.not_lt.mp h)
    · rw [if_neg h2]
theorem x_press {down core water pricked thin seconds gone splitAt steam filling : Int32} {degrees brown row is : Nat → Int32} {r : Nat} (h : RelMom (down, core, water, pricked, thin, seconds, gone, splitAt, steam, degrees, brown) row r) (hf : is 2 = filling) : F_X5_press is row r = F_X1_pressIn core pricked gone steam filling := by
  obtain ⟨⟨-, -, -, -, -, hg, -⟩, h1, h2, h3, h4, h5, h6, h7, h8, h9, h10⟩ := h
  simp only [F_X5_press, F_X1_pressIn, x_nm]
  rw [h7, h2, h9, h4, hf, x_maxd 0, x_maxc 0]
  rcases hg with rfl | rfl | rfl
  · rw [if_pos (by decide), if_pos rfl]
  · rw [if_neg (by decide), if_neg (by decide)]
  · rw [if_neg (by decide), if_neg (by decide)]
theorem x_holdsAt {down core water pricked thin seconds gone splitAt steam skin thinBy : Int32} {degrees brown row is : Nat → Int32} {r f : Nat} (h : RelMom (down, core, water, pricked, thin, seconds, gone, splitAt, steam, degrees, brown) row r) (hs : is 1 = skin) (ht : is 5 = thinBy) (hf : f < 4) : F_X5_holdsAt is row r f = F_X1_strengthAt degrees thin f skin thinBy := by
  obtain ⟨-, h1, h2, h3, h4, h5, h6, h7, h8, h9, h10⟩ := h
  have h0 : ¬ nI f < 0 := by
    have e : f = 0 ∨ f = 1 ∨ f = 2 ∨ f = 3 := by omega
    rcases e with rfl | rfl | rfl | rfl <;> decide
  have h00 : ¬ 4 ≤ f := by omega
  simp only [F_X5_holdsAt, F_X1_strengthAt, x_nm]
  simp only [if_neg h0, if_neg h00, (h1 f hf).1, h5, hs, ht, x_maxd 0, x_maxc 1]
  all_goals rfl
theorem x_seconds_L {n : Nat} {secs doings doing : Nat → Int32} (hn : n ≤ 12) (hd : doings 0 = nI n) (hs : ∀ k : Nat, k < n → doing (3 * k + 2) = secs k) : ∀ (n1 n2 : Nat) (acc : Int32) (k : Nat), n - k < n1 → n - k < n2 → F_X3_planSeconds_L4 n secs n1 acc k = F_X5_allSeconds_L4 doings doing n2 acc k := by
  intro n1
  induction n1 with
  | zero => intro n2 acc k h1; exact absurd h1 (Nat.not_lt_zero _)
  | succ n1 ih =>
    intro n2 acc k h1 h2
    cases n2 with
    | zero => exact absurd h2 (Nat.not_lt_zero _)
    | succ n2 =>
      rw [F_X3_planSeconds_L4, F_X5_allSeconds_L4, hd, nI_clamp (by omega)]
      by_cases c : n ≤ k
      · rw [if_pos c, if_pos c]
      · rw [if_neg c, if_neg c, if_neg (by omega), hs k (by omega)]
        exact ih n2 _ (k + 1) (by omega) (by omega)
theorem x_seconds {n : Nat} {secs doings doing : Nat → Int32} (hn : n ≤ 12) (hd : doings 0 = nI n) (hs : ∀ k : Nat, k < n → doing (3 * k + 2) = secs k) : F_X3_planSeconds n secs = F_X5_allSeconds doings doing := by
  simp only [F_X3_planSeconds, F_X5_allSeconds, x_nm]
  exact x_seconds_L hn hd hs _ _ 0 0 (by omega) (by rw [hd, nI_clamp (by omega)]; omega)
theorem s_told {t_kept : Nat → Int32} {t_heats : Nat → Int32} {t_salts : Nat → Int32} {t_crumbsOf : Nat → Int32} {t_tests : Nat} {t_traced : Int64} {r_radius : Int32} {r_skin : Int32} {r_filling : Int32} {r_water : Int32} {r_ends : Int32} {r_thin : Int32} {r_chance : Int32} {r_bentFace : Int32} {r_bentBy : Int32} {r_doings : Nat} {r_kinds : Nat → Int32} {r_firsts : Nat → Int32} {r_seconds : Nat → Int32} {d_seconds : Nat → Int32} {e_text : Nat → Int32} {e_length : Nat} {m_down : Int32} {m_degrees : Nat → Int32} {m_brown : Nat → Int32} {m_core : Int32} {m_water : Int32} {m_pricked : Int32} {m_thinSpots : Int32} {m_seconds : Int32} {m_gone : Int32} {m_splitAt : Int32} {m_steam : Int32} {i0_down : Int32} {i0_degrees : Nat → Int32} {i0_brown : Nat → Int32} {i0_core : Int32} {i0_water : Int32} {i0_pricked : Int32} {i0_thinSpots : Int32} {i0_seconds : Int32} {i0_gone : Int32} {i0_splitAt : Int32} {i0_steam : Int32} {i1_down : Int32} {i1_degrees : Nat → Int32} {i1_brown : Nat → Int32} {i1_core : Int32} {i1_water : Int32} {i1_pricked : Int32} {i1_thinSpots : Int32} {i1_seconds : Int32} {i1_gone : Int32} {i1_splitAt : Int32} {i1_steam : Int32} {u_length : Nat} {u_text : Nat → Int32} {u_is : Nat → Int32} {u_doings : Nat → Int32} {u_doing : Nat → Int32} {u_row : Nat → Int32} {u_isKept : Nat → Int32} {u_heats : Nat → Int32} {u_orders : Nat → Int32} {u_tests : Nat} {u_salt : Nat → Int32} {u_crumbs : Nat → Int32} {u_traced : Int64} {a1 : Int32} {z_83 z_86 : Int32} (hI : Inv (r_radius, r_skin, r_filling, r_water, r_ends, r_thin, r_chance, r_bentFace, r_bentBy, r_doings, r_kinds, r_firsts, r_seconds) e_length e_text (m_down, m_core, m_water, m_pricked, m_thinSpots, m_seconds, m_gone, m_splitAt, m_steam, m_degrees, m_brown) (i0_down, i0_core, i0_water, i0_pricked, i0_thinSpots, i0_seconds, i0_gone, i0_splitAt, i0_steam, i0_degrees, i0_brown) (i1_down, i1_core, i1_water, i1_pricked, i1_thinSpots, i1_seconds, i1_gone, i1_splitAt, i1_steam, i1_degrees, i1_brown) t_kept t_heats t_tests t_salts t_crumbsOf t_traced u_length u_text u_is u_doings u_doing u_row u_isKept u_heats u_orders u_tests u_salt u_crumbs u_traced d_seconds) (h4 : z_83 = F_X4_told r_radius r_skin r_filling r_water r_ends r_thin r_chance r_bentFace r_bentBy r_doings r_seconds a1) (h5 : z_86 = F_X5_told u_is u_doings u_doing a1) : z_83 = z_86 ∧ Inv (r_radius, r_skin, r_filling, r_water, r_ends, r_thin, r_chance, r_bentFace, r_bentBy, r_doings, r_kinds, r_firsts, r_seconds) e_length e_text (m_down, m_core, m_water, m_pricked, m_thinSpots, m_seconds, m_gone, m_splitAt, m_steam, m_degrees, m_brown) (i0_down, i0_core, i0_water, i0_pricked, i0_thinSpots, i0_seconds, i0_gone, i0_splitAt, i0_steam, i0_degrees, i0_brown) (i1_down, i1_core, i1_water, i1_pricked, i1_thinSpots, i1_seconds, i1_gone, i1_splitAt, i1_steam, i1_degrees, i1_brown) t_kept t_heats t_tests t_salts t_crumbsOf t_traced u_length u_text u_is u_doings u_doing u_row u_isKept u_heats u_orders u_tests u_salt u_crumbs u_traced d_seconds := by
  refine And.intro ?_ hI
  obtain ⟨⟨⟨-, hn, -⟩, ⟨e0, e1, e2, e3, e4, e5, e6, e7, e8⟩, hN, hK⟩, -⟩ := hI
  simp only [F_X4_told, x_nm] at h4
  simp only [F_X5_told, x_nm] at h5
  rw [← x_seconds hn hN (fun k hk => (hK k hk).2.2)] at h5
  rw [h4, h5]
  by_cases c1 : F_X4_outside a1 0 10 = 0
  · rw [if_neg (x_ioN 0 10 (by decide) (by decide) c1)]
    have d1 := x_outs (lo := 0) (hi := 10) (by decide) (by decide) c1
    generalize a1.toNatClampNeg = t at d1 ⊢
    obtain ⟨-, d1, rfl⟩ := d1
    have e : t = 0 ∨ t = 1 ∨ t = 2 ∨ t = 3 ∨ t = 4 ∨ t = 5 ∨ t = 6 ∨ t = 7 ∨ t = 8 ∨ t = 9 ∨ t = 10 := by omega
    rcases e with rfl | rfl | rfl | rfl | rfl | rfl | rfl | rfl | rfl | rfl | rfl
    · exact e0.symm
    · exact e1.symm
    · exact e2.symm
    · exact e3.symm
    · exact e4.symm
    · exact e5.symm
    · exact e6.symm
    · exact e7.symm
    · exact e8.symm
    · exact hN.symm
    · rfl
  · rw [if_pos (x_ioP 0 10 (by decide) (by decide) c1)]
    rw [if_neg, if_neg, if_neg, if_neg, if_neg, if_neg, if_neg, if_neg, if_neg, if_neg, if_neg]
    all_goals (intro e; subst e; exact c1 (by decide))
theorem s_now {t_kept : Nat → Int32} {t_heats : Nat → Int32} {t_salts : Nat → Int32} {t_crumbsOf : Nat → Int32} {t_tests : Nat} {t_traced : Int64} {r_radius : Int32} {r_skin : Int32} {r_filling : Int32} {r_water : Int32} {r_ends : Int32} {r_thin : Int32} {r_chance : Int32} {r_bentFace : Int32} {r_bentBy : Int32} {r_doings : Nat} {r_kinds : Nat → Int32} {r_firsts : Nat → Int32} {r_seconds : Nat → Int32} {d_seconds : Nat → Int32} {e_text : Nat → Int32} {e_length : Nat} {m_down : Int32} {m_degrees : Nat → Int32} {m_brown : Nat → Int32} {m_core : Int32} {m_water : Int32} {m_pricked : Int32} {m_thinSpots : Int32} {m_seconds : Int32} {m_gone : Int32} {m_splitAt : Int32} {m_steam : Int32} {i0_down : Int32} {i0_degrees : Nat → Int32} {i0_brown : Nat → Int32} {i0_core : Int32} {i0_water : Int32} {i0_pricked : Int32} {i0_thinSpots : Int32} {i0_seconds : Int32} {i0_gone : Int32} {i0_splitAt : Int32} {i0_steam : Int32} {i1_down : Int32} {i1_degrees : Nat → Int32} {i1_brown : Nat → Int32} {i1_core : Int32} {i1_water : Int32} {i1_pricked : Int32} {i1_thinSpots : Int32} {i1_seconds : Int32} {i1_gone : Int32} {i1_splitAt : Int32} {i1_steam : Int32} {u_length : Nat} {u_text : Nat → Int32} {u_is : Nat → Int32} {u_doings : Nat → Int32} {u_doing : Nat → Int32} {u_row : Nat → Int32} {u_isKept : Nat → Int32} {u_heats : Nat → Int32} {u_orders : Nat → Int32} {u_tests : Nat} {u_salt : Nat → Int32} {u_crumbs : Nat → Int32} {u_traced : Int64} {a1 : Int32} {z_155 z_158 : Int32} (hI : Inv (r_radius, r_skin, r_filling, r_water, r_ends, r_thin, r_chance, r_bentFace, r_bentBy, r_doings, r_kinds, r_firsts, r_seconds) e_length e_text (m_down, m_core, m_water, m_pricked, m_thinSpots, m_seconds, m_gone, m_splitAt, m_steam, m_degrees, m_brown) (i0_down, i0_core, i0_water, i0_pricked, i0_thinSpots, i0_seconds, i0_gone, i0_splitAt, i0_steam, i0_degrees, i0_brown) (i1_down, i1_core, i1_water, i1_pricked, i1_thinSpots, i1_seconds, i1_gone, i1_splitAt, i1_steam, i1_degrees, i1_brown) t_kept t_heats t_tests t_salts t_crumbsOf t_traced u_length u_text u_is u_doings u_doing u_row u_isKept u_heats u_orders u_tests u_salt u_crumbs u_traced d_seconds) (h4 : z_155 = F_X4_now r_radius r_filling m_down m_core m_water m_pricked m_seconds m_gone m_splitAt m_steam a1) (h5 : z_158 = F_X5_now u_is u_row a1) : z_155 = z_158 ∧ Inv (r_radius, r_skin, r_filling, r_water, r_ends, r_thin, r_chance, r_bentFace, r_bentBy, r_doings, r_kinds, r_firsts, r_seconds) e_length e_text (m_down, m_core, m_water, m_pricked, m_thinSpots, m_seconds, m_gone, m_splitAt, m_steam, m_degrees, m_brown) (i0_down, i0_core, i0_water, i0_pricked, i0_thinSpots, i0_seconds, i0_gone, i0_splitAt, i0_steam, i0_degrees, i0_brown) (i1_down, i1_core, i1_water, i1_pricked, i1_thinSpots, i1_seconds, i1_gone, i1_splitAt, i1_steam, i1_degrees, i1_brown) t_kept t_heats t_tests t_salts t_crumbsOf t_traced u_length u_text u_is u_doings u_doing u_row u_isKept u_heats u_orders u_tests u_salt u_crumbs u_traced d_seconds := by
  refine And.intro ?_ hI
  obtain ⟨⟨-, ⟨e0, e1, e2, e3, e4, e5, e6, e7, e8⟩, -⟩, -, hM, -⟩ := hI
  obtain ⟨-, r1, r2, r3, r4, r5, r6, r7, r8, r9⟩ := x_mom0 hM
  simp only [F_X4_now, x_nm, F_X1_pullAlong] at h4
  simp only [F_X5_now, x_nm] at h5
  rw [x_press hM e2, r1, r2, r3, r5, r6, r7, r8, r9, e0] at h5
  rw [h4, h5]
theorem x_nmE {α β : Type} (e : α) (K : α → β) : x_nm e K = K e := rfl
