/-! the steps of the law: a new moment, what the tests hold -/
theorem x_begins_L {a : Nat} : ∀ (n k : Nat) (row : Nat → Int32), k ≤ 20 → 20 - k < n → ∀ q : Nat, F_X5_begins_L2 a n k row q = if 20 * a + k ≤ q ∧ q < 20 * a + 20 then (if 4 < q - 20 * a then 0 else 20) else row q := by
  intro n
  induction n with
  | zero => intro k row _ h; exact absurd h (Nat.not_lt_zero _)
  | succ n ih =>
    intro k row h1 h2 q
    rw [F_X5_begins_L2]
    by_cases c : 20 ≤ k
    · rw [if_pos c, if_neg (by omega)]
    · rw [if_neg c, x_nmE, x_nmE, ih (k + 1) _ (by omega) (by omega) q]
      by_cases c1 : 20 * a + (k + 1) ≤ q ∧ q < 20 * a + 20
      · rw [if_pos c1, if_pos (show 20 * a + k ≤ q ∧ q < 20 * a + 20 by omega)]
      · rw [if_neg c1]
        by_cases c2 : q = 20 * a + k
        · subst c2
          rw [x_updS, if_pos (show 20 * a + k ≤ 20 * a + k ∧ 20 * a + k < 20 * a + 20 by omega), show 20 * a + k - 20 * a = k by omega]
        · rw [x_updN _ _ c2, if_neg (show ¬ (20 * a + k ≤ q ∧ q < 20 * a + 20) by omega)]
theorem x_begins {a : Nat} {is row : Nat → Int32} (q : Nat) : F_X5_begins is row a q = if q = 20 * a + 14 then -9 else if q = 20 * a + 9 then is 3 else if 20 * a ≤ q ∧ q < 20 * a + 20 then (if 4 < q - 20 * a then 0 else 20) else row q := by
  have h := x_begins_L (a := a) (20 + 1) 0 row (by omega) (by omega) q
  rw [Nat.add_zero] at h
  rw [F_X5_begins, x_nmE, x_nmE, x_nmE]
  by_cases c : q = 20 * a + 14
  · rw [if_pos c, c, x_updS]
  · rw [if_neg c, x_updN _ _ c]
    by_cases c2 : q = 20 * a + 9
    · rw [if_pos c2, c2, x_updS]
    · rw [if_neg c2, x_updN _ _ c2]
      exact h
theorem x_begin_mom {is row degrees brown : Nat → Int32} {water : Int32} {a : Nat} (hw : is 3 = water) (hb : Btw 0 water 999) : RelMom (F_X1_begin degrees brown water) (F_X5_begins is row a) a := by
  rw [F_X1_begin, x_nmE]
  have e : ∀ f : Nat, f < 4 → (F_X1_begin_L7 (4 + 1) 0 degrees brown).1 f = 20 ∧ (F_X1_begin_L7 (4 + 1) 0 degrees brown).2 f = 0 := by
    intro f hf
    have e : f = 0 ∨ f = 1 ∨ f = 2 ∨ f = 3 := by omega
    rcases e with rfl | rfl | rfl | rfl <;> exact ⟨rfl, rfl⟩
  generalize F_X1_begin_L7 (4 + 1) 0 degrees brown = T at e
  refine And.intro (And.intro ⟨0, by omega, rfl⟩ (And.intro ⟨by decide, by decide⟩ (And.intro hb (And.intro ⟨by decide, by decide⟩ (And.intro ⟨by decide, by decide⟩ (And.intro (Or.inl rfl) (And.intro ⟨by decide, by decide⟩ (And.intro ⟨by decide, by decide⟩ (fun f hf => ?_))))))))) (And.intro (fun f hf => ?_) ⟨?_, ?_, ?_, ?_, ?_, ?_, ?_, ?_, ?_⟩)
  · rw [(e f hf).1, (e f hf).2]
    exact ⟨⟨by decide, by decide⟩, ⟨by decide, by decide⟩⟩
  · rw [(e f hf).1, (e f hf).2, x_begins, x_begins, if_neg (by omega), if_neg (by omega), if_pos (by omega), if_neg (by omega), if_neg (by omega), if_neg (by omega), if_pos (by omega), if_pos (by omega)]
    exact ⟨rfl, rfl⟩
  · rw [x_begins, if_neg (by omega), if_neg (by omega), if_pos (by omega), if_neg (by omega)]
  · rw [x_begins, if_neg (by omega), if_pos (by omega), hw]
  · rw [x_begins, if_neg (by omega), if_neg (by omega), if_pos (by omega), if_pos (by omega)]
  · rw [x_begins, if_neg (by omega), if_neg (by omega), if_pos (by omega), if_pos (by omega)]
  · rw [x_begins, if_neg (by omega), if_neg (by omega), if_pos (by omega), if_pos (by omega)]
  · rw [x_begins, if_neg (by omega), if_neg (by omega), if_pos (by omega), if_pos (by omega)]
  · rw [x_begins, if_pos (by omega)]
  · rw [x_begins, if_neg (by omega), if_neg (by omega), if_pos (by omega), if_pos (by omega)]
  · rw [x_begins, if_neg (by omega), if_neg (by omega), if_pos (by omega), if_pos (by omega)]
theorem s_anew {t_kept : Nat → Int32} {t_heats : Nat → Int32} {t_salts : Nat → Int32} {t_crumbsOf : Nat → Int32} {t_tests : Nat} {t_traced : Int64} {r_radius : Int32} {r_skin : Int32} {r_filling : Int32} {r_water : Int32} {r_ends : Int32} {r_thin : Int32} {r_chance : Int32} {r_bentFace : Int32} {r_bentBy : Int32} {r_doings : Nat} {r_kinds : Nat → Int32} {r_firsts : Nat → Int32} {r_seconds : Nat → Int32} {d_seconds : Nat → Int32} {e_text : Nat → Int32} {e_length : Nat} {m_down : Int32} {m_degrees : Nat → Int32} {m_brown : Nat → Int32} {m_core : Int32} {m_water : Int32} {m_pricked : Int32} {m_thinSpots : Int32} {m_seconds : Int32} {m_gone : Int32} {m_splitAt : Int32} {m_steam : Int32} {i0_down : Int32} {i0_degrees : Nat → Int32} {i0_brown : Nat → Int32} {i0_core : Int32} {i0_water : Int32} {i0_pricked : Int32} {i0_thinSpots : Int32} {i0_seconds : Int32} {i0_gone : Int32} {i0_splitAt : Int32} {i0_steam : Int32} {i1_down : Int32} {i1_degrees : Nat → Int32} {i1_brown : Nat → Int32} {i1_core : Int32} {i1_water : Int32} {i1_pricked : Int32} {i1_thinSpots : Int32} {i1_seconds : Int32} {i1_gone : Int32} {i1_splitAt : Int32} {i1_steam : Int32} {u_length : Nat} {u_text : Nat → Int32} {u_is : Nat → Int32} {u_doings : Nat → Int32} {u_doing : Nat → Int32} {u_row : Nat → Int32} {u_isKept : Nat → Int32} {u_heats : Nat → Int32} {u_orders : Nat → Int32} {u_tests : Nat} {u_salt : Nat → Int32} {u_crumbs : Nat → Int32} {u_traced : Int64} {m_down_161 : Int32} {m_core_162 : Int32} {m_water_163 : Int32} {m_pricked_164 : Int32} {m_thinSpots_165 : Int32} {m_seconds_166 : Int32} {m_gone_167 : Int32} {m_splitAt_168 : Int32} {m_steam_169 : Int32} {m_degrees_170 : Nat → Int32} {m_brown_171 : Nat → Int32} {u_row_175 : Nat → Int32} {z_172 z_176 : Int32} (hI : Inv (r_radius, r_skin, r_filling, r_water, r_ends, r_thin, r_chance, r_bentFace, r_bentBy, r_doings, r_kinds, r_firsts, r_seconds) e_length e_text (m_down, m_core, m_water, m_pricked, m_thinSpots, m_seconds, m_gone, m_splitAt, m_steam, m_degrees, m_brown) (i0_down, i0_core, i0_water, i0_pricked, i0_thinSpots, i0_seconds, i0_gone, i0_splitAt, i0_steam, i0_degrees, i0_brown) (i1_down, i1_core, i1_water, i1_pricked, i1_thinSpots, i1_seconds, i1_gone, i1_splitAt, i1_steam, i1_degrees, i1_brown) t_kept t_heats t_tests t_salts t_crumbsOf t_traced u_length u_text u_is u_doings u_doing u_row u_isKept u_heats u_orders u_tests u_salt u_crumbs u_traced d_seconds) (h4 : (z_172, m_down_161, m_core_162, m_water_163, m_pricked_164, m_thinSpots_165, m_seconds_166, m_gone_167, m_splitAt_168, m_steam_169, m_degrees_170, m_brown_171) = F_X4_anew r_water m_degrees m_brown m_seconds) (h5 : (z_176, u_row_175) = F_X5_anew u_is u_row) : z_172 = z_176 ∧ Inv (r_radius, r_skin, r_filling, r_water, r_ends, r_thin, r_chance, r_bentFace, r_bentBy, r_doings, r_kinds, r_firsts, r_seconds) e_length e_text (m_down_161, m_core_162, m_water_163, m_pricked_164, m_thinSpots_165, m_seconds_166, m_gone_167, m_splitAt_168, m_steam_169, m_degrees_170, m_brown_171) (i0_down, i0_core, i0_water, i0_pricked, i0_thinSpots, i0_seconds, i0_gone, i0_splitAt, i0_steam, i0_degrees, i0_brown) (i1_down, i1_core, i1_water, i1_pricked, i1_thinSpots, i1_seconds, i1_gone, i1_splitAt, i1_steam, i1_degrees, i1_brown) t_kept t_heats t_tests t_salts t_crumbsOf t_traced u_length u_text u_is u_doings u_doing u_row_175 u_isKept u_heats u_orders u_tests u_salt u_crumbs u_traced d_seconds := by
  obtain ⟨hA, hB, hC, hD, hE⟩ := hI
  have hs := (x_mom0 hC).2.2.2.2.2.1
  have hw := hA.2.1.2.2.2.1
  have hb : Btw 0 r_water 999 := hA.1.1.2.2.2.1
  have hT := x_begin_mom (row := u_row) (degrees := m_degrees) (brown := m_brown) (a := 0) hw hb
  rw [F_X4_anew, x_nmE] at h4
  rw [F_X5_anew, x_nmE] at h5
  generalize F_X1_begin m_degrees m_brown r_water = T at hT h4
  obtain ⟨t0, t1, t2, t3, t4, t5, t6, t7, t8, t9, t10⟩ := T
  rw [hs] at h5
  simp only [Prod.mk.injEq] at h4 h5
  obtain ⟨rfl, rfl, rfl, rfl, rfl, rfl, rfl, rfl, rfl, rfl, rfl, rfl⟩ := h4
  obtain ⟨rfl, rfl⟩ := h5
  exact And.intro rfl (And.intro hA (And.intro hB (And.intro hT (And.intro (x_kept_row hD (fun q hq => by rw [x_begins, if_neg (by omega), if_neg (by omega), if_neg (by omega)])) hE))))
