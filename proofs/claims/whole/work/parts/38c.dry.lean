/-! the steps of the law: drying -/
def x_dW (w d air : Nat) : Nat → Nat × Nat
  | 0 => (w, 0)
  | k + 1 => ((x_dW w d air k).1 - ((x_dW w d air k).1 - d) / (10 + (x_dW w d air k).2), if ((x_dW w d air k).1 - d) / (10 + (x_dW w d air k).2) ≤ w / 50 then (x_dW w d air k).2 else (x_dW w d air k).2 + air)
theorem x_dW_ok {w d air : Nat} (h1 : d ≤ w) (h2 : w ≤ 9999) (h3 : air ≤ 9) (k : Nat) : d ≤ (x_dW w d air k).1 ∧ (x_dW w d air k).1 ≤ 9999 ∧ (x_dW w d air k).2 ≤ 9 * k := by
  induction k with
  | zero => exact ⟨h1, h2, Nat.le_refl _⟩
  | succ k ih =>
    obtain ⟨i1, i2, i3⟩ := ih
    have e := Nat.div_le_self ((x_dW w d air k).1 - d) (10 + (x_dW w d air k).2)
    rw [x_dW]
    dsimp only
    generalize ((x_dW w d air k).1 - d) / (10 + (x_dW w d air k).2) = q at e ⊢
    refine ⟨by omega, by omega, ?_⟩
    split <;> omega
theorem x_dLoss {w d air k : Nat} (h1 : d ≤ w) (h2 : w ≤ 9999) (h3 : air ≤ 9) (hk : k ≤ 200) : (nI (x_dW w d air k).1 - nI d) / nI (10 + (x_dW w d air k).2) = nI (((x_dW w d air k).1 - d) / (10 + (x_dW w d air k).2)) := by
  obtain ⟨i1, i2, i3⟩ := x_dW_ok h1 h2 h3 k
  rw [pk_sub i1, pk_div (by omega) (by omega) (by omega)]
theorem x_dNext {w d air k : Nat} (h1 : d ≤ w) (h2 : w ≤ 9999) (h3 : air ≤ 9) (hk : k ≤ 200) : nI (x_dW w d air k).1 - nI (((x_dW w d air k).1 - d) / (10 + (x_dW w d air k).2)) = nI (x_dW w d air (k + 1)).1 := by
  obtain ⟨i1, i2, i3⟩ := x_dW_ok h1 h2 h3 k
  have e := Nat.div_le_self ((x_dW w d air k).1 - d) (10 + (x_dW w d air k).2)
  rw [pk_sub (by omega), x_dW]
theorem x_dCmp {w d air k : Nat} (h1 : d ≤ w) (h2 : w ≤ 9999) (h3 : air ≤ 9) : (nI (((x_dW w d air k).1 - d) / (10 + (x_dW w d air k).2)) ≤ nI (w / 50)) ↔ ((x_dW w d air k).1 - d) / (10 + (x_dW w d air k).2) ≤ w / 50 := by
  obtain ⟨i1, i2, i3⟩ := x_dW_ok h1 h2 h3 k
  have e := Nat.div_le_self ((x_dW w d air k).1 - d) (10 + (x_dW w d air k).2)
  exact nI_leI (by omega) (by omega)
theorem x_dried5 {w d air m : Nat} (h1 : d ≤ w) (h2 : w ≤ 9999) (h3 : air ≤ 9) (hm : m ≤ 200) : ∀ (n k : Nat), k ≤ m → m - k < n → F_X5_dried_L33 w d air m n (nI (x_dW w d air k).1) (x_dW w d air k).2 k = nI (x_dW w d air m).1 := by
  intro n
  induction n with
  | zero => intro k _ h; exact absurd h (Nat.not_lt_zero _)
  | succ n ih =>
    intro k hk hn
    rw [F_X5_dried_L33]
    by_cases c : m ≤ k
    · rw [if_pos c, Nat.le_antisymm hk c]
    · rw [if_neg c, x_nmE, x_dLoss h1 h2 h3 (by omega), x_dNext h1 h2 h3 (by omega)]
      have e : (x_dW w d air k).2 + (if nI (((x_dW w d air k).1 - d) / (10 + (x_dW w d air k).2)) ≤ nI (w / 50) then 0 else air) = (x_dW w d air (k + 1)).2 := by
        rw [x_dW]
        dsimp only
        by_cases c2 : ((x_dW w d air k).1 - d) / (10 + (x_dW w d air k).2) ≤ w / 50
        · rw [if_pos c2, if_pos ((x_dCmp h1 h2 h3).mpr c2)]; rfl
        · rw [if_neg c2, if_neg (fun q => c2 ((x_dCmp h1 h2 h3).mp q))]
      rw [e]
      exact ih (k + 1) (by omega) (by omega)
theorem x_dried4 {w d air m : Nat} {x : Int32} (h1 : d ≤ w) (h2 : w ≤ 9999) (h3 : air ≤ 9) (hm : m ≤ 200) : ∀ (n k : Nat), k ≤ m → m - k < n → ∃ k2 : Nat, k ≤ k2 ∧ k2 ≤ m ∧ (k2 = m ∨ nI (x_dW w d air k2).1 ≤ x) ∧ (∀ i : Nat, k ≤ i → i < k2 → ¬ nI (x_dW w d air i).1 ≤ x) ∧ F_X4_dryUntil_L11 (nI w) (nI d) (nI air) m x n (nI (x_dW w d air k).2) k (nI (x_dW w d air k).1) = (k2, nI (x_dW w d air k2).1) := by
  intro n
  induction n with
  | zero => intro k _ h; exact absurd h (Nat.not_lt_zero _)
  | succ n ih =>
    intro k hk hn
    obtain ⟨i1, i2, i3⟩ := x_dW_ok h1 h2 h3 k
    rw [F_X4_dryUntil_L11]
    by_cases c : m ≤ k
    · exact ⟨k, Nat.le_refl _, hk, Or.inl (Nat.le_antisymm hk c), fun i a b => absurd b (by omega), by rw [if_pos c]⟩
    · by_cases c1 : nI (x_dW w d air k).1 ≤ x
      · exact ⟨k, Nat.le_refl _, hk, Or.inr c1, fun i a b => absurd b (by omega), by rw [if_neg c, if_pos c1]⟩
      · obtain ⟨k2, j1, j2, j3, j4, j5⟩ := ih (k + 1) (by omega) (by omega)
        refine ⟨k2, by omega, j2, j3, fun i a b => ?_, ?_⟩
        · rcases Nat.eq_or_lt_of_le a with rfl | a2
          · exact c1
          · exact j4 i a2 b
        · rw [if_neg c, if_neg c1, x_nmE]
          have e0 : (10 : Int32) + nI (x_dW w d air k).2 = nI (10 + (x_dW w d air k).2) := nI_add 10 _
          have e1 : (if (1 : Int32) < nI (10 + (x_dW w d air k).2) then nI (10 + (x_dW w d air k).2) else (1 : Int32)) = nI (10 + (x_dW w d air k).2) := by
            rw [if_pos]
            exact nI_lt (a := 1) (by omega) (by omega)
          have e2 : nI w / 50 = nI (w / 50) := pk_div (d := 50) (by omega) (by omega) (by omega)
          rw [e0, e1, x_nmE, x_dLoss h1 h2 h3 (by omega), x_dNext h1 h2 h3 (by omega), e2]
          have e : (if nI (((x_dW w d air k).1 - d) / (10 + (x_dW w d air k).2)) ≤ nI (w / 50) then nI (x_dW w d air k).2 else nI (x_dW w d air k).2 + nI air) = nI (x_dW w d air (k + 1)).2 := by
            rw [x_dW]
            dsimp only
            by_cases c2 : ((x_dW w d air k).1 - d) / (10 + (x_dW w d air k).2) ≤ w / 50
            · rw [if_pos c2, if_pos ((x_dCmp h1 h2 h3).mpr c2)]
            · rw [if_neg c2, if_neg (fun q => c2 ((x_dCmp h1 h2 h3).mp q)), nI_add]
          rw [e]
          exact j5
theorem x_dry_arg {a1 a2 a3 : Int32} : (F_X4_noDrying a1 a2 a3 = 0 ∧ ¬ F_X5_isDry a1 a2 a3 = 0 ∧ ∃ w d air : Nat, a1 = nI w ∧ a2 = nI d ∧ a3 = nI air ∧ d ≤ w ∧ w ≤ 9999 ∧ air ≤ 9) ∨ (¬ F_X4_noDrying a1 a2 a3 = 0 ∧ F_X5_isDry a1 a2 a3 = 0) := by
  have one : ¬ (1 : Int32) = 0 := by decide
  simp only [F_X4_noDrying, F_X5_isDry, x_nm]
  by_cases c1 : F_X4_outside a1 1 9999 = 0
  · rw [if_pos c1, if_neg (x_ioN 1 9999 (by decide) (by decide) c1)]
    obtain ⟨d1, d2, d3⟩ := x_outs (lo := 1) (hi := 9999) (by decide) (by decide) c1
    by_cases c2 : F_X4_outside a2 0 (nI a1.toNatClampNeg) = 0
    · rw [if_pos c2, if_neg (x_ioN 0 (nI a1.toNatClampNeg) (by decide) rfl c2)]
      obtain ⟨f1, f2, f3⟩ := x_outs (lo := 0) (hi := a1.toNatClampNeg) (by decide) (by omega) c2
      by_cases c3 : F_X4_outside a3 0 9 = 0
      · rw [if_pos c3, if_neg (x_ioN 0 9 (by decide) (by decide) c3)]
        obtain ⟨g1, g2, g3⟩ := x_outs (lo := 0) (hi := 9) (by decide) (by decide) c3
        exact Or.inl ⟨rfl, one, _, _, _, d3, f3, g3, f2, d2, g2⟩
      · rw [if_neg c3, if_pos (x_ioP 0 9 (by decide) (by decide) c3)]
        exact Or.inr ⟨one, rfl⟩
    · rw [if_neg c2, if_pos (x_ioP 0 (nI a1.toNatClampNeg) (by decide) rfl c2)]
      exact Or.inr ⟨one, rfl⟩
  · rw [if_neg c1, if_pos (x_ioP 1 9999 (by decide) (by decide) c1)]
    exact Or.inr ⟨one, rfl⟩
theorem x_dried54 {w d air : Nat} (h1 : d ≤ w) (h2 : w ≤ 9999) (h3 : air ≤ 9) (a4 : Int32) : F_X4_noDrying (nI w) (nI d) (nI air) = 0 → F_X5_dried (nI w) (nI d) (nI air) a4 = (if F_X4_outside a4 0 200 = 0 then nI (x_dW w d air a4.toNatClampNeg).1 else -1) := by
  intro hz
  have hy : ¬ F_X5_isDry (nI w) (nI d) (nI air) = 0 := by
    rcases x_dry_arg (a1 := nI w) (a2 := nI d) (a3 := nI air) with q | q
    · exact q.2.1
    · exact absurd hz q.1
  rw [F_X5_dried, x_nmE, if_neg hy]
  repeat rw [x_nmE]
  rw [nI_clamp (by omega), nI_clamp (by omega), nI_clamp (by omega)]
  by_cases c : F_X4_outside a4 0 200 = 0
  · obtain ⟨d1, d2, d3⟩ := x_outs (lo := 0) (hi := 200) (by decide) (by decide) c
    rw [if_pos c, if_neg (x_ioN 0 200 (by decide) (by decide) c)]
    exact x_dried5 h1 h2 h3 d2 _ 0 (by omega) (by omega)
  · rw [if_neg c, if_pos (x_ioP 0 200 (by decide) (by decide) c)]
theorem s_dried {t_kept : Nat → Int32} {t_heats : Nat → Int32} {t_salts : Nat → Int32} {t_crumbsOf : Nat → Int32} {t_tests : Nat} {t_traced : Int64} {t_dryWeight : Int32} {r_radius : Int32} {r_skin : Int32} {r_filling : Int32} {r_water : Int32} {r_ends : Int32} {r_thin : Int32} {r_chance : Int32} {r_bentFace : Int32} {r_bentBy : Int32} {r_doings : Nat} {r_kinds : Nat → Int32} {r_firsts : Nat → Int32} {r_seconds : Nat → Int32} {d_seconds : Nat → Int32} {e_text : Nat → Int32} {e_length : Nat} {m_down : Int32} {m_degrees : Nat → Int32} {m_brown : Nat → Int32} {m_core : Int32} {m_water : Int32} {m_pricked : Int32} {m_thinSpots : Int32} {m_seconds : Int32} {m_gone : Int32} {m_splitAt : Int32} {m_steam : Int32} {i0_down : Int32} {i0_degrees : Nat → Int32} {i0_brown : Nat → Int32} {i0_core : Int32} {i0_water : Int32} {i0_pricked : Int32} {i0_thinSpots : Int32} {i0_seconds : Int32} {i0_gone : Int32} {i0_splitAt : Int32} {i0_steam : Int32} {i1_down : Int32} {i1_degrees : Nat → Int32} {i1_brown : Nat → Int32} {i1_core : Int32} {i1_water : Int32} {i1_pricked : Int32} {i1_thinSpots : Int32} {i1_seconds : Int32} {i1_gone : Int32} {i1_splitAt : Int32} {i1_steam : Int32} {u_length : Nat} {u_text : Nat → Int32} {u_is : Nat → Int32} {u_doings : Nat → Int32} {u_doing : Nat → Int32} {u_row : Nat → Int32} {u_isKept : Nat → Int32} {u_heats : Nat → Int32} {u_orders : Nat → Int32} {u_tests : Nat} {u_salt : Nat → Int32} {u_crumbs : Nat → Int32} {u_traced : Int64} {a1 : Int32} {a2 : Int32} {a3 : Int32} {a4 : Int32} {t_dryWeight_405 : Int32} {z_406 z_409 : Int32} (hI : Inv (r_radius, r_skin, r_filling, r_water, r_ends, r_thin, r_chance, r_bentFace, r_bentBy, r_doings, r_kinds, r_firsts, r_seconds) e_length e_text (m_down, m_core, m_water, m_pricked, m_thinSpots, m_seconds, m_gone, m_splitAt, m_steam, m_degrees, m_brown) (i0_down, i0_core, i0_water, i0_pricked, i0_thinSpots, i0_seconds, i0_gone, i0_splitAt, i0_steam, i0_degrees, i0_brown) (i1_down, i1_core, i1_water, i1_pricked, i1_thinSpots, i1_seconds, i1_gone, i1_splitAt, i1_steam, i1_degrees, i1_brown) t_kept t_heats t_tests t_salts t_crumbsOf t_traced u_length u_text u_is u_doings u_doing u_row u_isKept u_heats u_orders u_tests u_salt u_crumbs u_traced d_seconds) (h4 : (z_406, t_dryWeight_405) = F_X4_dried t_dryWeight a1 a2 a3 a4) (h5 : z_409 = F_X5_dried a1 a2 a3 a4) : z_406 = z_409 ∧ Inv (r_radius, r_skin, r_filling, r_water, r_ends, r_thin, r_chance, r_bentFace, r_bentBy, r_doings, r_kinds, r_firsts, r_seconds) e_length e_text (m_down, m_core, m_water, m_pricked, m_thinSpots, m_seconds, m_gone, m_splitAt, m_steam, m_degrees, m_brown) (i0_down, i0_core, i0_water, i0_pricked, i0_thinSpots, i0_seconds, i0_gone, i0_splitAt, i0_steam, i0_degrees, i0_brown) (i1_down, i1_core, i1_water, i1_pricked, i1_thinSpots, i1_seconds, i1_gone, i1_splitAt, i1_steam, i1_degrees, i1_brown) t_kept t_heats t_tests t_salts t_crumbsOf t_traced u_length u_text u_is u_doings u_doing u_row u_isKept u_heats u_orders u_tests u_salt u_crumbs u_traced d_seconds := by
  refine And.intro ?_ hI
  rw [F_X4_dried] at h4
  rcases x_dry_arg (a1 := a1) (a2 := a2) (a3 := a3) with ⟨q1, q2, w, d, air, rfl, rfl, rfl, b1, b2, b3⟩ | ⟨q1, q2⟩
  · rw [x_nmE, if_pos q1] at h4
    repeat rw [x_nmE] at h4
    rw [nI_clamp (by omega), nI_clamp (by omega), nI_clamp (by omega)] at h4
    rw [x_dried54 b1 b2 b3 a4 q1] at h5
    by_cases c : F_X4_outside a4 0 200 = 0
    · obtain ⟨d1, d2, d3⟩ := x_outs (lo := 0) (hi := 200) (by decide) (by decide) c
      rw [if_pos c] at h4 h5
      repeat rw [x_nmE] at h4
      rw [F_X4_dryUntil, x_nmE] at h4
      obtain ⟨k2, j1, j2, j3, j4, j5⟩ := x_dried4 (w := w) (d := d) (air := air) (m := a4.toNatClampNeg) (x := -1) b1 b2 b3 d2 (a4.toNatClampNeg + 1) 0 (by omega) (by omega)
      have j6 : F_X4_dryUntil_L11 (nI w) (nI d) (nI air) a4.toNatClampNeg (-1) (a4.toNatClampNeg + 1) 0 0 (nI w) = (k2, nI (x_dW w d air k2).1) := j5
      rw [j6] at h4
      have j7 : k2 = a4.toNatClampNeg := by
        rcases j3 with j3 | j3
        · exact j3
        · obtain ⟨i1, i2, i3⟩ := x_dW_ok b1 b2 b3 k2
          rw [Int32.le_iff_toInt_le, nI_toInt (by omega)] at j3
          have e : (-1 : Int32).toInt = -1 := by decide
          omega
      rw [j7] at h4
      rw [h5]
      exact (Prod.mk.inj h4).1
    · rw [if_neg c] at h4 h5
      rw [h5]
      exact (Prod.mk.inj h4).1
  · rw [x_nmE, if_neg q1] at h4
    rw [F_X5_dried, x_nmE, if_pos q2] at h5
    rw [h5]
    exact (Prod.mk.inj h4).1
theorem x_days5 {w d air x k2 : Nat} (h1 : d ≤ w) (h2 : w ≤ 9999) (h3 : air ≤ 9) (hz : F_X4_noDrying (nI w) (nI d) (nI air) = 0) (hx : x ≤ 9999) (hk : k2 ≤ 200) (j3 : k2 = 200 ∨ nI (x_dW w d air k2).1 ≤ nI x) : ∀ (n k : Nat), k ≤ k2 → 202 - k ≤ n → (∀ i : Nat, k ≤ i → i < k2 → ¬ nI (x_dW w d air i).1 ≤ nI x) → F_X5_days_L27 w d air x n k = (if nI x < nI (x_dW w d air k2).1 then (-9) else nI k2) := by
  intro n
  induction n with
  | zero => intro k a b; exact absurd b (by omega)
  | succ n ih =>
    intro k hk2 hn hi
    have e0 : F_X5_dried (nI w) (nI d) (nI air) (nI k) = nI (x_dW w d air k).1 := by
      rw [x_dried54 h1 h2 h3 _ hz, if_pos, nI_clamp (by omega)]
      rw [x_outside_iff]
      exact ⟨nI_le (a := 0) (by omega) (by omega), nI_le (b := 200) (by omega) (by omega)⟩
    rw [F_X5_days_L27, if_neg (by omega), x_nmE, e0]
    rcases Nat.eq_or_lt_of_le hk2 with rfl | hlt
    · by_cases c : nI x < nI (x_dW w d air k).1
      · rw [if_pos c, if_pos c]
        have e1 : k = 200 := by
          rcases j3 with j3 | j3
          · exact j3
          · exact absurd j3 (Int32.not_le.mpr c)
        subst e1
        cases n with
        | zero => omega
        | succ n => rw [F_X5_days_L27, if_pos (by omega)]
      · rw [if_neg c, if_neg c]
    · rw [if_pos (Int32.not_le.mp (hi k (Nat.le_refl _) hlt))]
      exact ih (k + 1) (by omega) (by omega) (fun i a b => hi i (by omega) b)
theorem s_days {t_kept : Nat → Int32} {t_heats : Nat → Int32} {t_salts : Nat → Int32} {t_crumbsOf : Nat → Int32} {t_tests : Nat} {t_traced : Int64} {t_dryWeight : Int32} {r_radius : Int32} {r_skin : Int32} {r_filling : Int32} {r_water : Int32} {r_ends : Int32} {r_thin : Int32} {r_chance : Int32} {r_bentFace : Int32} {r_bentBy : Int32} {r_doings : Nat} {r_kinds : Nat → Int32} {r_firsts : Nat → Int32} {r_seconds : Nat → Int32} {d_seconds : Nat → Int32} {e_text : Nat → Int32} {e_length : Nat} {m_down : Int32} {m_degrees : Nat → Int32} {m_brown : Nat → Int32} {m_core : Int32} {m_water : Int32} {m_pricked : Int32} {m_thinSpots : Int32} {m_seconds : Int32} {m_gone : Int32} {m_splitAt : Int32} {m_steam : Int32} {i0_down : Int32} {i0_degrees : Nat → Int32} {i0_brown : Nat → Int32} {i0_core : Int32} {i0_water : Int32} {i0_pricked : Int32} {i0_thinSpots : Int32} {i0_seconds : Int32} {i0_gone : Int32} {i0_splitAt : Int32} {i0_steam : Int32} {i1_down : Int32} {i1_degrees : Nat → Int32} {i1_brown : Nat → Int32} {i1_core : Int32} {i1_water : Int32} {i1_pricked : Int32} {i1_thinSpots : Int32} {i1_seconds : Int32} {i1_gone : Int32} {i1_splitAt : Int32} {i1_steam : Int32} {u_length : Nat} {u_text : Nat → Int32} {u_is : Nat → Int32} {u_doings : Nat → Int32} {u_doing : Nat → Int32} {u_row : Nat → Int32} {u_isKept : Nat → Int32} {u_heats : Nat → Int32} {u_orders : Nat → Int32} {u_tests : Nat} {u_salt : Nat → Int32} {u_crumbs : Nat → Int32} {u_traced : Int64} {a1 : Int32} {a2 : Int32} {a3 : Int32} {a4 : Int32} {t_dryWeight_412 : Int32} {z_413 z_416 : Int32} (hI : Inv (r_radius, r_skin, r_filling, r_water, r_ends, r_thin, r_chance, r_bentFace, r_bentBy, r_doings, r_kinds, r_firsts, r_seconds) e_length e_text (m_down, m_core, m_water, m_pricked, m_thinSpots, m_seconds, m_gone, m_splitAt, m_steam, m_degrees, m_brown) (i0_down, i0_core, i0_water, i0_pricked, i0_thinSpots, i0_seconds, i0_gone, i0_splitAt, i0_steam, i0_degrees, i0_brown) (i1_down, i1_core, i1_water, i1_pricked, i1_thinSpots, i1_seconds, i1_gone, i1_splitAt, i1_steam, i1_degrees, i1_brown) t_kept t_heats t_tests t_salts t_crumbsOf t_traced u_length u_text u_is u_doings u_doing u_row u_isKept u_heats u_orders u_tests u_salt u_crumbs u_traced d_seconds) (h4 : (z_413, t_dryWeight_412) = F_X4_days t_dryWeight a1 a2 a3 a4) (h5 : z_416 = F_X5_days a1 a2 a3 a4) : z_413 = z_416 ∧ Inv (r_radius, r_skin, r_filling, r_water, r_ends, r_thin, r_chance, r_bentFace, r_bentBy, r_doings, r_kinds, r_firsts, r_seconds) e_length e_text (m_down, m_core, m_water, m_pricked, m_thinSpots, m_seconds, m_gone, m_splitAt, m_steam, m_degrees, m_brown) (i0_down, i0_core, i0_water, i0_pricked, i0_thinSpots, i0_seconds, i0_gone, i0_splitAt, i0_steam, i0_degrees, i0_brown) (i1_down, i1_core, i1_water, i1_pricked, i1_thinSpots, i1_seconds, i1_gone, i1_splitAt, i1_steam, i1_degrees, i1_brown) t_kept t_heats t_tests t_salts t_crumbsOf t_traced u_length u_text u_is u_doings u_doing u_row u_isKept u_heats u_orders u_tests u_salt u_crumbs u_traced d_seconds := by
  refine And.intro ?_ hI
  rw [F_X4_days] at h4
  rw [F_X5_days] at h5
  rcases x_dry_arg (a1 := a1) (a2 := a2) (a3 := a3) with ⟨q1, q2, w, d, air, rfl, rfl, rfl, b1, b2, b3⟩ | ⟨q1, q2⟩
  · rw [x_nmE, if_pos q1] at h4
    repeat rw [x_nmE] at h4
    rw [nI_clamp (by omega), nI_clamp (by omega), nI_clamp (by omega)] at h4
    rw [x_nmE, if_neg q2] at h5
    repeat rw [x_nmE] at h5
    rw [nI_clamp (by omega), nI_clamp (by omega), nI_clamp (by omega)] at h5
    by_cases c : F_X4_outside a4 0 9999 = 0
    · obtain ⟨d1, d2, d3⟩ := x_outs (lo := 0) (hi := 9999) (by decide) (by decide) c
      rw [if_pos c] at h4
      rw [if_neg (x_ioN 0 9999 (by decide) (by decide) c)] at h5
      repeat rw [x_nmE] at h4
      repeat rw [x_nmE] at h5
      rw [F_X4_dryUntil, x_nmE] at h4
      obtain ⟨k2, j1, j2, j3, j4, j5⟩ := x_dried4 (w := w) (d := d) (air := air) (m := 200) (x := nI a4.toNatClampNeg) b1 b2 b3 (Nat.le_refl _) (200 + 1) 0 (by omega) (by omega)
      have j6 : F_X4_dryUntil_L11 (nI w) (nI d) (nI air) 200 (nI a4.toNatClampNeg) (200 + 1) 0 0 (nI w) = (k2, nI (x_dW w d air k2).1) := j5
      rw [j6] at h4
      rw [x_days5 b1 b2 b3 q1 d2 j2 j3 (201 + 1) 0 (by omega) (by omega) (fun i _ b => j4 i (by omega) b)] at h5
      rw [h5]
      exact (Prod.mk.inj h4).1
    · rw [if_neg c] at h4
      rw [if_pos (x_ioP 0 9999 (by decide) (by decide) c)] at h5
      rw [h5]
      exact (Prod.mk.inj h4).1
  · rw [x_nmE, if_neg q1] at h4
    rw [x_nmE, if_pos q2] at h5
    rw [h5]
    exact (Prod.mk.inj h4).1
