/-! the steps of the law: run -/
theorem x_inv_row {rc : TRec} {en : Nat} {et : Nat → Int32} {mo i0 i1 : TMom} {kept heats : Nat → Int32} {tests : Nat} {salts crumbsOf : Nat → Int32} {traced : Int64} {un : Nat} {ut is doings doing row row' isKept uheats orders : Nat → Int32} {utests : Nat} {usalt ucrumbs : Nat → Int32} {utraced : Int64} {dsec : Nat → Int32}
    (h : Inv rc en et mo i0 i1 kept heats tests salts crumbsOf traced un ut is doings doing row isKept uheats orders utests usalt ucrumbs utraced dsec) (hr : ∀ q : Nat, q < 60 → row' q = row q) : Inv rc en et mo i0 i1 kept heats tests salts crumbsOf traced un ut is doings doing row' isKept uheats orders utests usalt ucrumbs utraced dsec := by
  obtain ⟨hA, hB, hC, hD, hE⟩ := h
  exact And.intro hA (And.intro hB (And.intro (x_mom_row hC (fun q h1 h2 => hr q (by omega))) (And.intro ⟨⟨hD.1.1, hD.1.2.1, fun z => x_mom_row (hD.1.2.2 z) (fun q h1 h2 => hr q (by omega))⟩, ⟨hD.2.1, hD.2.2.1, fun z => x_mom_row (hD.2.2.2 z) (fun q h1 h2 => hr q (by omega))⟩⟩ hE)))
theorem x_relrp {r0 r1 r2 r3 r4 r5 r6 r7 r8 : Int32} {n : Nat} {kinds firsts secs is doings doing : Nat → Int32} (h : RelRec (r0, r1, r2, r3, r4, r5, r6, r7, r8, n, kinds, firsts, secs) is doings doing) : RelRp (r0, r1, r2, r4, r5, r7, r8) is := by
  obtain ⟨⟨⟨hR, -⟩, -⟩, ⟨e0, e1, e2, e3, e4, e5, e6, e7, e8⟩, -⟩ := h
  exact ⟨hR, e0, e1, e2, e4, e5, e7, e8⟩
theorem x_heat0 {doing : Nat → Int32} {k : Nat} (h : Btw 0 (doing (3 * k + 1)) 300) : x_heat doing 0 k = doing (3 * k + 1) := by
  rw [x_heat, Int32.add_zero, ite_self, if_pos]
  rw [Int32.le_iff_toInt_le, show (300 : Int32).toInt = 300 by decide]
  exact h.2
theorem x_relpl {r0 r1 r2 r3 r4 r5 r6 r7 r8 : Int32} {n : Nat} {kinds firsts secs is doings doing : Nat → Int32} (h : RelRec (r0, r1, r2, r3, r4, r5, r6, r7, r8, n, kinds, firsts, secs) is doings doing) : RelPl n kinds firsts secs 0 doings doing := by
  obtain ⟨⟨-, hn, hs, hd⟩, -, h0, hk⟩ := h
  refine ⟨hn, h0, fun k hkn => ?_⟩
  obtain ⟨k1, k2, k3⟩ := hk k (by omega : k < n)
  refine ⟨k1, k3, (hs k (by omega)).1, ?_⟩
  rcases hd k hkn with ⟨q1, q2, q3⟩ | ⟨q1, q2, q3⟩ | ⟨q1, q2, q3⟩ | ⟨q1, q2, q3⟩
  · exact Or.inl ⟨Or.inl q1, by rw [x_heat0 (by rw [k2]; exact q2), k2], q2⟩
  · exact Or.inr (Or.inl ⟨q1, k2.symm, q2, q3⟩)
  · exact Or.inr (Or.inr ⟨q1, k2.symm, q2, q3⟩)
  · have q4 := x_bW (c := 0) (d := 300) q2 (by decide) (by decide)
    exact Or.inl ⟨Or.inr q1, by rw [x_heat0 (by rw [k2]; exact q4), k2], q4⟩
theorem x_tot_le {secs : Nat → Int32} : ∀ (c k : Nat), (∀ j : Nat, k ≤ j → j < k + c → (secs j).toNatClampNeg ≤ 99) → x_tot secs c k ≤ 99 * c := by
  intro c
  induction c with
  | zero => intro k _; exact Nat.le_refl _
  | succ c ih =>
    intro k h
    rw [x_totS]
    have h1 := h k (Nat.le_refl _) (by omega)
    have h2 := ih (k + 1) (fun j a b => h j (by omega) (by omega))
    omega
theorem x_tot_pl {n : Nat} {kinds firsts secs doings doing : Nat → Int32} {hot : Int32} (h : RelPl n kinds firsts secs hot doings doing) : x_tot secs n 0 ≤ 1188 := by
  have h2 := x_tot_le (secs := secs) n 0 (fun j _ b => (h.2.2 j (by omega)).2.2.1)
  have := h.1
  omega
theorem x_planS_L {n : Nat} {secs : Nat → Int32} (hn : n ≤ 12) (hs : ∀ k : Nat, k < 12 → (secs k).toNatClampNeg ≤ 99 ∧ secs k = nI (secs k).toNatClampNeg) : ∀ (f a k : Nat), n - k < f → F_X3_planSeconds_L4 n secs f (nI a) k = nI (a + x_tot secs (n - k) k) := by
  intro f
  induction f with
  | zero => intro a k h; exact absurd h (Nat.not_lt_zero _)
  | succ f ih =>
    intro a k h
    rw [F_X3_planSeconds_L4]
    by_cases c : n ≤ k
    · rw [if_pos c, show n - k = 0 by omega]; rfl
    · rw [if_neg c, if_neg (by omega), (hs k (by omega)).2, nI_add, ih _ _ (by omega), show n - k = (n - (k + 1)) + 1 by omega, x_totS, Nat.add_assoc]
theorem x_planS {n : Nat} {secs : Nat → Int32} (hn : n ≤ 12) (hs : ∀ k : Nat, k < 12 → (secs k).toNatClampNeg ≤ 99 ∧ secs k = nI (secs k).toNatClampNeg) : F_X3_planSeconds n secs = nI (x_tot secs n 0) := by
  rw [F_X3_planSeconds, x_nmE]
  have h := x_planS_L hn hs (12 + 1) 0 0 (by omega)
  rw [Nat.zero_add, Nat.sub_zero] at h
  exact h
theorem x_fresh5 {is row dg br : Nat → Int32} {water spots : Int32} (hw : is 3 = water) (hb : Btw 0 water 999) (hs : Btw 0 spots 15) : JT 0 (F_X0_setOut dg br water spots) ∧ jThin (F_X0_setOut dg br water spots) = spots ∧ jGone (F_X0_setOut dg br water spots) = 0 ∧ ∃ row' : Nat → Int32, F_X5_fresh is row spots = (-9, 0, -9, -9, row') ∧ JRel (F_X0_setOut dg br water spots) (-9) 0 (-9) (-9) row' ∧ ∀ q : Nat, q < 60 → row' q = row q := by
  have hm := x_begin_mom (row := row) (degrees := dg) (brown := br) (a := 3) hw hb
  have hf : ∀ q : Nat, q < 60 → F_X5_begins is row 3 q = row q := fun q hq => by rw [x_begins, if_neg (by omega), if_neg (by omega), if_neg (by omega)]
  rw [F_X0_setOut, x_nmE, F_X5_fresh, x_nmE, x_nmE]
  generalize F_X5_begins is row 3 = R at hm hf
  have h0 : (F_X1_begin dg br water).2.2.2.2.2.1 = 0 ∧ (F_X1_begin dg br water).2.2.2.2.2.2.1 = 0 := ⟨rfl, rfl⟩
  generalize F_X1_begin dg br water = T at hm h0
  obtain ⟨down, core, wat, pricked, thin, seconds, gone, splitAt, steam, degrees, brown⟩ := T
  obtain ⟨z1, z2⟩ := h0
  dsimp only at z1 z2
  refine And.intro (And.intro z1 (And.intro (Or.inl ⟨z2, rfl⟩) (And.intro (Or.inl rfl) (Or.inl rfl)))) (And.intro rfl (And.intro z2 ⟨_, rfl, And.intro ⟨rfl, rfl, rfl, rfl⟩ ?_, fun q hq => ?_⟩))
  · obtain ⟨⟨o1, o2, o3, o4, o5, o6⟩, r0, r1, r2, r3, r4, r5, r6, r7, r8, r9⟩ := hm
    refine And.intro (And.intro o1 (And.intro o2 (And.intro o3 (And.intro o4 (And.intro hs o6))))) (And.intro (fun f hf => ?_) ?_)
    · rw [x_updN _ _ (by omega), x_updN _ _ (by omega)]
      exact r0 f hf
    · refine ⟨?_, ?_, ?_, x_updS _ _ _, ?_, ?_, ?_, ?_, ?_⟩
      all_goals (rw [x_updN _ _ (by omega)]; assumption)
  · rw [x_updN _ _ (by omega)]
    exact hf q hq
/-- the reference's plan from a state that stands -/
theorem x_plan5A {is doings doing kinds firsts secs row : Nat → Int32} {rp : TRP} {hot tw tm ta th : Int32} {m s : Nat} {J : TJ} (hrp : RelRp rp is) (hp : RelPl m kinds firsts secs hot doings doing) (hs : s < 900000) (h1 : JT s J) (h2 : JRel J tw tm ta th row) :
    JT (s + x_tot secs m 0) (x_pl rp kinds firsts secs m 0 J) ∧ ∃ (tw' tm' ta' th' : Int32) (row' : Nat → Int32), F_X5_plan is doings doing row tw tm ta th hot = (tw', tm', ta', th', row') ∧ JRel (x_pl rp kinds firsts secs m 0 J) tw' tm' ta' th' row' ∧ ∀ q : Nat, q < 60 → row' q = row q := by
  have ht := x_tot_pl hp
  have e : (doings 0).toNatClampNeg = m := by rw [hp.2.1, nI_clamp (by have := hp.1; omega)]
  obtain ⟨i1, tw', tm', ta', th', row', i2, i3, i4⟩ := x_plan5 hrp hp (m + 1) 0 s J tw tm ta th row (by omega) (by rw [Nat.sub_zero]; omega) h1 h2
  rw [Nat.sub_zero] at i1 i3
  refine And.intro i1 ⟨tw', tm', ta', th', row', ?_, i3, i4⟩
  rw [F_X5_plan, x_nmE, e, i2]
theorem x_mn_assoc (a b c : Int32) : (if (if c < b then c else b) < a then (if c < b then c else b) else a) = (if c < (if b < a then b else a) then c else (if b < a then b else a)) := by
  by_cases h1 : c < b
  · rw [if_pos h1]
    by_cases h2 : b < a
    · rw [if_pos h2, if_pos h1, if_pos (Int32.lt_trans h1 h2)]
    · rw [if_neg h2]
  · rw [if_neg h1]
    by_cases h2 : b < a
    · rw [if_pos h2, if_neg h1]
    · rw [if_neg h2, if_neg]
      intro h3
      rw [Int32.lt_iff_toInt_lt] at h1 h2 h3
      omega
theorem x_brown5L {row brown : Nat → Int32} (h : ∀ f : Nat, f < 4 → row (65 + f) = brown f) : F_X5_brown row 0 = F_X1_leastBrown brown := by
  have st : ∀ (n k : Nat) (l : Int32), k < 4 → F_X5_brown_L10 row 0 (n + 1) l k = F_X5_brown_L10 row 0 n (if brown k < l then brown k else l) (k + 1) := by
    intro n k l hk
    rw [F_X5_brown_L10, if_neg (by omega), x_nmE, x_nmE, h k hk]
    have e : (if (if brown k ≤ l then (0 : Int32) else 1) = 0 then if brown k = l then l else brown k else l) = (if brown k < l then brown k else l) := by
      by_cases c : brown k ≤ l
      · rw [if_pos c, if_pos rfl]
        by_cases c2 : brown k = l
        · rw [if_pos c2, c2, ite_self]
        · rw [if_neg c2, if_pos]
          rw [Int32.le_iff_toInt_le] at c
          rw [Int32.lt_iff_toInt_lt]
          have c3 : ¬ (brown k).toInt = l.toInt := fun q => c2 (Int32.toInt_inj.mp q)
          omega
      · rw [if_neg c, if_neg (by decide), if_neg (fun q => c (Int32.le_of_lt q))]
    rw [e]
  have l : ∀ x : Int32, F_X5_brown_L10 row 0 (1 + 1) x 4 = x := fun x => by rw [F_X5_brown_L10, if_pos (Nat.le_refl _)]
  rw [F_X5_brown, x_nmE, st 4 1 _ (by decide), st 3 2 _ (by decide), st 2 3 _ (by decide)]
  have h0 : row 65 = brown 0 := h 0 (by decide)
  rw [l, h0, F_X1_leastBrown]
  repeat rw [x_nmE]
  rw [x_mn_assoc]
theorem x_brown5G {row brown : Nat → Int32} (h : ∀ f : Nat, f < 4 → row (65 + f) = brown f) : F_X5_brown row 1 = F_X1_greatestBrown brown := by
  have st : ∀ (n k : Nat) (l : Int32), k < 4 → F_X5_brown_L10 row 1 (n + 1) l k = F_X5_brown_L10 row 1 n (if l < brown k then brown k else l) (k + 1) := by
    intro n k l hk
    rw [F_X5_brown_L10, if_neg (by omega), x_nmE, x_nmE, h k hk]
    have e : (if (if brown k ≤ l then (0 : Int32) else 1) = 1 then if brown k = l then l else brown k else l) = (if l < brown k then brown k else l) := by
      by_cases c : brown k ≤ l
      · rw [if_pos c, if_neg (by decide), if_neg (Int32.not_lt.mpr c)]
      · have c3 : l < brown k := Int32.not_le.mp c
        have c2 : ¬ brown k = l := fun q => c (by rw [q]; exact Int32.le_refl _)
        rw [if_neg c, if_pos rfl, if_neg c2, if_pos c3]
    rw [e]
  have l : ∀ x : Int32, F_X5_brown_L10 row 1 (1 + 1) x 4 = x := fun x => by rw [F_X5_brown_L10, if_pos (Nat.le_refl _)]
  rw [F_X5_brown, x_nmE, st 4 1 _ (by decide), st 3 2 _ (by decide), st 2 3 _ (by decide)]
  have h0 : row 65 = brown 0 := h 0 (by decide)
  rw [l, h0, F_X1_greatestBrown]
  repeat rw [x_nmE]
  rw [x_mx_assoc]
theorem s_run {t_kept : Nat → Int32} {t_heats : Nat → Int32} {t_salts : Nat → Int32} {t_crumbsOf : Nat → Int32} {t_tests : Nat} {t_traced : Int64} {r_radius : Int32} {r_skin : Int32} {r_filling : Int32} {r_water : Int32} {r_ends : Int32} {r_thin : Int32} {r_chance : Int32} {r_bentFace : Int32} {r_bentBy : Int32} {r_doings : Nat} {r_kinds : Nat → Int32} {r_firsts : Nat → Int32} {r_seconds : Nat → Int32} {d_seconds : Nat → Int32} {e_text : Nat → Int32} {e_length : Nat} {m_down : Int32} {m_degrees : Nat → Int32} {m_brown : Nat → Int32} {m_core : Int32} {m_water : Int32} {m_pricked : Int32} {m_thinSpots : Int32} {m_seconds : Int32} {m_gone : Int32} {m_splitAt : Int32} {m_steam : Int32} {j_when : Int32} {j_greatest : Int32} {j_greatestAt : Int32} {j_hiss : Int32} {jm_down : Int32} {jm_degrees : Nat → Int32} {jm_brown : Nat → Int32} {jm_core : Int32} {jm_water : Int32} {jm_pricked : Int32} {jm_thinSpots : Int32} {jm_seconds : Int32} {jm_gone : Int32} {jm_splitAt : Int32} {jm_steam : Int32} {i0_down : Int32} {i0_degrees : Nat → Int32} {i0_brown : Nat → Int32} {i0_core : Int32} {i0_water : Int32} {i0_pricked : Int32} {i0_thinSpots : Int32} {i0_seconds : Int32} {i0_gone : Int32} {i0_splitAt : Int32} {i0_steam : Int32} {i1_down : Int32} {i1_degrees : Nat → Int32} {i1_brown : Nat → Int32} {i1_core : Int32} {i1_water : Int32} {i1_pricked : Int32} {i1_thinSpots : Int32} {i1_seconds : Int32} {i1_gone : Int32} {i1_splitAt : Int32} {i1_steam : Int32} {u_length : Nat} {u_text : Nat → Int32} {u_is : Nat → Int32} {u_doings : Nat → Int32} {u_doing : Nat → Int32} {u_row : Nat → Int32} {u_isKept : Nat → Int32} {u_when : Int32} {u_most : Int32} {u_mostAt : Int32} {u_hiss : Int32} {u_heats : Nat → Int32} {u_orders : Nat → Int32} {u_tests : Nat} {u_salt : Nat → Int32} {u_crumbs : Nat → Int32} {u_traced : Int64} {a1 : Int32} {a2 : Int32} {j_when_179 : Int32} {j_greatest_180 : Int32} {j_greatestAt_181 : Int32} {j_hiss_182 : Int32} {jm_down_183 : Int32} {jm_core_184 : Int32} {jm_water_185 : Int32} {jm_pricked_186 : Int32} {jm_thinSpots_187 : Int32} {jm_seconds_188 : Int32} {jm_gone_189 : Int32} {jm_splitAt_190 : Int32} {jm_steam_191 : Int32} {jm_degrees_192 : Nat → Int32} {jm_brown_193 : Nat → Int32} {u_when_197 : Int32} {u_most_198 : Int32} {u_mostAt_199 : Int32} {u_hiss_200 : Int32} {u_row_201 : Nat → Int32} {z_194 z_202 : Int32} (hI : Inv (r_radius, r_skin, r_filling, r_water, r_ends, r_thin, r_chance, r_bentFace, r_bentBy, r_doings, r_kinds, r_firsts, r_seconds) e_length e_text (m_down, m_core, m_water, m_pricked, m_thinSpots, m_seconds, m_gone, m_splitAt, m_steam, m_degrees, m_brown) (i0_down, i0_core, i0_water, i0_pricked, i0_thinSpots, i0_seconds, i0_gone, i0_splitAt, i0_steam, i0_degrees, i0_brown) (i1_down, i1_core, i1_water, i1_pricked, i1_thinSpots, i1_seconds, i1_gone, i1_splitAt, i1_steam, i1_degrees, i1_brown) t_kept t_heats t_tests t_salts t_crumbsOf t_traced u_length u_text u_is u_doings u_doing u_row u_isKept u_heats u_orders u_tests u_salt u_crumbs u_traced d_seconds) (h4 : (z_194, j_when_179, j_greatest_180, j_greatestAt_181, j_hiss_182, jm_down_183, jm_core_184, jm_water_185, jm_pricked_186, jm_thinSpots_187, jm_seconds_188, jm_gone_189, jm_splitAt_190, jm_steam_191, jm_degrees_192, jm_brown_193) = F_X4_run r_radius r_skin r_filling r_water r_ends r_thin r_bentFace r_bentBy r_doings r_kinds r_firsts r_seconds j_when j_greatest j_greatestAt j_hiss jm_down jm_degrees jm_brown jm_core jm_water jm_pricked jm_thinSpots jm_seconds jm_gone jm_splitAt jm_steam a1 a2) (h5 : (z_202, u_when_197, u_most_198, u_mostAt_199, u_hiss_200, u_row_201) = F_X5_run u_is u_doings u_doing u_row u_when u_most u_mostAt u_hiss a1 a2) : z_194 = z_202 ∧ Inv (r_radius, r_skin, r_filling, r_water, r_ends, r_thin, r_chance, r_bentFace, r_bentBy, r_doings, r_kinds, r_firsts, r_seconds) e_length e_text (m_down, m_core, m_water, m_pricked, m_thinSpots, m_seconds, m_gone, m_splitAt, m_steam, m_degrees, m_brown) (i0_down, i0_core, i0_water, i0_pricked, i0_thinSpots, i0_seconds, i0_gone, i0_splitAt, i0_steam, i0_degrees, i0_brown) (i1_down, i1_core, i1_water, i1_pricked, i1_thinSpots, i1_seconds, i1_gone, i1_splitAt, i1_steam, i1_degrees, i1_brown) t_kept t_heats t_tests t_salts t_crumbsOf t_traced u_length u_text u_is u_doings u_doing u_row_201 u_isKept u_heats u_orders u_tests u_salt u_crumbs u_traced d_seconds := by
  have hI' := hI
  obtain ⟨hrec, -⟩ := hI'
  have hrp := x_relrp hrec
  have hpl := x_relpl hrec
  obtain ⟨⟨⟨-, -, -, hwb, -⟩, hn, hsec, -⟩, ⟨-, -, -, hw, -⟩, -⟩ := hrec
  rw [F_X4_run, x_nmE] at h4
  rw [F_X5_run, x_nmE] at h5
  by_cases c1 : F_X4_outside a1 0 15 = 0
  · rw [if_pos c1] at h4
    rw [if_neg (x_ioN 0 15 (by decide) (by decide) c1)] at h5
    obtain ⟨d1, d2, d3⟩ := x_outs (lo := 0) (hi := 15) (by decide) (by decide) c1
    rw [x_nmE, x_nmE] at h4 h5
    by_cases c2 : F_X4_outside a2 0 10 = 0
    · rw [if_pos c2] at h4
      rw [if_neg (x_ioN 0 10 (by decide) (by decide) c2)] at h5
      obtain ⟨g1, g2, g3⟩ := x_outs (lo := 0) (hi := 10) (by decide) (by decide) c2
      have hsp : Btw 0 (nI a1.toNatClampNeg) 15 := x_btw_nI (lo := 0) (hi := 15) (by omega) d2 (by decide)
      obtain ⟨f1, f2, f3, row0, f4, f5, f6⟩ := x_fresh5 (row := u_row) (dg := jm_degrees) (br := jm_brown) hw hwb hsp
      obtain ⟨p1, tw, tm, ta, th, row1, p2, p3, p4⟩ := x_plan5A (s := 0) hrp hpl (by omega) f1 f5
      rw [x_nmE, x_nmE, f4, x_nmE] at h5
      dsimp only at h5
      rw [p2] at h5
      rw [x_nmE, x_nmE, x_nmE, x_planS hn hsec] at h4
      have hfo := x_follow (rp := (r_radius, r_skin, r_filling, r_ends, r_thin, r_bentFace, r_bentBy)) (kinds := r_kinds) (firsts := r_firsts) (secs := r_seconds) (a3 := 0) (L := x_tot r_seconds r_doings 0) (doings := r_doings) (by have := x_tot_pl hpl; omega) hn (12 + 1) 0 0 (F_X0_setOut jm_degrees jm_brown r_water (nI a1.toNatClampNeg)) (by omega) (by rw [Nat.sub_zero]; have := x_tot_pl hpl; omega) f1 _ rfl
      rw [Nat.sub_zero] at hfo
      generalize F_X0_setOut jm_degrees jm_brown r_water (nI a1.toNatClampNeg) = J at f1 f2 f3 f5 p1 p3 hfo h4
      obtain ⟨wh, gr, ga, hi, down, core, water, pricked, thin, seconds, gone, splitAt, steam, degrees, brown⟩ := J
      have hfo2 : F_X0_follow wh gr ga hi down degrees brown core water pricked thin seconds gone splitAt steam r_radius r_skin r_filling r_ends r_thin r_bentFace r_bentBy r_doings r_kinds r_firsts r_seconds (nI (x_tot r_seconds r_doings 0)) 0 = x_jout (x_pl (r_radius, r_skin, r_filling, r_ends, r_thin, r_bentFace, r_bentBy) r_kinds r_firsts r_seconds r_doings 0 (wh, gr, ga, hi, down, core, water, pricked, thin, seconds, gone, splitAt, steam, degrees, brown)) := by
        rcases hfo with q | ⟨q, -⟩ | ⟨q, -⟩
        · exact q
        · exact absurd rfl q
        · exact absurd q (by omega)
      dsimp only at h4
      rw [hfo2] at h4
      generalize x_pl (r_radius, r_skin, r_filling, r_ends, r_thin, r_bentFace, r_bentBy) r_kinds r_firsts r_seconds r_doings 0 (wh, gr, ga, hi, down, core, water, pricked, thin, seconds, gone, splitAt, steam, degrees, brown) = JF at p1 p3 h4
      obtain ⟨wh1, gr1, ga1, hi1, down1, core1, water1, pricked1, thin1, seconds1, gone1, splitAt1, steam1, degrees1, brown1⟩ := JF
      obtain ⟨⟨rfl, rfl, rfl, rfl⟩, hM⟩ := p3
      obtain ⟨t1, t2, t3, t4⟩ := p1
      obtain ⟨-, r0, r1, r2, r3, r4, r5, r6, r7, r8, r9⟩ := hM
      have bl : F_X5_brown row1 0 = F_X1_leastBrown brown1 := x_brown5L (fun f hf => (r0 f hf).2)
      have bg : F_X5_brown row1 1 = F_X1_greatestBrown brown1 := x_brown5G (fun f hf => (r0 f hf).2)
      have q64 : row1 64 = core1 := r1
      have q69 : row1 69 = water1 := r2
      have q73 : row1 73 = gone1 := r6
      have q74 : row1 74 = splitAt1 := r7
      have hah : (if wh1 < 0 then (-9 : Int32) else if hi1 < 0 then -9 else if hi1 ≤ wh1 then wh1 - hi1 else -9) = F_X0_hissAhead wh1 hi1 := by
        have n9 : ∀ x : Int32, (x = -9 ∨ ∃ a : Nat, a ≤ 0 + x_tot r_seconds r_doings 0 ∧ x = nI a) → (x < 0 ↔ x = -9) := by
          intro x hx
          rcases hx with rfl | ⟨a, q1, rfl⟩
          · decide
          · have := x_tot_pl hpl
            exact ⟨fun q => absurd q (Int32.not_lt.mpr (nI_le (a := 0) (by omega) (by omega))), fun q => absurd q (x_nI9 (by omega))⟩
        have w9 : wh1 < 0 ↔ wh1 = -9 := n9 wh1 (by rcases t2 with ⟨-, q⟩ | ⟨-, q⟩; exact Or.inl q; exact Or.inr q)
        have h9 : hi1 < 0 ↔ hi1 = -9 := n9 hi1 t4
        rw [F_X0_hissAhead, x_nmE]
        by_cases c3 : wh1 = -9
        · rw [if_pos c3, if_pos (w9.mpr c3)]
        · rw [if_neg c3, if_neg (fun q => c3 (w9.mp q))]
          by_cases c4 : hi1 = -9
          · rw [if_pos c4, if_pos (h9.mpr c4)]
          · rw [if_neg c4, if_neg (fun q => c4 (h9.mp q))]
      dsimp only [x_jout] at h4
      repeat rw [x_nmE] at h4
      repeat rw [x_nmE] at h5
      dsimp only at h5
      rw [q64, q69, q73, q74, bl, bg, hah] at h5
      generalize a2.toNatClampNeg = j at h4 h5
      have fin : ∀ q : Nat, q < 60 → row1 q = u_row q := fun q hq => (p4 q hq).trans (f6 q hq)
      by_cases e0 : nI j = 0
      · rw [if_pos e0] at h4 h5
        simp only [Prod.mk.injEq] at h4 h5
        rw [h4.1, h5.1, h5.2.2.2.2.2]
        exact And.intro rfl (x_inv_row hI fin)
      rw [if_neg e0] at h4 h5
      by_cases e0 : nI j = 1
      · rw [if_pos e0] at h4 h5
        simp only [Prod.mk.injEq] at h4 h5
        rw [h4.1, h5.1, h5.2.2.2.2.2]
        exact And.intro rfl (x_inv_row hI fin)
      rw [if_neg e0] at h4 h5
      by_cases e0 : nI j = 2
      · rw [if_pos e0] at h4 h5
        simp only [Prod.mk.injEq] at h4 h5
        rw [h4.1, h5.1, h5.2.2.2.2.2]
        exact And.intro rfl (x_inv_row hI fin)
      rw [if_neg e0] at h4 h5
      by_cases e0 : nI j = 3
      · rw [if_pos e0] at h4 h5
        simp only [Prod.mk.injEq] at h4 h5
        rw [h4.1, h5.1, h5.2.2.2.2.2]
        exact And.intro rfl (x_inv_row hI fin)
      rw [if_neg e0] at h4 h5
      by_cases e0 : nI j = 4
      · rw [if_pos e0] at h4 h5
        simp only [Prod.mk.injEq] at h4 h5
        rw [h4.1, h5.1, h5.2.2.2.2.2]
        exact And.intro rfl (x_inv_row hI fin)
      rw [if_neg e0] at h4 h5
      by_cases e0 : nI j = 5
      · rw [if_pos e0] at h4 h5
        simp only [Prod.mk.injEq] at h4 h5
        rw [h4.1, h5.1, h5.2.2.2.2.2]
        exact And.intro rfl (x_inv_row hI fin)
      rw [if_neg e0] at h4 h5
      by_cases e0 : nI j = 6
      · rw [if_pos e0] at h4 h5
        simp only [Prod.mk.injEq] at h4 h5
        rw [h4.1, h5.1, h5.2.2.2.2.2]
        exact And.intro rfl (x_inv_row hI fin)
      rw [if_neg e0] at h4 h5
      by_cases e0 : nI j = 7
      · rw [if_pos e0] at h4 h5
        simp only [Prod.mk.injEq] at h4 h5
        rw [h4.1, h5.1, h5.2.2.2.2.2]
        exact And.intro rfl (x_inv_row hI fin)
      rw [if_neg e0] at h4 h5
      by_cases e0 : nI j = 8
      · rw [if_pos e0] at h4 h5
        simp only [Prod.mk.injEq] at h4 h5
        rw [h4.1, h5.1, h5.2.2.2.2.2]
        exact And.intro rfl (x_inv_row hI fin)
      rw [if_neg e0] at h4 h5
      by_cases e0 : nI j = 9
      · rw [if_pos e0] at h4 h5
        simp only [Prod.mk.injEq] at h4 h5
        rw [h4.1, h5.1, h5.2.2.2.2.2]
        exact And.intro rfl (x_inv_row hI fin)
      rw [if_neg e0] at h4 h5
      simp only [Prod.mk.injEq] at h4 h5
      rw [h4.1, h5.1, h5.2.2.2.2.2]
      exact And.intro rfl (x_inv_row hI fin)
    · rw [if_neg c2] at h4
      rw [if_pos (x_ioP 0 10 (by decide) (by decide) c2)] at h5
      simp only [Prod.mk.injEq] at h4 h5
      rw [h4.1, h5.1, h5.2.2.2.2.2]
      exact And.intro rfl hI
  · rw [if_neg c1] at h4
    rw [if_pos (x_ioP 0 15 (by decide) (by decide) c1)] at h5
    simp only [Prod.mk.injEq] at h4 h5
    rw [h4.1, h5.1, h5.2.2.2.2.2]
    exact And.intro rfl hI
