/-! the steps of the law: all sets of thin spots at once; odds -/
theorem x_jpsThin {rp : TRP} {kind ht A : Int32} (hrp : RpOk rp) (hh : Btw 0 ht 300) : ∀ (n s : Nat) (J : TJ), s + n < 1000000 → JT s J → MomOk J.2.2.2.2 → jThin J = 15 → jGone (x_jps rp kind ht n J) = 0 → jGone J = 0 ∧ x_jps rp kind ht n (x_thin A J) = x_thin A (x_jps rp kind ht n J) := by
  intro n
  induction n with
  | zero => intro s J _ _ _ _ h; exact ⟨h, rfl⟩
  | succ n ih =>
    intro s J hs h hok h15 h0
    rw [x_jpsS] at h0 ⊢
    rw [x_jpsS]
    obtain ⟨i1, i2, i3, i4⟩ := x_jpT (rp := rp) (kind := kind) (ht := ht) (by omega) h
    obtain ⟨l1, l2⟩ := ih (s + 1) _ (by omega) i1 (x_jpOk hrp hh hok) (i2.trans h15) h0
    have hg : jGone J = 0 := by
      by_cases c : jGone J = 0
      · exact c
      · exact absurd ((i3 c).1.symm.trans l1) c
    refine ⟨hg, ?_⟩
    rw [x_jpThin hrp hh hok h15 hg l1]
    exact l2
def PlOk (n : Nat) (kinds firsts secs : Nat → Int32) : Prop := ∀ k : Nat, k < n → (secs k).toNatClampNeg ≤ 99 ∧ (((kinds k = 0 ∨ kinds k = 3) ∧ Btw 0 (firsts k) 300) ∨ (secs k = 0 ∧ ((kinds k = 1 ∧ Btw 1 (firsts k) 3) ∨ (kinds k = 2 ∧ Btw 1 (firsts k) 9))))
theorem x_plOk {n : Nat} {kinds firsts secs doings doing : Nat → Int32} {hot : Int32} (h : RelPl n kinds firsts secs hot doings doing) : PlOk n kinds firsts secs := by
  intro k hk
  obtain ⟨-, -, p3, p4⟩ := h.2.2 k hk
  refine ⟨p3, ?_⟩
  rcases p4 with ⟨q1, q2, q3⟩ | ⟨q1, q2, q3, q4⟩ | ⟨q1, q2, q3, q4⟩
  · exact Or.inl ⟨q1, q3⟩
  · exact Or.inr ⟨q4, Or.inl ⟨q1, q3⟩⟩
  · exact Or.inr ⟨q4, Or.inr ⟨q1, q3⟩⟩
theorem x_plThin {rp : TRP} {kinds firsts secs : Nat → Int32} {A : Int32} {n : Nat} (hrp : RpOk rp) (hpl : PlOk n kinds firsts secs) : ∀ (c k s : Nat) (J : TJ), k + c ≤ n → s + x_tot secs c k < 1000000 → JT s J → MomOk J.2.2.2.2 → jThin J = 15 → jGone (x_pl rp kinds firsts secs c k J) = 0 → jGone J = 0 ∧ x_pl rp kinds firsts secs c k (x_thin A J) = x_thin A (x_pl rp kinds firsts secs c k J) := by
  intro c
  induction c with
  | zero => intro k s J _ _ _ _ _ h; exact ⟨h, rfl⟩
  | succ c ih =>
    intro k s J hk hs h hok h15 h0
    rw [x_totS] at hs
    rw [x_plS] at h0 ⊢
    rw [x_plS]
    obtain ⟨p1, p2⟩ := hpl k (by omega)
    obtain ⟨d1, ⟨d2, d3, d4⟩, d5⟩ := x_jdE (kinds k) (firsts k) J
    have hd : MomOk (x_jd (kinds k) (firsts k) J).2.2.2.2 := by
      refine x_jdOk hok ?_
      rcases p2 with ⟨q | q, -⟩ | ⟨-, ⟨q1, q2⟩ | ⟨q1, q2⟩⟩
      · exact Or.inl q
      · exact Or.inr (Or.inl q)
      · exact Or.inr (Or.inr (Or.inl ⟨q1, q2⟩))
      · exact Or.inr (Or.inr (Or.inr ⟨q1, x_bW q2 (by decide) (by decide)⟩))
    have tj : JT s (x_jd (kinds k) (firsts k) J) := x_jdT h
    obtain ⟨i1, i2, i3, i4⟩ := x_jpsT (rp := rp) (kind := kinds k) (ht := firsts k) (secs k).toNatClampNeg s (x_jd (kinds k) (firsts k) J) (by omega) tj
    have hok2 : MomOk (x_jps rp (kinds k) (firsts k) (secs k).toNatClampNeg (x_jd (kinds k) (firsts k) J)).2.2.2.2 := by
      rcases p2 with ⟨-, q⟩ | ⟨q, -⟩
      · exact x_jpsOk hrp q _ _ hd
      · rw [q, x_z0]; exact hd
    obtain ⟨l1, l2⟩ := ih (k + 1) (s + (secs k).toNatClampNeg) _ (by omega) (by omega) i1 hok2 (i2.trans (d1.trans h15)) h0
    have e : jGone (x_jd (kinds k) (firsts k) J) = 0 ∧ x_jps rp (kinds k) (firsts k) (secs k).toNatClampNeg (x_thin A (x_jd (kinds k) (firsts k) J)) = x_thin A (x_jps rp (kinds k) (firsts k) (secs k).toNatClampNeg (x_jd (kinds k) (firsts k) J)) := by
      rcases p2 with ⟨-, q⟩ | ⟨q, -⟩
      · exact x_jpsThin hrp q _ s _ (by omega) tj hd (d1.trans h15) l1
      · rw [q, x_z0] at l1 ⊢
        exact ⟨l1, rfl⟩
    refine ⟨d2.symm.trans e.1, ?_⟩
    rw [← l2, ← e.2]
    rfl
/-- the state before the plan: some pricks, some simmering -/
def x_prep (rp : TRP) (dg br : Nat → Int32) (water A : Int32) (p t : Nat) : TJ := x_jps rp 3 (nI t) (if t = 0 then 0 else 60) (x_jd 2 (nI p) (F_X0_setOut dg br water A))
theorem x_fThin (dg br : Nat → Int32) (water A B : Int32) : F_X0_setOut dg br water A = x_thin A (F_X0_setOut dg br water B) := rfl
theorem x_simL {is : Nat → Int32} {rp : TRP} {t : Nat} (hrp : RelRp rp is) (ht0 : 0 < t) (ht : t ≤ 100) : ∀ (n k s : Nat) (J : TJ) (tw tm ta th : Int32) (row : Nat → Int32), 60 - k < n → s + (60 - k) < 1000000 → JT s J → JRel J tw tm ta th row →
      JT (s + (60 - k)) (x_jps rp 3 (nI t) (60 - k) J) ∧ ∃ (tw' tm' ta' th' : Int32) (row' : Nat → Int32), F_X5_holdsAll_L31 is (nI t) n k tw tm ta th row = (tw', tm', ta', th', row') ∧ JRel (x_jps rp 3 (nI t) (60 - k) J) tw' tm' ta' th' row' ∧ ∀ q : Nat, q < 60 → row' q = row q := by
  intro n
  induction n with
  | zero => intro k s J tw tm ta th row a; exact absurd a (Nat.not_lt_zero _)
  | succ n ih =>
    intro k s J tw tm ta th row a b h1 h2
    rw [F_X5_holdsAll_L31]
    by_cases c : 60 ≤ k
    · rw [if_pos c, show 60 - k = 0 by omega]
      exact And.intro h1 ⟨tw, tm, ta, th, row, rfl, h2, fun _ _ => rfl⟩
    · have c0 : ¬ nI t ≤ 0 := Int32.not_le.mpr (nI_lt (a := 0) ht0 (by omega))
      rw [if_neg c, if_neg c0]
      obtain ⟨i1, tw1, tm1, ta1, th1, row1, i2, i3, i4⟩ := x_tried (kind := 3) (kind5 := 1) (ht := nI t) hrp (Or.inr ⟨by decide, rfl⟩) (x_btw_nI (lo := 0) (hi := 300) (by omega) (by omega) (by decide)) (by omega) h1 h2
      obtain ⟨l1, tw2, tm2, ta2, th2, row2, l2, l3, l4⟩ := ih (k + 1) (s + 1) _ tw1 tm1 ta1 th1 row1 (by omega) (by omega) i1 i3
      rw [i2, x_nmE]
      rw [show 60 - k = (60 - (k + 1)) + 1 by omega, x_jpsS, show s + ((60 - (k + 1)) + 1) = s + 1 + (60 - (k + 1)) by omega]
      exact And.intro l1 ⟨tw2, tm2, ta2, th2, row2, l2, l3, fun q hq => (l4 q hq).trans (i4 q hq)⟩
theorem x_prep5 {is row : Nat → Int32} {rp : TRP} {dg br : Nat → Int32} {water A : Int32} {p t : Nat} (hrp : RelRp rp is) (hw : is 3 = water) (hb : Btw 0 water 999) (hA : Btw 0 A 15) (hp : p ≤ 9) (ht : t ≤ 100) :
    ∃ row1 : Nat → Int32, F_X5_fresh is row A = (-9, 0, -9, -9, row1) ∧ (∀ q : Nat, q < 60 → row1 q = row q) ∧ JRel (x_jd 2 (nI p) (F_X0_setOut dg br water A)) (-9) 0 (-9) (-9) (F_X5_pricked row1 3 (nI p)) ∧ (∀ q : Nat, q < 60 → F_X5_pricked row1 3 (nI p) q = row1 q) ∧ JT (if t = 0 then 0 else 60) (x_prep rp dg br water A p t) ∧
      ∃ (tw tm ta th : Int32) (row2 : Nat → Int32), F_X5_holdsAll_L31 is (nI t) (60 + 1) 0 (-9) 0 (-9) (-9) (F_X5_pricked row1 3 (nI p)) = (tw, tm, ta, th, row2) ∧ JRel (x_prep rp dg br water A p t) tw tm ta th row2 ∧ ∀ q : Nat, q < 60 → row2 q = row q := by
  obtain ⟨f1, f2, f3, row1, f4, f5, f6⟩ := x_fresh5 (row := row) (dg := dg) (br := br) hw hb hA
  obtain ⟨g1, g2⟩ := x_pricked5 (first := nI p) (x_btw_nI (lo := 0) (hi := 9) (by omega) hp (by decide)) f5
  have g3 : JT 0 (x_jd 2 (nI p) (F_X0_setOut dg br water A)) := x_jdT f1
  rw [x_prep]
  by_cases c : t = 0
  · subst c
    refine ⟨row1, f4, f6, g1, g2, ?_, -9, 0, -9, -9, _, ?_, ?_, fun q hq => (g2 q hq).trans (f6 q hq)⟩
    · rw [if_pos rfl]; exact g3
    · rw [F_X5_holdsAll_L31, if_neg (by decide), if_pos (by decide)]
    · rw [if_pos rfl]; exact g1
  · rw [if_neg c]
    obtain ⟨i1, tw, tm, ta, th, row2, i2, i3, i4⟩ := x_simL (t := t) hrp (by omega) ht (60 + 1) 0 0 _ _ _ _ _ _ (by omega) (by omega) g3 g1
    rw [Nat.sub_zero, Nat.zero_add] at i1
    rw [Nat.sub_zero] at i3
    refine ⟨row1, f4, f6, g1, g2, ?_, tw, tm, ta, th, row2, i2, i3, fun q hq => (i4 q hq).trans ((g2 q hq).trans (f6 q hq))⟩
    exact i1
theorem x_prepThin {rp : TRP} {dg br : Nat → Int32} {water A : Int32} {p t : Nat} (hrp : RpOk rp) (hb : Btw 0 water 999) (hp : p ≤ 9) (ht : t ≤ 100) (h0 : jGone (x_prep rp dg br water 15 p t) = 0) : MomOk (x_prep rp dg br water 15 p t).2.2.2.2 ∧ jThin (x_prep rp dg br water 15 p t) = 15 ∧ x_prep rp dg br water A p t = x_thin A (x_prep rp dg br water 15 p t) := by
  obtain ⟨f1, f2, f3, row1, f4, f5, f6⟩ := x_fresh5 (is := fun _ => water) (row := fun _ => 0) (dg := dg) (br := br) (spots := 15) rfl hb ⟨by decide, by decide⟩
  have g3 : JT 0 (x_jd 2 (nI p) (F_X0_setOut dg br water 15)) := x_jdT f1
  have hok : MomOk (x_jd 2 (nI p) (F_X0_setOut dg br water 15)).2.2.2.2 := by
    refine x_jdOk ?_ (Or.inr (Or.inr (Or.inr ⟨rfl, x_btw_nI (lo := 0) (hi := 9) (by omega) hp (by decide)⟩)))
    generalize F_X0_setOut dg br water 15 = J at f5
    obtain ⟨wh, gr, ga, hi, mo⟩ := J
    exact f5.2.1
  have hh : Btw 0 (nI t) 300 := x_btw_nI (lo := 0) (hi := 300) (by omega) (by omega) (by decide)
  rw [x_prep] at h0 ⊢
  rw [x_prep]
  refine ⟨x_jpsOk hrp hh _ _ hok, ?_, ?_⟩
  · exact (x_jpsT (rp := rp) (kind := 3) (ht := nI t) _ 0 _ (by split <;> omega) g3).2.1.trans f2
  · exact (x_jpsThin (A := A) hrp hh _ 0 _ (by split <;> omega) g3 hok f2 h0).2
/-- whole by the plan behind the start: of all sets as of all spots -/
def x_wh (rp : TRP) (kinds firsts secs : Nat → Int32) (n : Nat) (dg br : Nat → Int32) (water : Int32) (p t : Nat) : TJ := x_pl rp kinds firsts secs n 0 (x_prep rp dg br water 15 p t)
theorem x_whThin {rp : TRP} {kinds firsts secs doings doing : Nat → Int32} {hot : Int32} {n : Nat} {dg br : Nat → Int32} {water A : Int32} {p t : Nat} (hrp : RpOk rp) (hpl : RelPl n kinds firsts secs hot doings doing) (hb : Btw 0 water 999) (hp : p ≤ 9) (ht : t ≤ 100) (h0 : jGone (x_wh rp kinds firsts secs n dg br water p t) = 0) : x_pl rp kinds firsts secs n 0 (x_prep rp dg br water A p t) = x_thin A (x_wh rp kinds firsts secs n dg br water p t) := by
  have htot := x_tot_pl hpl
  have g : JT (if t = 0 then 0 else 60) (x_prep rp dg br water 15 p t) := by
    obtain ⟨f1, f2, f3, row1, f4, f5, f6⟩ := x_fresh5 (is := fun _ => water) (row := fun _ => 0) (dg := dg) (br := br) (spots := 15) rfl hb ⟨by decide, by decide⟩
    have g3 : JT 0 (x_jd 2 (nI p) (F_X0_setOut dg br water 15)) := x_jdT f1
    have g4 := (x_jpsT (rp := rp) (kind := 3) (ht := nI t) (if t = 0 then 0 else 60) 0 _ (by split <;> omega) g3).1
    rw [Nat.zero_add] at g4
    exact g4
  have stuck : jGone (x_prep rp dg br water 15 p t) = 0 := by
    by_cases c : jGone (x_prep rp dg br water 15 p t) = 0
    · exact c
    · have s := (x_plT (rp := rp) (kinds := kinds) (firsts := firsts) (secs := secs) n 0 _ _ (by split <;> omega) g).2.2.1 c
      exact absurd (s.1.symm.trans h0) c
  obtain ⟨k1, k2, k3⟩ := x_prepThin (A := A) hrp hb hp ht stuck
  rw [x_wh] at h0 ⊢
  rw [k3]
  exact (x_plThin (A := A) hrp (x_plOk hpl) n 0 _ _ (by omega) (by split <;> omega) g k1 k2 h0).2
theorem x_when {J : TJ} {s : Nat} (h : JT s J) (hs : s < 1000000) : (0 ≤ jWhen J ↔ ¬ jGone J = 0) := by
  obtain ⟨wh, gr, ga, hi, down, core, water, pricked, thin, seconds, gone, splitAt, steam, degrees, brown⟩ := J
  show 0 ≤ wh ↔ ¬ gone = 0
  rcases h.2.1 with ⟨q1, q2⟩ | ⟨q1, w, q2, q3⟩
  · have q2 : wh = -9 := q2
    rw [q2]
    exact ⟨fun q => absurd q (by decide), fun q => absurd q1 q⟩
  · have q3 : wh = nI w := q3
    rw [q3]
    exact ⟨fun _ => q1, fun _ => nI_le (a := 0) (by omega) (by omega)⟩
theorem x_jrel {J : TJ} {tw tm ta th : Int32} {row : Nat → Int32} (h : JRel J tw tm ta th row) : jWhen J = tw := by
  obtain ⟨wh, gr, ga, hi, mo⟩ := J
  exact h.1.1
theorem x_holdsAll5 {is doings doing : Nat → Int32} {rp : TRP} {kinds firsts secs : Nat → Int32} {n : Nat} {dg br : Nat → Int32} {water : Int32} {p t : Nat} (hrp : RelRp rp is) (hrk : RpOk rp) (hpl : RelPl n kinds firsts secs 0 doings doing) (hw : is 3 = water) (hb : Btw 0 water 999) (hp : p ≤ 9) (ht : t ≤ 100) :
    ∀ (m k : Nat) (fl tw tm ta th : Int32) (row : Nat → Int32), 16 - k < m → (fl = 0 ∨ fl = 1) → ∃ (fl' tw' tm' ta' th' : Int32) (row' : Nat → Int32), F_X5_holdsAll_L5 is doings doing (nI p) (nI t) m fl k tw tm ta th row = (fl', tw', tm', ta', th', row') ∧ (∀ q : Nat, q < 60 → row' q = row q) ∧ (jGone (x_wh rp kinds firsts secs n dg br water p t) = 0 → fl = 1 → fl' = 1) ∧ (¬ jGone (x_wh rp kinds firsts secs n dg br water p t) = 0 → (fl = 0 ∨ k ≤ 15) → fl' = 0) := by
  intro m
  induction m with
  | zero => intro k fl tw tm ta th row a; exact absurd a (Nat.not_lt_zero _)
  | succ m ih =>
    intro k fl tw tm ta th row a hfl
    rw [F_X5_holdsAll_L5]
    by_cases c : 16 ≤ k
    · rw [if_pos c]
      exact ⟨fl, tw, tm, ta, th, row, rfl, fun _ _ => rfl, fun _ q => q, fun _ q => by rcases q with q | q; exact q; exact absurd q (by omega)⟩
    · rw [if_neg c]
      by_cases c0 : fl = 0
      · rw [if_pos c0]
        exact ⟨fl, tw, tm, ta, th, row, rfl, fun _ _ => rfl, fun _ q => q, fun _ q => c0⟩
      · rw [if_neg c0]
        have hk : Btw 0 (nI k) 15 := x_btw_nI (lo := 0) (hi := 15) (by omega) (by omega) (by decide)
        obtain ⟨row1, f1, f2, f3, f4, f5, tw1, tm1, ta1, th1, row2, f6, f7, f8⟩ := x_prep5 (row := row) (dg := dg) (br := br) (p := p) (t := t) hrp hw hb hk hp ht
        obtain ⟨i1, tw2, tm2, ta2, th2, row3, i2, i3, i4⟩ := x_plan5A hrp hpl (by split <;> omega) f5 f7
        rw [f1, x_nmE, x_nmE]
        dsimp only
        rw [f6, x_nmE]
        dsimp only
        rw [i2, x_nmE, x_nmE]
        dsimp only
        have hwn := x_when i1 (by have := x_tot_pl hpl; split <;> omega)
        rw [x_jrel i3] at hwn
        have hfl2 : (if 0 ≤ tw2 then (0 : Int32) else 1) = 0 ∨ (if 0 ≤ tw2 then (0 : Int32) else 1) = 1 := by split; exact Or.inl rfl; exact Or.inr rfl
        obtain ⟨fl', tw', tm', ta', th', row', l1, l2, l3, l4⟩ := ih (k + 1) (if 0 ≤ tw2 then 0 else 1) tw2 tm2 ta2 th2 row3 (by omega) hfl2
        refine ⟨fl', tw', tm', ta', th', row', l1, fun q hq => (l2 q hq).trans ((i4 q hq).trans (f8 q hq)), fun q1 q2 => l3 q1 ?_, fun q1 q2 => l4 q1 ?_⟩
        · rw [if_neg]
          intro q3
          refine (hwn.mp q3) ?_
          rw [x_whThin (A := nI k) hrk hpl hb hp ht q1]
          generalize x_wh rp kinds firsts secs n dg br water p t = J at q1
          obtain ⟨wh, gr, ga, hi, down, core, water, pricked, thin, seconds, gone, splitAt, steam, degrees, brown⟩ := J
          exact q1
        · by_cases c15 : k = 15
          · refine Or.inl ?_
            rw [if_pos]
            refine hwn.mpr ?_
            rw [c15]
            exact q1
          · exact Or.inr (by omega)
theorem x_holdsAll {is doings doing row : Nat → Int32} {rp : TRP} {kinds firsts secs : Nat → Int32} {n : Nat} {dg br : Nat → Int32} {water tw tm ta th : Int32} {p t : Nat} (hrp : RelRp rp is) (hrk : RpOk rp) (hpl : RelPl n kinds firsts secs 0 doings doing) (hw : is 3 = water) (hb : Btw 0 water 999) (hp : p ≤ 9) (ht : t ≤ 100) :
    ∃ (tw' tm' ta' th' : Int32) (row' : Nat → Int32), F_X5_holdsAll is doings doing row tw tm ta th (nI p) (nI t) = ((if jGone (x_wh rp kinds firsts secs n dg br water p t) = 0 then 1 else 0), tw', tm', ta', th', row') ∧ (∀ q : Nat, q < 60 → row' q = row q) := by
  obtain ⟨fl', tw', tm', ta', th', row', l1, l2, l3, l4⟩ := x_holdsAll5 (dg := dg) (br := br) hrp hrk hpl hw hb hp ht (16 + 1) 0 1 tw tm ta th row (by omega) (Or.inr rfl)
  refine ⟨tw', tm', ta', th', row', ?_, l2⟩
  rw [F_X5_holdsAll, x_nmE, l1]
  dsimp only
  by_cases c : jGone (x_wh rp kinds firsts secs n dg br water p t) = 0
  · rw [if_pos c, l3 c rfl]
  · rw [if_neg c, l4 c (Or.inr (by omega))]
