/-! the steps of the law: planned -/
def x_tj (each k : Nat) (J : TJ) : TJ := if 0 < k ∧ k % each = 0 then x_jd 1 1 J else J
def x_ts (rp : TRP) (h : Int32) (each : Nat) : Nat → Nat → TJ → TJ
  | 0, _, J => J
  | c + 1, k, J => x_ts rp h each c (k + 1) (x_jp rp 0 h (x_tj each k J))
theorem x_tsS (rp : TRP) (h : Int32) (each c k : Nat) (J : TJ) : x_ts rp h each (c + 1) k J = x_ts rp h each c (k + 1) (x_jp rp 0 h (x_tj each k J)) := rfl
abbrev TO13 : Type := Int32 × Int32 × Int32 × Int32 × Int32 × Int32 × Int32 × Int32 × Int32 × Int32 × Int32 × (Nat → Int32) × (Nat → Int32)
def x_o13 (J : TJ) : TO13 := match J with
  | (wh, gr, ga, hi, down, core, water, _, _, seconds, gone, splitAt, steam, degrees, brown) => (wh, gr, ga, hi, down, core, water, seconds, gone, splitAt, steam, degrees, brown)
def x_l6 (rp : TRP) (m : Nat) (h each : Int32) (n : Nat) (since : Int32) (k : Nat) (J : TJ) : TO13 := match rp, J with
  | (radius, skin, filling, ends, thinBy, bentFace, bentBy), (wh, gr, ga, hi, down, core, water, pricked, thin, seconds, gone, splitAt, steam, degrees, brown) => F_X0_turnEach_L6 pricked thin radius skin filling ends thinBy bentFace bentBy m h each n since k wh gr ga hi down core water seconds gone splitAt steam degrees brown
theorem x_l6S (rp : TRP) (m : Nat) (h each : Int32) (n : Nat) (since : Int32) (k : Nat) (J : TJ) : x_l6 rp m h each (n + 1) since k J = if m ≤ k then x_o13 J else if jGone J = 0 then x_l6 rp m h each n ((if since = each then 0 else since) + 1) (k + 1) (x_jp rp 0 h (if since = each then x_jd 1 1 J else J)) else x_o13 J := by
  obtain ⟨radius, skin, filling, ends, thinBy, bentFace, bentBy⟩ := rp
  obtain ⟨wh, gr, ga, hi, down, core, water, pricked, thin, seconds, gone, splitAt, steam, degrees, brown⟩ := J
  simp only [x_l6]
  rw [F_X0_turnEach_L6]
  by_cases c1 : m ≤ k
  · rw [if_pos c1, if_pos c1]; rfl
  · rw [if_neg c1, if_neg c1]
    by_cases c2 : gone = 0
    · have c2' : jGone (wh, gr, ga, hi, down, core, water, pricked, thin, seconds, gone, splitAt, steam, degrees, brown) = 0 := c2
      rw [if_pos c2, if_pos c2']
      by_cases c3 : since = each
      · rw [if_pos c3, if_pos c3, if_pos c3]
        repeat rw [x_nmE]
        dsimp only
        have e : x_jd 1 1 (wh, gr, ga, hi, down, core, water, pricked, thin, seconds, gone, splitAt, steam, degrees, brown) = (wh, gr, ga, hi, F_X1_turnBy down 1, core, water, pricked, thin, seconds, gone, splitAt, steam, degrees, brown) := rfl
        rw [e]
        simp only [x_jp]
      · rw [if_neg c3, if_neg c3, if_neg c3, x_nmE]
        simp only [x_jp]
        generalize F_X0_passNoting wh gr ga hi down degrees brown core water pricked thin seconds gone splitAt radius skin filling ends thinBy bentFace bentBy 0 h = u
        obtain ⟨wh', gr', ga', hi', core', water', seconds', gone', splitAt', steam', degrees', brown'⟩ := u
        rfl
    · have c2' : ¬ jGone (wh, gr, ga, hi, down, core, water, pricked, thin, seconds, gone, splitAt, steam, degrees, brown) = 0 := c2
      rw [if_neg c2, if_neg c2']; rfl
theorem x_tjE (each k : Nat) (J : TJ) : JSame J (x_tj each k J) := by
  rw [x_tj]
  split
  · exact (x_jdE 1 1 J).2.1
  · exact ⟨rfl, rfl, rfl⟩
theorem x_tjT {each k s : Nat} {J : TJ} (h : JT s J) : JT s (x_tj each k J) := by
  rw [x_tj]
  split
  · exact x_jdT h
  · exact h
theorem x_tsT {rp : TRP} {h : Int32} {each : Nat} : ∀ (c k s : Nat) (J : TJ), s + c < 1000000 → JT s J → JT (s + c) (x_ts rp h each c k J) ∧ (¬ jGone J = 0 → jGone (x_ts rp h each c k J) = jGone J) := by
  intro c
  induction c with
  | zero => intro k s J _ h; exact And.intro h (fun _ => rfl)
  | succ c ih =>
    intro k s J hs hj
    obtain ⟨i1, i2, i3, i4⟩ := x_jpT (rp := rp) (kind := 0) (ht := h) (by omega) (x_tjT (each := each) (k := k) hj)
    obtain ⟨l1, l2⟩ := ih (k + 1) (s + 1) _ (by omega) i1
    obtain ⟨d1, d2, d3⟩ := x_tjE each k J
    rw [x_tsS, show s + (c + 1) = s + 1 + c by omega]
    refine And.intro l1 (fun q => ?_)
    have e := (i3 (by rw [d1]; exact q)).1
    exact (l2 (by rw [e, d1]; exact q)).trans (e.trans d1)
theorem x_te {rp : TRP} {h : Int32} {each m : Nat} (he : 5 ≤ each) (he2 : each ≤ 1000) : ∀ (n k s sn q : Nat) (J : TJ), m - k < n → s + (m - k) < 1000000 → JT s J → sn ≤ each → k = each * q + sn → (sn = 0 → k = 0) →
    (jGone (x_ts rp h each (m - k) k J) = 0 → x_l6 rp m h (nI each) n (nI sn) k J = x_o13 (x_ts rp h each (m - k) k J)) ∧ (¬ jGone (x_ts rp h each (m - k) k J) = 0 → ¬ (x_l6 rp m h (nI each) n (nI sn) k J).2.2.2.2.2.2.2.2.1 = 0) := by
  intro n
  induction n with
  | zero => intro k s sn q J a; exact absurd a (Nat.not_lt_zero _)
  | succ n ih =>
    intro k s sn q J a b hj h1 h2 h3
    rw [x_l6S]
    by_cases c : m ≤ k
    · rw [if_pos c, show m - k = 0 by omega]
      refine ⟨fun _ => rfl, fun q => ?_⟩
      obtain ⟨wh, gr, ga, hi, down, core, water, pricked, thin, seconds, gone, splitAt, steam, degrees, brown⟩ := J
      exact q
    · rw [if_neg c]
      by_cases c0 : jGone J = 0
      · rw [if_pos c0, show m - k = (m - (k + 1)) + 1 by omega, x_tsS]
        have hmod : k % each = sn % each := by rw [h2]; exact Nat.mul_add_mod _ _ _
        have hturn : nI sn = nI each ↔ (0 < k ∧ k % each = 0) := by
          rw [nI_eq (by omega) (by omega), hmod]
          constructor
          · intro e
            subst e
            exact ⟨by omega, Nat.mod_self _⟩
          · intro ⟨e1, e2⟩
            rcases Nat.eq_or_lt_of_le h1 with e | e
            · exact e
            · rw [Nat.mod_eq_of_lt e] at e2
              exact absurd (h3 e2) (by omega)
        obtain ⟨i1, -⟩ := x_jpT (rp := rp) (kind := 0) (ht := h) (by omega) (x_tjT (each := each) (k := k) hj)
        by_cases c1 : nI sn = nI each
        · have c2 := hturn.mp c1
          have c3 : sn = each := (nI_eq (by omega) (by omega)).mp c1
          rw [if_pos c1, if_pos c1]
          have e : x_tj each k J = x_jd 1 1 J := by rw [x_tj, if_pos c2]
          rw [e] at i1 ⊢
          exact ih (k + 1) (s + 1) 1 (q + 1) _ (by omega) (by omega) i1 (by omega) (by rw [h2, c3, Nat.mul_add]; omega) (fun z => absurd z (by decide))
        · have c2 : ¬ (0 < k ∧ k % each = 0) := fun z => c1 (hturn.mpr z)
          have c3 : sn ≠ each := fun z => c1 (by rw [z])
          rw [if_neg c1, if_neg c1, nI_1]
          have e : x_tj each k J = J := by rw [x_tj, if_neg c2]
          rw [e] at i1 ⊢
          exact ih (k + 1) (s + 1) (sn + 1) q _ (by omega) (by omega) i1 (by omega) (by omega) (fun z => absurd z (by omega))
      · rw [if_neg c0]
        obtain ⟨t1, t2⟩ := x_tsT (rp := rp) (h := h) (each := each) (m - k) k s J b hj
        refine ⟨fun q => absurd ((t2 c0).symm.trans q) c0, fun _ => ?_⟩
        obtain ⟨wh, gr, ga, hi, down, core, water, pricked, thin, seconds, gone, splitAt, steam, degrees, brown⟩ := J
        exact c0
theorem x_L94 {is : Nat → Int32} {rp : TRP} {m hh each : Nat} (hrp : RelRp rp is) (hb : hh ≤ 300) : ∀ (n k s : Nat) (J : TJ) (tw tm ta th : Int32) (row : Nat → Int32), m - k < n → s + (m - k) < 1000000 → JT s J → JRel J tw tm ta th row →
    ∃ (tw' tm' ta' th' : Int32) (row' : Nat → Int32), F_X5_planned_L94 is m hh each n k tw tm ta th row = (tw', tm', ta', th', row') ∧ JRel (x_ts rp (nI hh) each (m - k) k J) tw' tm' ta' th' row' ∧ ∀ q : Nat, q < 60 → row' q = row q := by
  intro n
  induction n with
  | zero => intro k s J tw tm ta th row a; exact absurd a (Nat.not_lt_zero _)
  | succ n ih =>
    intro k s J tw tm ta th row a b h1 h2
    rw [F_X5_planned_L94]
    by_cases c : m ≤ k
    · rw [if_pos c, show m - k = 0 by omega]
      exact ⟨tw, tm, ta, th, row, rfl, h2, fun _ _ => rfl⟩
    · rw [if_neg c, show m - k = (m - (k + 1)) + 1 by omega, x_tsS]
      have ht : ∃ R : Nat → Int32, (if k ≤ 0 then row else if (k % each) = 0 then x_nm (F_X5_turns row 3 1) fun t => t else row) = R ∧ JRel (x_tj each k J) tw tm ta th R ∧ ∀ q : Nat, q < 60 → R q = row q := by
        rw [x_tj]
        by_cases c1 : k ≤ 0
        · rw [if_pos c1, if_neg (fun z => by omega)]
          exact ⟨row, rfl, h2, fun _ _ => rfl⟩
        · rw [if_neg c1]
          by_cases c2 : k % each = 0
          · rw [if_pos c2, if_pos ⟨by omega, c2⟩, x_nmE]
            obtain ⟨t1, t2⟩ := x_turns5 (first := 1) ⟨by decide, by decide⟩ h2
            exact ⟨_, rfl, t1, t2⟩
          · rw [if_neg c2, if_neg (fun z => c2 z.2)]
            exact ⟨row, rfl, h2, fun _ _ => rfl⟩
      obtain ⟨R, r1, r2, r3⟩ := ht
      obtain ⟨i1, tw1, tm1, ta1, th1, row1, i2, i3, i4⟩ := x_tried (kind := 0) (kind5 := 0) (ht := nI hh) hrp (Or.inl ⟨rfl, rfl⟩) (x_btw_nI (lo := 0) (hi := 300) (by omega) hb (by decide)) (by omega) (x_tjT (each := each) (k := k) h1) r2
      obtain ⟨tw2, tm2, ta2, th2, row2, l2, l3, l4⟩ := ih (k + 1) (s + 1) _ tw1 tm1 ta1 th1 row1 (by omega) (by omega) i1 i3
      rw [r1, x_nmE, i2, x_nmE]
      exact ⟨tw2, tm2, ta2, th2, row2, l2, l3, fun q hq => (l4 q hq).trans ((i4 q hq).trans (r3 q hq))⟩
theorem x_mn_le {c y : Int32} {a b : Int} (h1 : Btw a c b) (h2 : Btw a y b) : Btw a (if y < c then y else c) b := by
  by_cases h : y < c
  · rw [if_pos h]; exact h2
  · rw [if_neg h]; exact h1
theorem x_least_ok {br : Nat → Int32} (h : ∀ f : Nat, f < 4 → Btw 0 (br f) 999) : Btw 0 (F_X1_leastBrown br) 999 := by
  rw [F_X1_leastBrown]
  repeat rw [x_nmE]
  exact x_mn_le (x_mn_le (h 0 (by decide)) (h 1 (by decide))) (x_mn_le (h 2 (by decide)) (h 3 (by decide)))
theorem x_pln79 {rp : TRP} {is : Nat → Int32} {water radius skin filling ends thinBy bentFace bentBy : Int32} {m sp hh : Nat} (hrpE : rp = (radius, skin, filling, ends, thinBy, bentFace, bentBy)) (hrp : RelRp rp is) (hw : is 3 = water) (hb : Btw 0 water 999) (hm : m ≤ 240) (hsp : sp ≤ 15) (hhh : hh ≤ 300) :
    ∀ (n n2 k : Nat) (l4 l5 l6 tw tm ta th wh gr ga hi down core wat pricked thin seconds gone splitAt steam : Int32) (degrees brown row best : Nat → Int32), 5 ≤ k → k ≤ 100 → 41 - k < n → 41 - k < n2 → best 0 = l4 → best 1 = l5 → best 2 = l6 → Btw (-9) l4 999 →
      ∃ (T : Int32 × Int32 × Int32 × Int32 × Int32 × Int32 × Int32 × Int32 × Int32 × Int32 × Int32 × Int32 × Int32 × Int32 × Int32 × Int32 × (Nat → Int32) × (Nat → Int32)) (tw' tm' ta' th' : Int32) (row' best' : Nat → Int32),
        F_X4_planned_L60 radius skin filling water ends thinBy bentFace bentBy m sp hh n l4 l5 l6 k wh gr ga hi down core wat pricked thin seconds gone splitAt steam degrees brown = T ∧ F_X5_planned_L79 is m sp hh n2 k tw tm ta th row best = (tw', tm', ta', th', row', best') ∧
        best' 0 = T.1 ∧ best' 1 = T.2.1 ∧ best' 2 = T.2.2.1 ∧ Btw (-9) T.1 999 ∧ ∀ q : Nat, q < 60 → row' q = row q := by
  subst hrpE
  intro n
  induction n with
  | zero => intro n2 k l4 l5 l6 tw tm ta th wh gr ga hi down core wat pricked thin seconds gone splitAt steam degrees brown row best _ _ a; exact absurd a (Nat.not_lt_zero _)
  | succ n ih =>
    intro n2 k l4 l5 l6 tw tm ta th wh gr ga hi down core wat pricked thin seconds gone splitAt steam degrees brown row best h5 h100 a b b0 b1 b2 hl
    cases n2 with
    | zero => exact absurd b (Nat.not_lt_zero _)
    | succ n2 =>
      by_cases c : 40 < k
      · refine ⟨_, _, _, _, _, _, _, rfl, by rw [F_X5_planned_L79, if_pos c], ?_⟩
        rw [F_X4_planned_L60, if_pos c]
        exact ⟨b0, b1, b2, hl, fun _ _ => rfl⟩
      · have hk : Btw 0 (nI sp) 15 := x_btw_nI (lo := 0) (hi := 15) (by omega) hsp (by decide)
        obtain ⟨f1, f2, f3, row0, f4, f5, f6⟩ := x_fresh5 (row := row) (dg := degrees) (br := brown) hw hb hk
        obtain ⟨tw1, tm1, ta1, th1, row1, i2, i3, i4⟩ := x_L94 (m := m) (hh := hh) (each := k) hrp hhh (m + 1) 0 0 _ _ _ _ _ _ (by omega) (by omega) f1 f5
        have ht := x_te (rp := (radius, skin, filling, ends, thinBy, bentFace, bentBy)) (h := nI hh) (each := k) (m := m) h5 (by omega) (m + 1) 0 0 0 0 (F_X0_setOut degrees brown water (nI sp)) (by omega) (by omega) f1 (by omega) (by omega) (fun _ => rfl)
        obtain ⟨jt, -⟩ := x_tsT (rp := (radius, skin, filling, ends, thinBy, bentFace, bentBy)) (h := nI hh) (each := k) m 0 0 (F_X0_setOut degrees brown water (nI sp)) (by omega) f1
        rw [Nat.sub_zero] at i3 ht
        have hwn := x_when jt (by omega)
        rw [x_jrel i3] at hwn
        -- what the class finds
        have e4 : ∃ U : TO13, F_X4_planned_L60 radius skin filling water ends thinBy bentFace bentBy m sp hh (n + 1) l4 l5 l6 k wh gr ga hi down core wat pricked thin seconds gone splitAt steam degrees brown = x_nm (α := Int32 × Int32 × Int32) (if (if U.2.2.2.2.2.2.2.2.1 = 0 then F_X1_leastBrown U.2.2.2.2.2.2.2.2.2.2.2.2 else (-9)) ≤ l4 then (l4, l5, l6) else ((if U.2.2.2.2.2.2.2.2.1 = 0 then F_X1_leastBrown U.2.2.2.2.2.2.2.2.2.2.2.2 else (-9)), nI hh, nI k)) (fun u => F_X4_planned_L60 radius skin filling water ends thinBy bentFace bentBy m sp hh n u.1 u.2.1 u.2.2 (k + 5) U.1 U.2.1 U.2.2.1 U.2.2.2.1 U.2.2.2.2.1 U.2.2.2.2.2.1 U.2.2.2.2.2.2.1 (F_X0_setOut degrees brown water (nI sp)).2.2.2.2.2.2.2.1 (F_X0_setOut degrees brown water (nI sp)).2.2.2.2.2.2.2.2.1 U.2.2.2.2.2.2.2.1 U.2.2.2.2.2.2.2.2.1 U.2.2.2.2.2.2.2.2.2.1 U.2.2.2.2.2.2.2.2.2.2.1 U.2.2.2.2.2.2.2.2.2.2.2.1 U.2.2.2.2.2.2.2.2.2.2.2.2) ∧
            (jGone (x_ts (radius, skin, filling, ends, thinBy, bentFace, bentBy) (nI hh) k m 0 (F_X0_setOut degrees brown water (nI sp))) = 0 → U = x_o13 (x_ts (radius, skin, filling, ends, thinBy, bentFace, bentBy) (nI hh) k m 0 (F_X0_setOut degrees brown water (nI sp)))) ∧
            (¬ jGone (x_ts (radius, skin, filling, ends, thinBy, bentFace, bentBy) (nI hh) k m 0 (F_X0_setOut degrees brown water (nI sp))) = 0 → ¬ U.2.2.2.2.2.2.2.2.1 = 0) := by
          obtain ⟨U, hU⟩ : ∃ U, x_l6 (radius, skin, filling, ends, thinBy, bentFace, bentBy) m (nI hh) (nI k) (m + 1) (nI 0) 0 (F_X0_setOut degrees brown water (nI sp)) = U := ⟨_, rfl⟩
          rw [hU] at ht
          refine ⟨U, ?_, ht⟩
          rw [F_X4_planned_L60, if_neg c, x_nmE]
          generalize F_X0_setOut degrees brown water (nI sp) = J0 at hU
          obtain ⟨wh0, gr0, ga0, hi0, down0, core0, wat0, pricked0, thin0, seconds0, gone0, splitAt0, steam0, degrees0, brown0⟩ := J0
          rw [nI_0] at hU
          have hU2 : F_X0_turnEach_L6 pricked0 thin0 radius skin filling ends thinBy bentFace bentBy m (nI hh) (nI k) (m + 1) 0 0 wh0 gr0 ga0 hi0 down0 core0 wat0 seconds0 gone0 splitAt0 steam0 degrees0 brown0 = U := hU
          dsimp only
          have hT : F_X0_turnEach wh0 gr0 ga0 hi0 down0 degrees0 brown0 core0 wat0 pricked0 thin0 seconds0 gone0 splitAt0 steam0 radius skin filling ends thinBy bentFace bentBy m (nI hh) (nI k) = U := by
            rw [F_X0_turnEach, hU2, x_nmE]
          have e9 : (if U.2.2.2.2.2.2.2.2.1 = 0 then x_nm (F_X1_leastBrown U.2.2.2.2.2.2.2.2.2.2.2.2) fun z => z else (-9)) = (if U.2.2.2.2.2.2.2.2.1 = 0 then F_X1_leastBrown U.2.2.2.2.2.2.2.2.2.2.2.2 else (-9)) := by rw [x_nmE]
          rw [hT, x_nmE, e9, x_nmE]
        obtain ⟨U, e4, u1, u2⟩ := e4
        have e5 : F_X5_planned_L79 is m sp hh (n2 + 1) k tw tm ta th row best = F_X5_planned_L79 is m sp hh n2 (k + 5) tw1 tm1 ta1 th1 row1 (if 0 ≤ tw1 then best else if F_X5_brown row1 0 ≤ best 0 then best else upd (upd (upd best 0 (F_X5_brown row1 0)) 1 (nI hh)) 2 (nI k)) := by
          rw [F_X5_planned_L79, if_neg c, f4, x_nmE]
          dsimp only
          rw [i2, x_nmE]
          dsimp only
          repeat rw [x_nmE]
        rw [e4, e5, x_nmE]
        by_cases g0 : jGone (x_ts (radius, skin, filling, ends, thinBy, bentFace, bentBy) (nI hh) k m 0 (F_X0_setOut degrees brown water (nI sp))) = 0
        · have u1 := u1 g0
          rw [if_neg (fun z => (hwn.mp z) g0)]
          have hlb : U.2.2.2.2.2.2.2.2.1 = 0 ∧ F_X5_brown row1 0 = F_X1_leastBrown U.2.2.2.2.2.2.2.2.2.2.2.2 ∧ Btw 0 (F_X1_leastBrown U.2.2.2.2.2.2.2.2.2.2.2.2) 999 := by
            rw [u1]
            generalize x_ts (radius, skin, filling, ends, thinBy, bentFace, bentBy) (nI hh) k m 0 (F_X0_setOut degrees brown water (nI sp)) = J at i3 g0
            obtain ⟨wh', gr', ga', hi', down', core', wat', pricked', thin', seconds', gone', splitAt', steam', degrees', brown'⟩ := J
            refine ⟨g0, x_brown5L (fun f hf => (i3.2.2.1 f hf).2), x_least_ok (fun f hf => (i3.2.1.2.2.2.2.2.2.2.2 f hf).2)⟩
          obtain ⟨v1, v2, v3⟩ := hlb
          rw [if_pos v1, v2, b0]
          by_cases z2 : F_X1_leastBrown U.2.2.2.2.2.2.2.2.2.2.2.2 ≤ l4
          · rw [if_pos z2, if_pos z2]
            obtain ⟨T, tw', tm', ta', th', row', best', k1, k2, k3, k4, k5, k6, k7⟩ := ih n2 (k + 5) l4 l5 l6 tw1 tm1 ta1 th1 U.1 U.2.1 U.2.2.1 U.2.2.2.1 U.2.2.2.2.1 U.2.2.2.2.2.1 U.2.2.2.2.2.2.1 (F_X0_setOut degrees brown water (nI sp)).2.2.2.2.2.2.2.1 (F_X0_setOut degrees brown water (nI sp)).2.2.2.2.2.2.2.2.1 U.2.2.2.2.2.2.2.1 U.2.2.2.2.2.2.2.2.1 U.2.2.2.2.2.2.2.2.2.1 U.2.2.2.2.2.2.2.2.2.2.1 U.2.2.2.2.2.2.2.2.2.2.2.1 U.2.2.2.2.2.2.2.2.2.2.2.2 row1 best (by omega) (by omega) (by omega) (by omega) b0 b1 b2 hl
            exact ⟨T, tw', tm', ta', th', row', best', k1, k2, k3, k4, k5, k6, fun q hq => (k7 q hq).trans ((i4 q hq).trans (f6 q hq))⟩
          · rw [if_neg z2, if_neg z2]
            obtain ⟨T, tw', tm', ta', th', row', best', k1, k2, k3, k4, k5, k6, k7⟩ := ih n2 (k + 5) (F_X1_leastBrown U.2.2.2.2.2.2.2.2.2.2.2.2) (nI hh) (nI k) tw1 tm1 ta1 th1 U.1 U.2.1 U.2.2.1 U.2.2.2.1 U.2.2.2.2.1 U.2.2.2.2.2.1 U.2.2.2.2.2.2.1 (F_X0_setOut degrees brown water (nI sp)).2.2.2.2.2.2.2.1 (F_X0_setOut degrees brown water (nI sp)).2.2.2.2.2.2.2.2.1 U.2.2.2.2.2.2.2.1 U.2.2.2.2.2.2.2.2.1 U.2.2.2.2.2.2.2.2.2.1 U.2.2.2.2.2.2.2.2.2.2.1 U.2.2.2.2.2.2.2.2.2.2.2.1 U.2.2.2.2.2.2.2.2.2.2.2.2 row1 (upd (upd (upd best 0 (F_X1_leastBrown U.2.2.2.2.2.2.2.2.2.2.2.2)) 1 (nI hh)) 2 (nI k)) (by omega) (by omega) (by omega) (by omega) (by rw [x_updN _ _ (by omega), x_updN _ _ (by omega), x_updS]) (by rw [x_updN _ _ (by omega), x_updS]) (by rw [x_updS]) (x_bW v3 (by decide) (by decide))
            exact ⟨T, tw', tm', ta', th', row', best', k1, k2, k3, k4, k5, k6, fun q hq => (k7 q hq).trans ((i4 q hq).trans (f6 q hq))⟩
        · have u2 := u2 g0
          rw [if_neg u2, if_pos (hwn.mpr g0)]
          have z9 : (-9 : Int32) ≤ l4 := by
            rw [Int32.le_iff_toInt_le, show (-9 : Int32).toInt = -9 by decide]
            exact hl.1
          rw [if_pos z9]
          obtain ⟨T, tw', tm', ta', th', row', best', k1, k2, k3, k4, k5, k6, k7⟩ := ih n2 (k + 5) l4 l5 l6 tw1 tm1 ta1 th1 U.1 U.2.1 U.2.2.1 U.2.2.2.1 U.2.2.2.2.1 U.2.2.2.2.2.1 U.2.2.2.2.2.2.1 (F_X0_setOut degrees brown water (nI sp)).2.2.2.2.2.2.2.1 (F_X0_setOut degrees brown water (nI sp)).2.2.2.2.2.2.2.2.1 U.2.2.2.2.2.2.2.1 U.2.2.2.2.2.2.2.2.1 U.2.2.2.2.2.2.2.2.2.1 U.2.2.2.2.2.2.2.2.2.2.1 U.2.2.2.2.2.2.2.2.2.2.2.1 U.2.2.2.2.2.2.2.2.2.2.2.2 row1 best (by omega) (by omega) (by omega) (by omega) b0 b1 b2 hl
          exact ⟨T, tw', tm', ta', th', row', best', k1, k2, k3, k4, k5, k6, fun q hq => (k7 q hq).trans ((i4 q hq).trans (f6 q hq))⟩
theorem x_pln68 {rp : TRP} {is : Nat → Int32} {water radius skin filling ends thinBy bentFace bentBy : Int32} {m sp : Nat} (hrpE : rp = (radius, skin, filling, ends, thinBy, bentFace, bentBy)) (hrp : RelRp rp is) (hw : is 3 = water) (hb : Btw 0 water 999) (hm : m ≤ 240) (hsp : sp ≤ 15) :
    ∀ (n n2 k : Nat) (l4 l5 l6 tw tm ta th wh gr ga hi down core wat pricked thin seconds gone splitAt steam : Int32) (degrees brown row best : Nat → Int32), 261 - k < n → 261 - k < n2 → best 0 = l4 → best 1 = l5 → best 2 = l6 → Btw (-9) l4 999 →
      ∃ (T : Int32 × Int32 × Int32 × Int32 × Int32 × Int32 × Int32 × Int32 × Int32 × Int32 × Int32 × Int32 × Int32 × Int32 × Int32 × Int32 × (Nat → Int32) × (Nat → Int32)) (tw' tm' ta' th' : Int32) (row' best' : Nat → Int32),
        F_X4_planned_L49 radius skin filling water ends thinBy bentFace bentBy m sp n l4 l5 l6 k wh gr ga hi down core wat pricked thin seconds gone splitAt steam degrees brown = T ∧ F_X5_planned_L68 is m sp n2 k tw tm ta th row best = (tw', tm', ta', th', row', best') ∧
        best' 0 = T.1 ∧ best' 1 = T.2.1 ∧ best' 2 = T.2.2.1 ∧ ∀ q : Nat, q < 60 → row' q = row q := by
  intro n
  induction n with
  | zero => intro n2 k l4 l5 l6 tw tm ta th wh gr ga hi down core wat pricked thin seconds gone splitAt steam degrees brown row best a; exact absurd a (Nat.not_lt_zero _)
  | succ n ih =>
    intro n2 k l4 l5 l6 tw tm ta th wh gr ga hi down core wat pricked thin seconds gone splitAt steam degrees brown row best a b b0 b1 b2 hl
    cases n2 with
    | zero => exact absurd b (Nat.not_lt_zero _)
    | succ n2 =>
      rw [F_X4_planned_L49, F_X5_planned_L68]
      by_cases c : 260 < k
      · rw [if_pos c, if_pos c]
        exact ⟨_, _, _, _, _, _, _, rfl, rfl, b0, b1, b2, fun _ _ => rfl⟩
      · rw [if_neg c, if_neg c]
        obtain ⟨T, tw1, tm1, ta1, th1, row1, best1, j1, j2, j3, j4, j5, j6, j7⟩ := x_pln79 (m := m) (sp := sp) (hh := k) hrpE hrp hw hb hm hsp (by omega) 46 46 5 l4 l5 l6 tw tm ta th wh gr ga hi down core wat pricked thin seconds gone splitAt steam degrees brown row best (by omega) (by omega) (by omega) (by omega) b0 b1 b2 hl
        rw [j1, j2, x_nmE, x_nmE]
        obtain ⟨T2, tw2, tm2, ta2, th2, row2, best2, k1, k2, k3, k4, k5, k6⟩ := ih n2 (k + 20) T.1 T.2.1 T.2.2.1 tw1 tm1 ta1 th1 T.2.2.2.1 T.2.2.2.2.1 T.2.2.2.2.2.1 T.2.2.2.2.2.2.1 T.2.2.2.2.2.2.2.1 T.2.2.2.2.2.2.2.2.1 T.2.2.2.2.2.2.2.2.2.1 T.2.2.2.2.2.2.2.2.2.2.1 T.2.2.2.2.2.2.2.2.2.2.2.1 T.2.2.2.2.2.2.2.2.2.2.2.2.1 T.2.2.2.2.2.2.2.2.2.2.2.2.2.1 T.2.2.2.2.2.2.2.2.2.2.2.2.2.2.1 T.2.2.2.2.2.2.2.2.2.2.2.2.2.2.2.1 T.2.2.2.2.2.2.2.2.2.2.2.2.2.2.2.2.1 T.2.2.2.2.2.2.2.2.2.2.2.2.2.2.2.2.2 row1 best1 (by omega) (by omega) j3 j4 j5 j6
        exact ⟨T2, tw2, tm2, ta2, th2, row2, best2, k1, k2, k3, k4, k5, fun q hq => (k6 q hq).trans (j7 q hq)⟩
theorem s_planned {t_kept : Nat → Int32} {t_heats : Nat → Int32} {t_salts : Nat → Int32} {t_crumbsOf : Nat → Int32} {t_tests : Nat} {t_traced : Int64} {r_radius : Int32} {r_skin : Int32} {r_filling : Int32} {r_water : Int32} {r_ends : Int32} {r_thin : Int32} {r_chance : Int32} {r_bentFace : Int32} {r_bentBy : Int32} {r_doings : Nat} {r_kinds : Nat → Int32} {r_firsts : Nat → Int32} {r_seconds : Nat → Int32} {d_seconds : Nat → Int32} {e_text : Nat → Int32} {e_length : Nat} {m_down : Int32} {m_degrees : Nat → Int32} {m_brown : Nat → Int32} {m_core : Int32} {m_water : Int32} {m_pricked : Int32} {m_thinSpots : Int32} {m_seconds : Int32} {m_gone : Int32} {m_splitAt : Int32} {m_steam : Int32} {j_when : Int32} {j_greatest : Int32} {j_greatestAt : Int32} {j_hiss : Int32} {jm_down : Int32} {jm_degrees : Nat → Int32} {jm_brown : Nat → Int32} {jm_core : Int32} {jm_water : Int32} {jm_pricked : Int32} {jm_thinSpots : Int32} {jm_seconds : Int32} {jm_gone : Int32} {jm_splitAt : Int32} {jm_steam : Int32} {i0_down : Int32} {i0_degrees : Nat → Int32} {i0_brown : Nat → Int32} {i0_core : Int32} {i0_water : Int32} {i0_pricked : Int32} {i0_thinSpots : Int32} {i0_seconds : Int32} {i0_gone : Int32} {i0_splitAt : Int32} {i0_steam : Int32} {i1_down : Int32} {i1_degrees : Nat → Int32} {i1_brown : Nat → Int32} {i1_core : Int32} {i1_water : Int32} {i1_pricked : Int32} {i1_thinSpots : Int32} {i1_seconds : Int32} {i1_gone : Int32} {i1_splitAt : Int32} {i1_steam : Int32} {u_length : Nat} {u_text : Nat → Int32} {u_is : Nat → Int32} {u_doings : Nat → Int32} {u_doing : Nat → Int32} {u_row : Nat → Int32} {u_isKept : Nat → Int32} {u_when : Int32} {u_most : Int32} {u_mostAt : Int32} {u_hiss : Int32} {u_best : Nat → Int32} {u_heats : Nat → Int32} {u_orders : Nat → Int32} {u_tests : Nat} {u_salt : Nat → Int32} {u_crumbs : Nat → Int32} {u_traced : Int64} {a1 : Int32} {a2 : Int32} {a3 : Int32} {j_when_283 : Int32} {j_greatest_284 : Int32} {j_greatestAt_285 : Int32} {j_hiss_286 : Int32} {jm_down_287 : Int32} {jm_core_288 : Int32} {jm_water_289 : Int32} {jm_pricked_290 : Int32} {jm_thinSpots_291 : Int32} {jm_seconds_292 : Int32} {jm_gone_293 : Int32} {jm_splitAt_294 : Int32} {jm_steam_295 : Int32} {jm_degrees_296 : Nat → Int32} {jm_brown_297 : Nat → Int32} {u_when_301 : Int32} {u_most_302 : Int32} {u_mostAt_303 : Int32} {u_hiss_304 : Int32} {u_row_305 : Nat → Int32} {u_best_306 : Nat → Int32} {z_298 z_307 : Int32} (hI : Inv (r_radius, r_skin, r_filling, r_water, r_ends, r_thin, r_chance, r_bentFace, r_bentBy, r_doings, r_kinds, r_firsts, r_seconds) e_length e_text (m_down, m_core, m_water, m_pricked, m_thinSpots, m_seconds, m_gone, m_splitAt, m_steam, m_degrees, m_brown) (i0_down, i0_core, i0_water, i0_pricked, i0_thinSpots, i0_seconds, i0_gone, i0_splitAt, i0_steam, i0_degrees, i0_brown) (i1_down, i1_core, i1_water, i1_pricked, i1_thinSpots, i1_seconds, i1_gone, i1_splitAt, i1_steam, i1_degrees, i1_brown) t_kept t_heats t_tests t_salts t_crumbsOf t_traced u_length u_text u_is u_doings u_doing u_row u_isKept u_heats u_orders u_tests u_salt u_crumbs u_traced d_seconds) (h4 : (z_298, j_when_283, j_greatest_284, j_greatestAt_285, j_hiss_286, jm_down_287, jm_core_288, jm_water_289, jm_pricked_290, jm_thinSpots_291, jm_seconds_292, jm_gone_293, jm_splitAt_294, jm_steam_295, jm_degrees_296, jm_brown_297) = F_X4_planned r_radius r_skin r_filling r_water r_ends r_thin r_bentFace r_bentBy j_when j_greatest j_greatestAt j_hiss jm_down jm_degrees jm_brown jm_core jm_water jm_pricked jm_thinSpots jm_seconds jm_gone jm_splitAt jm_steam a1 a2 a3) (h5 : (z_307, u_when_301, u_most_302, u_mostAt_303, u_hiss_304, u_row_305, u_best_306) = F_X5_planned u_is u_row u_when u_most u_mostAt u_hiss u_best a1 a2 a3) : z_298 = z_307 ∧ Inv (r_radius, r_skin, r_filling, r_water, r_ends, r_thin, r_chance, r_bentFace, r_bentBy, r_doings, r_kinds, r_firsts, r_seconds) e_length e_text (m_down, m_core, m_water, m_pricked, m_thinSpots, m_seconds, m_gone, m_splitAt, m_steam, m_degrees, m_brown) (i0_down, i0_core, i0_water, i0_pricked, i0_thinSpots, i0_seconds, i0_gone, i0_splitAt, i0_steam, i0_degrees, i0_brown) (i1_down, i1_core, i1_water, i1_pricked, i1_thinSpots, i1_seconds, i1_gone, i1_splitAt, i1_steam, i1_degrees, i1_brown) t_kept t_heats t_tests t_salts t_crumbsOf t_traced u_length u_text u_is u_doings u_doing u_row_305 u_isKept u_heats u_orders u_tests u_salt u_crumbs u_traced d_seconds := by
  have hI' := hI
  obtain ⟨hrec, -⟩ := hI'
  have hrp := x_relrp hrec
  obtain ⟨⟨⟨-, -, -, hwb, -⟩, hn, hsec, -⟩, ⟨-, -, -, hw, -⟩, -⟩ := hrec
  rw [F_X4_planned, x_nmE] at h4
  rw [F_X5_planned, x_nmE] at h5
  by_cases c1 : F_X4_outside a1 8 240 = 0
  · obtain ⟨d1, d2, d3⟩ := x_outs (lo := 8) (hi := 240) (by decide) (by decide) c1
    rw [if_pos c1, x_nmE, x_nmE] at h4
    rw [if_neg (x_ioN 8 240 (by decide) (by decide) c1), x_nmE, x_nmE] at h5
    by_cases c2 : F_X4_outside a2 0 15 = 0
    · obtain ⟨f1, f2, f3⟩ := x_outs (lo := 0) (hi := 15) (by decide) (by decide) c2
      rw [if_pos c2, x_nmE, x_nmE] at h4
      rw [if_neg (x_ioN 0 15 (by decide) (by decide) c2), x_nmE, x_nmE] at h5
      by_cases c3 : F_X4_outside a3 0 2 = 0
      · obtain ⟨g1, g2, g3⟩ := x_outs (lo := 0) (hi := 2) (by decide) (by decide) c3
        rw [if_pos c3, x_nmE, x_nmE] at h4
        rw [if_neg (x_ioN 0 2 (by decide) (by decide) c3), x_nmE, x_nmE, x_nmE, x_nmE] at h5
        obtain ⟨T, tw', tm', ta', th', row', best', k1, k2, k3, k4, k5, k6⟩ := x_pln68 (m := a1.toNatClampNeg) (sp := a2.toNatClampNeg) rfl hrp hw hwb d2 f2 281 281 80 (-9) (-9) (-9) u_when u_most u_mostAt u_hiss j_when j_greatest j_greatestAt j_hiss jm_down jm_core jm_water jm_pricked jm_thinSpots jm_seconds jm_gone jm_splitAt jm_steam jm_degrees jm_brown u_row (upd (upd (upd u_best 0 (-9)) 1 (-9)) 2 (-9)) (by omega) (by omega) (by rw [x_updN _ _ (by omega), x_updN _ _ (by omega), x_updS]) (by rw [x_updN _ _ (by omega), x_updS]) (by rw [x_updS]) ⟨by decide, by decide⟩
        rw [k1, x_nmE] at h4
        rw [k2, x_nmE] at h5
        simp only [Prod.mk.injEq] at h4 h5
        rw [h4.1, h5.1, h5.2.2.2.2.2.1]
        refine And.intro ?_ (x_inv_row hI k6)
        have e : a3.toNatClampNeg = 0 ∨ a3.toNatClampNeg = 1 ∨ a3.toNatClampNeg = 2 := by omega
        rcases e with e | e | e
        · rw [e, if_pos rfl, k3]
        · rw [e, if_neg (by decide), if_pos rfl, k4]
        · rw [e, if_neg (by decide), if_neg (by decide), k5]
      · rw [if_neg c3] at h4
        rw [if_pos (x_ioP 0 2 (by decide) (by decide) c3)] at h5
        simp only [Prod.mk.injEq] at h4 h5
        rw [h4.1, h5.1, h5.2.2.2.2.2.1]
        exact And.intro rfl hI
    · rw [if_neg c2] at h4
      rw [if_pos (x_ioP 0 15 (by decide) (by decide) c2)] at h5
      simp only [Prod.mk.injEq] at h4 h5
      rw [h4.1, h5.1, h5.2.2.2.2.2.1]
      exact And.intro rfl hI
  · rw [if_neg c1] at h4
    rw [if_pos (x_ioP 8 240 (by decide) (by decide) c1)] at h5
    simp only [Prod.mk.injEq] at h4 h5
    rw [h4.1, h5.1, h5.2.2.2.2.2.1]
    exact And.intro rfl hI
