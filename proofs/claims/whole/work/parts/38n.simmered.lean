/-! the steps of the law: simmered -/
theorem x_canon {is doings doing : Nat → Int32} {rp : TRP} {kinds firsts secs dg br dg' br' : Nat → Int32} {n : Nat} {water : Int32} {p t : Nat} (hrp : RelRp rp is) (hpl : RelPl n kinds firsts secs 0 doings doing) (hw : is 3 = water) (hb : Btw 0 water 999) (hp : p ≤ 9) (ht : t ≤ 100) : (jGone (x_wh rp kinds firsts secs n dg br water p t) = 0 ↔ jGone (x_wh rp kinds firsts secs n dg' br' water p t) = 0) := by
  obtain ⟨row1, f1, f2, f3, f4, f5, tw1, tm1, ta1, th1, row2, f6, f7, f8⟩ := x_prep5 (row := fun _ => 0) (dg := dg) (br := br) (A := 15) (p := p) (t := t) hrp hw hb ⟨by decide, by decide⟩ hp ht
  obtain ⟨i1, tw2, tm2, ta2, th2, row3, i2, i3, i4⟩ := x_plan5A hrp hpl (by split <;> omega) f5 f7
  obtain ⟨row1', f1', f2', f3', f4', f5', tw1', tm1', ta1', th1', row2', f6', f7', f8'⟩ := x_prep5 (row := fun _ => 0) (dg := dg') (br := br') (A := 15) (p := p) (t := t) hrp hw hb ⟨by decide, by decide⟩ hp ht
  obtain ⟨i1', tw2', tm2', ta2', th2', row3', i2', i3', i4'⟩ := x_plan5A hrp hpl (by split <;> omega) f5' f7'
  rw [f1] at f1'
  simp only [Prod.mk.injEq, true_and] at f1'
  subst f1'
  rw [f6] at f6'
  simp only [Prod.mk.injEq] at f6'
  obtain ⟨rfl, rfl, rfl, rfl, rfl⟩ := f6'
  rw [i2] at i2'
  simp only [Prod.mk.injEq] at i2'
  obtain ⟨rfl, rfl, rfl, rfl, rfl⟩ := i2'
  have w1 := x_when i1 (by have := x_tot_pl hpl; split <;> omega)
  have w2 := x_when i1' (by have := x_tot_pl hpl; split <;> omega)
  rw [x_jrel i3] at w1
  rw [x_jrel i3'] at w2
  show jGone (x_pl rp kinds firsts secs n 0 (x_prep rp dg br water 15 p t)) = 0 ↔ jGone (x_pl rp kinds firsts secs n 0 (x_prep rp dg' br' water 15 p t)) = 0
  have e := w1.symm.trans w2
  exact ⟨fun a => Decidable.byContradiction (fun b => (e.mpr b) a), fun a => Decidable.byContradiction (fun b => (e.mp b) a)⟩
abbrev TO12 : Type := Int32 × Int32 × Int32 × Int32 × Int32 × Int32 × Int32 × Int32 × Int32 × Int32 × (Nat → Int32) × (Nat → Int32)
def x_o12 (J : TJ) : TO12 := match J with
  | (wh, gr, ga, hi, _, core, water, _, _, seconds, gone, splitAt, steam, degrees, brown) => (wh, gr, ga, hi, core, water, seconds, gone, splitAt, steam, degrees, brown)
def x_l51 (rp : TRP) (v : Int32) (n k : Nat) (J : TJ) : TO12 := match rp, J with
  | (radius, skin, filling, ends, thinBy, bentFace, bentBy), (wh, gr, ga, hi, down, core, water, pricked, thin, seconds, gone, splitAt, steam, degrees, brown) => F_X4_simmered_L51 radius skin filling ends thinBy bentFace bentBy v down pricked thin n k wh gr ga hi core water seconds gone splitAt steam degrees brown
theorem x_l51S (rp : TRP) (v : Int32) (n k : Nat) (J : TJ) : x_l51 rp v (n + 1) k J = if 60 ≤ k then x_o12 J else x_l51 rp v n (k + 1) (x_jp rp 3 v J) := by
  obtain ⟨radius, skin, filling, ends, thinBy, bentFace, bentBy⟩ := rp
  obtain ⟨wh, gr, ga, hi, down, core, water, pricked, thin, seconds, gone, splitAt, steam, degrees, brown⟩ := J
  simp only [x_l51, x_jp]
  rw [F_X4_simmered_L51]
  generalize F_X0_passNoting wh gr ga hi down degrees brown core water pricked thin seconds gone splitAt radius skin filling ends thinBy bentFace bentBy 3 v = u
  obtain ⟨wh', gr', ga', hi', core', water', seconds', gone', splitAt', steam', degrees', brown'⟩ := u
  rfl
theorem x_l51E (rp : TRP) (v : Int32) : ∀ (n k : Nat) (J : TJ), 60 - k < n → x_l51 rp v n k J = x_o12 (x_jps rp 3 v (60 - k) J) := by
  intro n
  induction n with
  | zero => intro k J a; exact absurd a (Nat.not_lt_zero _)
  | succ n ih =>
    intro k J a
    rw [x_l51S]
    by_cases c : 60 ≤ k
    · rw [if_pos c, show 60 - k = 0 by omega]; rfl
    · rw [if_neg c, ih _ _ (by omega), show 60 - k = (60 - (k + 1)) + 1 by omega, x_jpsS]
def x_keep3 (J : TJ) : Int32 × Int32 × Int32 := match J with
  | (_, _, _, _, down, _, _, pricked, thin, _, _, _, _, _, _) => (down, pricked, thin)
theorem x_jpsK3 (rp : TRP) (kind v : Int32) : ∀ (n : Nat) (J : TJ), x_keep3 (x_jps rp kind v n J) = x_keep3 J := by
  intro n
  induction n with
  | zero => intro J; rfl
  | succ n ih =>
    intro J
    rw [x_jpsS, ih]
    obtain ⟨radius, skin, filling, ends, thinBy, bentFace, bentBy⟩ := rp
    obtain ⟨wh, gr, ga, hi, down, core, water, pricked, thin, seconds, gone, splitAt, steam, degrees, brown⟩ := J
    obtain ⟨⟨z, c, w, se, g, sp, st, u, br⟩, hv⟩ : ∃ o, F_X1_pass down degrees brown core water pricked thin seconds gone splitAt radius skin filling ends thinBy bentFace bentBy kind v = o := ⟨_, rfl⟩
    rw [x_jpE hv]
    rfl
theorem x_prep0 (rp : TRP) (dg br : Nat → Int32) (water A : Int32) {t : Nat} (ht : 0 < t) : x_prep rp dg br water A 0 t = x_jps rp 3 (nI t) 60 (F_X0_setOut dg br water A) := by
  rw [x_prep, if_neg (by omega)]
  have e : x_jd 2 (nI 0) (F_X0_setOut dg br water A) = F_X0_setOut dg br water A := by
    have hp0 : F_X1_prickBy 0 (nI 0) = 0 := by
      rw [F_X1_prickBy, x_nmE]; decide
    have h0 : (F_X0_setOut dg br water A).2.2.2.2.2.2.2.1 = 0 := rfl
    generalize F_X0_setOut dg br water A = J at h0
    obtain ⟨wh, gr, ga, hi, down, core, wat, pricked, thin, seconds, gone, splitAt, steam, degrees, brown⟩ := J
    have h1 : pricked = 0 := h0
    subst h1
    rw [x_jd2, hp0]
  rw [e]
/-- one try of the class -/
theorem x_sim4 {rp : TRP} {kinds firsts secs doings doing is : Nat → Int32} {n t : Nat} {water : Int32} {radius skin filling ends thinBy bentFace bentBy : Int32} (hrpE : rp = (radius, skin, filling, ends, thinBy, bentFace, bentBy)) (hrp : RelRp rp is) (hpl : RelPl n kinds firsts secs 0 doings doing) (hsec : ∀ k : Nat, k < 12 → (secs k).toNatClampNeg ≤ 99 ∧ secs k = nI (secs k).toNatClampNeg) (hw : is 3 = water) (hb : Btw 0 water 999) (ht0 : 0 < t) (ht : t ≤ 100) (dg br : Nat → Int32) {T : TJ} (hT : F_X0_setOut dg br water 15 = T) :
    let u := F_X4_simmered_L51 radius skin filling ends thinBy bentFace bentBy (nI t) T.2.2.2.2.1 T.2.2.2.2.2.2.2.1 T.2.2.2.2.2.2.2.2.1 (60 + 1) 0 T.1 T.2.1 T.2.2.1 T.2.2.2.1 T.2.2.2.2.2.1 T.2.2.2.2.2.2.1 T.2.2.2.2.2.2.2.2.2.1 T.2.2.2.2.2.2.2.2.2.2.1 T.2.2.2.2.2.2.2.2.2.2.2.1 T.2.2.2.2.2.2.2.2.2.2.2.2.1 T.2.2.2.2.2.2.2.2.2.2.2.2.2.1 T.2.2.2.2.2.2.2.2.2.2.2.2.2.2
    (F_X4_staysWhole radius skin filling ends thinBy bentFace bentBy n kinds firsts secs u.1 u.2.1 u.2.2.1 u.2.2.2.1 T.2.2.2.2.1 u.2.2.2.2.2.2.2.2.2.2.1 u.2.2.2.2.2.2.2.2.2.2.2 u.2.2.2.2.1 u.2.2.2.2.2.1 T.2.2.2.2.2.2.2.1 T.2.2.2.2.2.2.2.2.1 u.2.2.2.2.2.2.1 u.2.2.2.2.2.2.2.1 u.2.2.2.2.2.2.2.2.1 u.2.2.2.2.2.2.2.2.2.1).1 = if jGone (x_wh rp kinds firsts secs n (fun _ => 0) (fun _ => 0) water 0 t) = 0 then 1 else 0 := by
  intro u
  have hc := x_canon (dg := dg) (br := br) (dg' := fun _ => 0) (br' := fun _ => 0) (p := 0) hrp hpl hw hb (by omega) ht
  obtain ⟨row1, f1, f2, f3, f4, f5, f6⟩ := x_prep5 (row := fun _ => 0) (dg := dg) (br := br) (A := 15) (p := 0) (t := t) hrp hw hb ⟨by decide, by decide⟩ (by omega) ht
  have hsw := (x_swE (rp := rp) hpl hsec (by split <;> omega) f5).1
  have e1 : u = x_o12 (x_prep rp dg br water 15 0 t) := by
    rw [x_prep0 _ _ _ _ _ ht0, hT]
    have h := x_l51E rp (nI t) (60 + 1) 0 T (by omega)
    rw [Nat.sub_zero] at h
    rw [← h]
    subst hrpE
    obtain ⟨wh, gr, ga, hi, down, core, wat, pricked, thin, seconds, gone, splitAt, steam, degrees, brown⟩ := T
    rfl
  have e2 : x_keep3 (x_prep rp dg br water 15 0 t) = x_keep3 T := by
    rw [x_prep0 _ _ _ _ _ ht0, hT, x_jpsK3]
  have e3 : (if jGone (x_wh rp kinds firsts secs n dg br water 0 t) = 0 then (1 : Int32) else 0) = if jGone (x_wh rp kinds firsts secs n (fun _ => 0) (fun _ => 0) water 0 t) = 0 then 1 else 0 := by
    by_cases c : jGone (x_wh rp kinds firsts secs n dg br water 0 t) = 0
    · rw [if_pos c, if_pos (hc.mp c)]
    · rw [if_neg c, if_neg (fun q => c (hc.mpr q))]
  rw [← e3, x_wh, ← hsw]
  subst hrpE
  clear_value u
  generalize x_prep (radius, skin, filling, ends, thinBy, bentFace, bentBy) dg br water 15 0 t = J at e1 e2
  obtain ⟨wh, gr, ga, hi, down, core, wat, pricked, thin, seconds, gone, splitAt, steam, degrees, brown⟩ := J
  obtain ⟨wh0, gr0, ga0, hi0, down0, core0, wat0, pricked0, thin0, seconds0, gone0, splitAt0, steam0, degrees0, brown0⟩ := T
  have e4 : down = down0 ∧ pricked = pricked0 ∧ thin = thin0 := by
    have e5 : (down, pricked, thin) = (down0, pricked0, thin0) := e2
    simp only [Prod.mk.injEq] at e5
    exact e5
  obtain ⟨rfl, rfl, rfl⟩ := e4
  subst e1
  rfl
theorem x_sim4L {rp : TRP} {kinds firsts secs doings doing is : Nat → Int32} {n j : Nat} {water : Int32} {radius skin filling ends thinBy bentFace bentBy : Int32} (hrpE : rp = (radius, skin, filling, ends, thinBy, bentFace, bentBy)) (hrp : RelRp rp is) (hpl : RelPl n kinds firsts secs 0 doings doing) (hsec : ∀ k : Nat, k < 12 → (secs k).toNatClampNeg ≤ 99 ∧ secs k = nI (secs k).toNatClampNeg) (hw : is 3 = water) (hb : Btw 0 water 999) (W : Nat → Prop) (hW : ∀ t : Nat, W t ↔ jGone (x_wh rp kinds firsts secs n (fun _ => 0) (fun _ => 0) water 0 t) = 0) :
    ∀ (m k : Nat) (wh gr ga hi down core wat pricked thin seconds gone splitAt steam : Int32) (degrees brown : Nat → Int32), 41 - k < m →
      (∃ i : Nat, k ≤ i ∧ i ≤ 40 ∧ W (if j = 0 then 60 + i else 100 - i) ∧ (∀ i' : Nat, k ≤ i' → i' < i → ¬ W (if j = 0 then 60 + i' else 100 - i')) ∧ (F_X4_simmered_L13 radius skin filling water ends thinBy bentFace bentBy n kinds firsts secs j m k wh gr ga hi down core wat pricked thin seconds gone splitAt steam degrees brown).1 = nI (if j = 0 then 60 + i else 100 - i)) ∨
      ((∀ i' : Nat, k ≤ i' → i' ≤ 40 → ¬ W (if j = 0 then 60 + i' else 100 - i')) ∧ (F_X4_simmered_L13 radius skin filling water ends thinBy bentFace bentBy n kinds firsts secs j m k wh gr ga hi down core wat pricked thin seconds gone splitAt steam degrees brown).1 = -9) := by
  intro m
  induction m with
  | zero => intro k wh gr ga hi down core wat pricked thin seconds gone splitAt steam degrees brown a; exact absurd a (Nat.not_lt_zero _)
  | succ m ih =>
    intro k wh gr ga hi down core wat pricked thin seconds gone splitAt steam degrees brown a
    rw [F_X4_simmered_L13]
    by_cases c : 40 < k
    · rw [if_pos c]
      exact Or.inr ⟨fun i' a b => absurd b (by omega), rfl⟩
    · have hs := x_sim4 (t := if j = 0 then 60 + k else 100 - k) hrpE hrp hpl hsec hw hb (by split <;> omega) (by split <;> omega) degrees brown (T := F_X0_setOut degrees brown water 15) rfl
      have e0 : (if j = 0 then nI (60 + k) else nI (100 - k)) = nI (if j = 0 then 60 + k else 100 - k) := by split <;> rfl
      rw [if_neg c, e0, x_nmE, x_nmE, x_nmE]
      dsimp only at hs
      generalize F_X0_setOut degrees brown water 15 = T at hs
      generalize F_X4_simmered_L51 radius skin filling ends thinBy bentFace bentBy (nI (if j = 0 then 60 + k else 100 - k)) T.2.2.2.2.1 T.2.2.2.2.2.2.2.1 T.2.2.2.2.2.2.2.2.1 (60 + 1) 0 T.1 T.2.1 T.2.2.1 T.2.2.2.1 T.2.2.2.2.2.1 T.2.2.2.2.2.2.1 T.2.2.2.2.2.2.2.2.2.1 T.2.2.2.2.2.2.2.2.2.2.1 T.2.2.2.2.2.2.2.2.2.2.2.1 T.2.2.2.2.2.2.2.2.2.2.2.2.1 T.2.2.2.2.2.2.2.2.2.2.2.2.2.1 T.2.2.2.2.2.2.2.2.2.2.2.2.2.2 = u at hs
      generalize F_X4_staysWhole radius skin filling ends thinBy bentFace bentBy n kinds firsts secs u.1 u.2.1 u.2.2.1 u.2.2.2.1 T.2.2.2.2.1 u.2.2.2.2.2.2.2.2.2.2.1 u.2.2.2.2.2.2.2.2.2.2.2 u.2.2.2.2.1 u.2.2.2.2.2.1 T.2.2.2.2.2.2.2.1 T.2.2.2.2.2.2.2.2.1 u.2.2.2.2.2.2.1 u.2.2.2.2.2.2.2.1 u.2.2.2.2.2.2.2.2.1 u.2.2.2.2.2.2.2.2.2.1 = v at hs
      rw [x_nmE, hs]
      by_cases g0 : jGone (x_wh rp kinds firsts secs n (fun _ => 0) (fun _ => 0) water 0 (if j = 0 then 60 + k else 100 - k)) = 0
      · rw [if_pos g0, if_neg (by decide)]
        exact Or.inl ⟨k, Nat.le_refl _, by omega, (hW _).mpr g0, fun i' a b => absurd b (by omega), rfl⟩
      · rw [if_neg g0, if_pos rfl]
        have hnot : ¬ W (if j = 0 then 60 + k else 100 - k) := fun q => g0 ((hW _).mp q)
        rcases ih (k + 1) v.2.1 v.2.2.1 v.2.2.2.1 v.2.2.2.2.1 v.2.2.2.2.2.1 v.2.2.2.2.2.2.1 v.2.2.2.2.2.2.2.1 v.2.2.2.2.2.2.2.2.1 T.2.2.2.2.2.2.2.2.1 v.2.2.2.2.2.2.2.2.2.1 v.2.2.2.2.2.2.2.2.2.2.1 v.2.2.2.2.2.2.2.2.2.2.2.1 v.2.2.2.2.2.2.2.2.2.2.2.2.1 v.2.2.2.2.2.2.2.2.2.2.2.2.2.1 v.2.2.2.2.2.2.2.2.2.2.2.2.2.2 (by omega) with ⟨i, i1, i2, i3, i4, i5⟩ | ⟨i1, i2⟩
        · refine Or.inl ⟨i, by omega, i2, i3, fun i' a b => ?_, i5⟩
          rcases Nat.eq_or_lt_of_le a with rfl | a2
          · exact hnot
          · exact i4 i' a2 b
        · refine Or.inr ⟨fun i' a b => ?_, i2⟩
          rcases Nat.eq_or_lt_of_le a with rfl | a2
          · exact hnot
          · exact i1 i' a2 b
theorem x_sim5L {rp : TRP} {kinds firsts secs doings doing is : Nat → Int32} {n j : Nat} {water : Int32} (hrp : RelRp rp is) (hrk : RpOk rp) (hpl : RelPl n kinds firsts secs 0 doings doing) (hw : is 3 = water) (hb : Btw 0 water 999) (W : Nat → Prop) (hW : ∀ t : Nat, W t ↔ jGone (x_wh rp kinds firsts secs n (fun _ => 0) (fun _ => 0) water 0 t) = 0) :
    ∀ (m t : Nat) (l tw tm ta th : Int32) (row : Nat → Int32), 60 ≤ t → 101 - t < m → (l = -9 ∨ ∃ t0 : Nat, t0 ≤ 100 ∧ l = nI t0) →
      ((j = 1 → (∃ i : Nat, t ≤ i ∧ i ≤ 100 ∧ W i ∧ (∀ i' : Nat, i < i' → i' ≤ 100 → ¬ W i') ∧ (F_X5_simmered_L18 is doings doing j m l t tw tm ta th row).1 = nI i) ∨ ((∀ i' : Nat, t ≤ i' → i' ≤ 100 → ¬ W i') ∧ (F_X5_simmered_L18 is doings doing j m l t tw tm ta th row).1 = l)) ∧
      (¬ j = 1 → (0 ≤ l → (F_X5_simmered_L18 is doings doing j m l t tw tm ta th row).1 = l) ∧ (l = -9 → (∃ i : Nat, t ≤ i ∧ i ≤ 100 ∧ W i ∧ (∀ i' : Nat, t ≤ i' → i' < i → ¬ W i') ∧ (F_X5_simmered_L18 is doings doing j m l t tw tm ta th row).1 = nI i) ∨ ((∀ i' : Nat, t ≤ i' → i' ≤ 100 → ¬ W i') ∧ (F_X5_simmered_L18 is doings doing j m l t tw tm ta th row).1 = -9)))) ∧
      ∀ q : Nat, q < 60 → (F_X5_simmered_L18 is doings doing j m l t tw tm ta th row).2.2.2.2.2 q = row q := by
  intro m
  induction m with
  | zero => intro t l tw tm ta th row _ a; exact absurd a (Nat.not_lt_zero _)
  | succ m ih =>
    intro t l tw tm ta th row h60 a hl
    rw [F_X5_simmered_L18]
    by_cases c : 100 < t
    · rw [if_pos c]
      refine ⟨⟨fun _ => Or.inr ⟨fun i' a b => absurd b (by omega), rfl⟩, fun _ => ⟨fun _ => rfl, fun q => Or.inr ⟨fun i' a b => absurd b (by omega), q⟩⟩⟩, fun _ _ => rfl⟩
    · rw [if_neg c]
      obtain ⟨tw1, tm1, ta1, th1, row1, h1, h2⟩ := x_holdsAll (row := row) (dg := fun _ => 0) (br := fun _ => 0) (tw := tw) (tm := tm) (ta := ta) (th := th) (p := 0) (t := t) hrp hrk hpl hw hb (by omega) (by omega)
      rw [nI_0] at h1
      by_cases cj : j = 1
      · rw [if_pos cj, h1, x_nmE, x_nmE]
        dsimp only
        by_cases g0 : jGone (x_wh rp kinds firsts secs n (fun _ => 0) (fun _ => 0) water 0 t) = 0
        · have hWt : W t := (hW t).mpr g0
          rw [if_pos g0, if_neg (by decide)]
          dsimp only
          obtain ⟨⟨i1, -⟩, i3⟩ := ih (t + 1) (nI t) tw1 tm1 ta1 th1 row1 (by omega) (by omega) (Or.inr ⟨t, by omega, rfl⟩)
          refine ⟨⟨fun _ => ?_, fun q => absurd cj q⟩, fun q hq => (i3 q hq).trans (h2 q hq)⟩
          rcases i1 cj with ⟨i, e1, e2, e3, e4, e5⟩ | ⟨e1, e2⟩
          · exact Or.inl ⟨i, by omega, e2, e3, e4, e5⟩
          · exact Or.inl ⟨t, by omega, by omega, hWt, fun i' a b => e1 i' (by omega) b, e2⟩
        · have hWt : ¬ W t := fun q => g0 ((hW t).mp q)
          rw [if_neg g0, if_pos rfl]
          dsimp only
          obtain ⟨⟨i1, -⟩, i3⟩ := ih (t + 1) l tw1 tm1 ta1 th1 row1 (by omega) (by omega) hl
          refine ⟨⟨fun _ => ?_, fun q => absurd cj q⟩, fun q hq => (i3 q hq).trans (h2 q hq)⟩
          rcases i1 cj with ⟨i, e1, e2, e3, e4, e5⟩ | ⟨e1, e2⟩
          · exact Or.inl ⟨i, by omega, e2, e3, e4, e5⟩
          · refine Or.inr ⟨fun i' a b => ?_, e2⟩
            rcases Nat.eq_or_lt_of_le a with rfl | a2
            · exact hWt
            · exact e1 i' a2 b
      · rw [if_neg cj]
        by_cases c0 : 0 ≤ l
        · rw [if_pos c0, x_nmE]
          dsimp only
          obtain ⟨⟨-, i2⟩, i3⟩ := ih (t + 1) l tw tm ta th row (by omega) (by omega) hl
          refine ⟨⟨fun q => absurd q cj, fun _ => ⟨fun _ => (i2 cj).1 c0, fun q => ?_⟩⟩, i3⟩
          rw [q] at c0
          exact absurd c0 (by decide)
        · have l9 : l = -9 := by
            rcases hl with q | ⟨t0, q1, q2⟩
            · exact q
            · rw [q2] at c0
              exact absurd (nI_le (a := 0) (b := t0) (by omega) (by omega)) c0
          rw [if_neg c0, h1, x_nmE, x_nmE]
          dsimp only
          by_cases g0 : jGone (x_wh rp kinds firsts secs n (fun _ => 0) (fun _ => 0) water 0 t) = 0
          · have hWt : W t := (hW t).mpr g0
            rw [if_pos g0, if_neg (by decide)]
            dsimp only
            obtain ⟨⟨-, i2⟩, i3⟩ := ih (t + 1) (nI t) tw1 tm1 ta1 th1 row1 (by omega) (by omega) (Or.inr ⟨t, by omega, rfl⟩)
            refine ⟨⟨fun q => absurd q cj, fun _ => ⟨fun q => absurd q c0, fun _ => Or.inl ⟨t, Nat.le_refl _, by omega, hWt, fun i' a b => absurd b (by omega), ?_⟩⟩⟩, fun q hq => (i3 q hq).trans (h2 q hq)⟩
            exact (i2 cj).1 (nI_le (a := 0) (by omega) (by omega))
          · have hWt : ¬ W t := fun q => g0 ((hW t).mp q)
            rw [if_neg g0, if_pos rfl]
            dsimp only
            obtain ⟨⟨-, i2⟩, i3⟩ := ih (t + 1) l tw1 tm1 ta1 th1 row1 (by omega) (by omega) hl
            refine ⟨⟨fun q => absurd q cj, fun _ => ⟨fun q => absurd q c0, fun _ => ?_⟩⟩, fun q hq => (i3 q hq).trans (h2 q hq)⟩
            rcases (i2 cj).2 l9 with ⟨i, e1, e2, e3, e4, e5⟩ | ⟨e1, e2⟩
            · refine Or.inl ⟨i, by omega, e2, e3, fun i' a b => ?_, e5⟩
              rcases Nat.eq_or_lt_of_le a with rfl | a2
              · exact hWt
              · exact e4 i' a2 b
            · refine Or.inr ⟨fun i' a b => ?_, e2⟩
              rcases Nat.eq_or_lt_of_le a with rfl | a2
              · exact hWt
              · exact e1 i' a2 b
theorem s_simmered {t_kept : Nat → Int32} {t_heats : Nat → Int32} {t_salts : Nat → Int32} {t_crumbsOf : Nat → Int32} {t_tests : Nat} {t_traced : Int64} {r_radius : Int32} {r_skin : Int32} {r_filling : Int32} {r_water : Int32} {r_ends : Int32} {r_thin : Int32} {r_chance : Int32} {r_bentFace : Int32} {r_bentBy : Int32} {r_doings : Nat} {r_kinds : Nat → Int32} {r_firsts : Nat → Int32} {r_seconds : Nat → Int32} {d_seconds : Nat → Int32} {e_text : Nat → Int32} {e_length : Nat} {m_down : Int32} {m_degrees : Nat → Int32} {m_brown : Nat → Int32} {m_core : Int32} {m_water : Int32} {m_pricked : Int32} {m_thinSpots : Int32} {m_seconds : Int32} {m_gone : Int32} {m_splitAt : Int32} {m_steam : Int32} {j_when : Int32} {j_greatest : Int32} {j_greatestAt : Int32} {j_hiss : Int32} {jm_down : Int32} {jm_degrees : Nat → Int32} {jm_brown : Nat → Int32} {jm_core : Int32} {jm_water : Int32} {jm_pricked : Int32} {jm_thinSpots : Int32} {jm_seconds : Int32} {jm_gone : Int32} {jm_splitAt : Int32} {jm_steam : Int32} {i0_down : Int32} {i0_degrees : Nat → Int32} {i0_brown : Nat → Int32} {i0_core : Int32} {i0_water : Int32} {i0_pricked : Int32} {i0_thinSpots : Int32} {i0_seconds : Int32} {i0_gone : Int32} {i0_splitAt : Int32} {i0_steam : Int32} {i1_down : Int32} {i1_degrees : Nat → Int32} {i1_brown : Nat → Int32} {i1_core : Int32} {i1_water : Int32} {i1_pricked : Int32} {i1_thinSpots : Int32} {i1_seconds : Int32} {i1_gone : Int32} {i1_splitAt : Int32} {i1_steam : Int32} {u_length : Nat} {u_text : Nat → Int32} {u_is : Nat → Int32} {u_doings : Nat → Int32} {u_doing : Nat → Int32} {u_row : Nat → Int32} {u_isKept : Nat → Int32} {u_when : Int32} {u_most : Int32} {u_mostAt : Int32} {u_hiss : Int32} {u_heats : Nat → Int32} {u_orders : Nat → Int32} {u_tests : Nat} {u_salt : Nat → Int32} {u_crumbs : Nat → Int32} {u_traced : Int64} {a1 : Int32} {j_when_257 : Int32} {j_greatest_258 : Int32} {j_greatestAt_259 : Int32} {j_hiss_260 : Int32} {jm_down_261 : Int32} {jm_core_262 : Int32} {jm_water_263 : Int32} {jm_pricked_264 : Int32} {jm_thinSpots_265 : Int32} {jm_seconds_266 : Int32} {jm_gone_267 : Int32} {jm_splitAt_268 : Int32} {jm_steam_269 : Int32} {jm_degrees_270 : Nat → Int32} {jm_brown_271 : Nat → Int32} {u_when_275 : Int32} {u_most_276 : Int32} {u_mostAt_277 : Int32} {u_hiss_278 : Int32} {u_row_279 : Nat → Int32} {z_272 z_280 : Int32} (hI : Inv (r_radius, r_skin, r_filling, r_water, r_ends, r_thin, r_chance, r_bentFace, r_bentBy, r_doings, r_kinds, r_firsts, r_seconds) e_length e_text (m_down, m_core, m_water, m_pricked, m_thinSpots, m_seconds, m_gone, m_splitAt, m_steam, m_degrees, m_brown) (i0_down, i0_core, i0_water, i0_pricked, i0_thinSpots, i0_seconds, i0_gone, i0_splitAt, i0_steam, i0_degrees, i0_brown) (i1_down, i1_core, i1_water, i1_pricked, i1_thinSpots, i1_seconds, i1_gone, i1_splitAt, i1_steam, i1_degrees, i1_brown) t_kept t_heats t_tests t_salts t_crumbsOf t_traced u_length u_text u_is u_doings u_doing u_row u_isKept u_heats u_orders u_tests u_salt u_crumbs u_traced d_seconds) (h4 : (z_272, j_when_257, j_greatest_258, j_greatestAt_259, j_hiss_260, jm_down_261, jm_core_262, jm_water_263, jm_pricked_264, jm_thinSpots_265, jm_seconds_266, jm_gone_267, jm_splitAt_268, jm_steam_269, jm_degrees_270, jm_brown_271) = F_X4_simmered r_radius r_skin r_filling r_water r_ends r_thin r_bentFace r_bentBy r_doings r_kinds r_firsts r_seconds j_when j_greatest j_greatestAt j_hiss jm_down jm_degrees jm_brown jm_core jm_water jm_pricked jm_thinSpots jm_seconds jm_gone jm_splitAt jm_steam a1) (h5 : (z_280, u_when_275, u_most_276, u_mostAt_277, u_hiss_278, u_row_279) = F_X5_simmered u_is u_doings u_doing u_row u_when u_most u_mostAt u_hiss a1) : z_272 = z_280 ∧ Inv (r_radius, r_skin, r_filling, r_water, r_ends, r_thin, r_chance, r_bentFace, r_bentBy, r_doings, r_kinds, r_firsts, r_seconds) e_length e_text (m_down, m_core, m_water, m_pricked, m_thinSpots, m_seconds, m_gone, m_splitAt, m_steam, m_degrees, m_brown) (i0_down, i0_core, i0_water, i0_pricked, i0_thinSpots, i0_seconds, i0_gone, i0_splitAt, i0_steam, i0_degrees, i0_brown) (i1_down, i1_core, i1_water, i1_pricked, i1_thinSpots, i1_seconds, i1_gone, i1_splitAt, i1_steam, i1_degrees, i1_brown) t_kept t_heats t_tests t_salts t_crumbsOf t_traced u_length u_text u_is u_doings u_doing u_row_279 u_isKept u_heats u_orders u_tests u_salt u_crumbs u_traced d_seconds := by
  have hI' := hI
  obtain ⟨hrec, -⟩ := hI'
  have hrp := x_relrp hrec
  have hrk := x_rpok hrec
  have hpl := x_relpl hrec
  obtain ⟨⟨⟨-, -, -, hwb, -⟩, hn, hsec, -⟩, ⟨-, -, -, hw, -⟩, -⟩ := hrec
  rw [F_X4_simmered, x_nmE] at h4
  rw [F_X5_simmered, x_nmE] at h5
  by_cases c1 : F_X4_outside a1 0 1 = 0
  · obtain ⟨d1, d2, d3⟩ := x_outs (lo := 0) (hi := 1) (by decide) (by decide) c1
    rw [if_pos c1, x_nmE] at h4
    rw [if_neg (x_ioN 0 1 (by decide) (by decide) c1), x_nmE, x_nmE] at h5
    obtain ⟨W, hW⟩ : ∃ W : Nat → Prop, ∀ t : Nat, W t ↔ jGone (x_wh (r_radius, r_skin, r_filling, r_ends, r_thin, r_bentFace, r_bentBy) r_kinds r_firsts r_seconds r_doings (fun _ => 0) (fun _ => 0) r_water 0 t) = 0 := ⟨_, fun _ => Iff.rfl⟩
    have k4 := x_sim4L (j := a1.toNatClampNeg) rfl hrp hpl hsec hw hwb W hW (41 + 1) 0 j_when j_greatest j_greatestAt j_hiss jm_down jm_core jm_water jm_pricked jm_thinSpots jm_seconds jm_gone jm_splitAt jm_steam jm_degrees jm_brown (by omega)
    obtain ⟨⟨k5, k6⟩, k7⟩ := x_sim5L (j := a1.toNatClampNeg) hrp hrk hpl hw hwb W hW (101 + 1) 60 (-9) u_when u_most u_mostAt u_hiss u_row (by omega) (by omega) (Or.inl rfl)
    rw [← h4] at k4
    simp only [Prod.mk.injEq] at h5
    rw [← h5.1] at k5 k6
    rw [← h5.2.2.2.2.2] at k7
    refine And.intro ?_ (x_inv_row hI k7)
    dsimp only at k4
    by_cases cj : a1.toNatClampNeg = 1
    · rw [cj] at k4
      simp only [show ¬ (1 : Nat) = 0 by decide, if_false] at k4
      rcases k5 cj with ⟨i, e1, e2, e3, e4, e5⟩ | ⟨e1, e2⟩
      · rcases k4 with ⟨i', g1, g2, g3, g4, g5⟩ | ⟨g1, g2⟩
        · have : i = 100 - i' := by
            rcases Nat.lt_trichotomy i (100 - i') with q | q | q
            · exact absurd g3 (e4 _ q (by omega))
            · exact q
            · have := g4 (100 - i) (by omega) (by omega)
              rw [show 100 - (100 - i) = i by omega] at this
              exact absurd e3 this
          rw [g5, e5, this]
        · have := g1 (100 - i) (by omega) (by omega)
          rw [show 100 - (100 - i) = i by omega] at this
          exact absurd e3 this
      · rcases k4 with ⟨i', g1, g2, g3, g4, g5⟩ | ⟨g1, g2⟩
        · exact absurd g3 (e1 _ (by omega) (by omega))
        · rw [g2, e2]
    · have c0 : a1.toNatClampNeg = 0 := by omega
      rw [c0] at k4
      simp only [if_true] at k4
      rcases (k6 cj).2 rfl with ⟨i, e1, e2, e3, e4, e5⟩ | ⟨e1, e2⟩
      · rcases k4 with ⟨i', g1, g2, g3, g4, g5⟩ | ⟨g1, g2⟩
        · have : i = 60 + i' := by
            rcases Nat.lt_trichotomy i (60 + i') with q | q | q
            · have := g4 (i - 60) (by omega) (by omega)
              rw [show 60 + (i - 60) = i by omega] at this
              exact absurd e3 this
            · exact q
            · exact absurd g3 (e4 _ (by omega) q)
          rw [g5, e5, this]
        · have := g1 (i - 60) (by omega) (by omega)
          rw [show 60 + (i - 60) = i by omega] at this
          exact absurd e3 this
      · rcases k4 with ⟨i', g1, g2, g3, g4, g5⟩ | ⟨g1, g2⟩
        · exact absurd g3 (e1 _ (by omega) (by omega))
        · rw [g2, e2]
  · rw [if_neg c1] at h4
    rw [if_pos (x_ioP 0 1 (by decide) (by decide) c1)] at h5
    simp only [Prod.mk.injEq] at h4 h5
    rw [h4.1, h5.1, h5.2.2.2.2.2]
    exact And.intro rfl hI
