/-! the steps of the law: does it stay whole; thin spots -/
def x_sw (rp : TRP) (doings : Nat) (kinds firsts secs : Nat → Int32) (J : TJ) : Int32 × TO := match rp, J with
  | (radius, skin, filling, ends, thinBy, bentFace, bentBy), (wh, gr, ga, hi, down, core, water, pricked, thin, seconds, gone, splitAt, steam, degrees, brown) => F_X4_staysWhole radius skin filling ends thinBy bentFace bentBy doings kinds firsts secs wh gr ga hi down degrees brown core water pricked thin seconds gone splitAt steam
theorem x_swE {rp : TRP} {n s : Nat} {kinds firsts secs doings doing : Nat → Int32} {hot : Int32} {J : TJ} (hp : RelPl n kinds firsts secs hot doings doing) (hsec : ∀ k : Nat, k < 12 → (secs k).toNatClampNeg ≤ 99 ∧ secs k = nI (secs k).toNatClampNeg) (hs : s < 900000) (h : JT s J) :
    (x_sw rp n kinds firsts secs J).1 = (if jGone (x_pl rp kinds firsts secs n 0 J) = 0 then 1 else 0) ∧ (jGone (x_pl rp kinds firsts secs n 0 J) = 0 → (x_sw rp n kinds firsts secs J).2 = x_jout (x_pl rp kinds firsts secs n 0 J)) := by
  have ht := x_tot_pl hp
  have hn := hp.1
  have hf := x_follow (rp := rp) (kinds := kinds) (firsts := firsts) (secs := secs) (a3 := 1) (L := s + x_tot secs n 0) (doings := n) (by omega) hn (12 + 1) 0 s J (by omega) (by rw [Nat.sub_zero]; omega) h _ rfl
  rw [Nat.sub_zero] at hf
  have e : x_sw rp n kinds firsts secs J = ((if oGone (x_f3 rp n kinds firsts secs (nI (s + x_tot secs n 0)) 1 (12 + 1) 0 J) = 0 then 1 else 0), x_f3 rp n kinds firsts secs (nI (s + x_tot secs n 0)) 1 (12 + 1) 0 J) := by
    obtain ⟨radius, skin, filling, ends, thinBy, bentFace, bentBy⟩ := rp
    have hsec2 := x_jSec h
    obtain ⟨wh, gr, ga, hi, down, core, water, pricked, thin, seconds, gone, splitAt, steam, degrees, brown⟩ := J
    have hsec3 : seconds = nI s := hsec2
    subst hsec3
    simp only [x_sw, x_f3]
    rw [F_X4_staysWhole, x_planS hn hsec, x_nmE, x_nmE, x_nmE, nI_add, F_X0_follow]
    rfl
  rw [e]
  generalize x_f3 rp n kinds firsts secs (nI (s + x_tot secs n 0)) 1 (12 + 1) 0 J = o at hf
  rcases hf with q | ⟨-, q1, q2⟩ | ⟨q, -⟩
  · subst q
    exact ⟨rfl, fun _ => rfl⟩
  · refine ⟨?_, fun q => absurd (q2.1.trans q) q1⟩
    show (if oGone o = 0 then (1 : Int32) else 0) = _
    rw [q2.1]
  · exact absurd q (by omega)
/-- a moment within its bounds stays so -/
theorem x_okRow {mo : TMom} (h : MomOk mo) : ∃ row : Nat → Int32, RelMom mo row 3 := by
  obtain ⟨down, core, water, pricked, thin, seconds, gone, splitAt, steam, degrees, brown⟩ := mo
  refine ⟨fun q => if q < 64 then degrees (q - 60) else if q = 64 then core else if q < 69 then brown (q - 65) else if q = 69 then water else if q = 70 then pricked else if q = 71 then thin else if q = 72 then seconds else if q = 73 then gone else if q = 74 then splitAt else if q = 75 then steam else down, And.intro h (And.intro (fun f hf => ?_) ⟨rfl, rfl, rfl, rfl, rfl, rfl, rfl, rfl, rfl⟩)⟩
  have e : f = 0 ∨ f = 1 ∨ f = 2 ∨ f = 3 := by omega
  rcases e with rfl | rfl | rfl | rfl <;> exact ⟨rfl, rfl⟩
def RpOk (rp : TRP) : Prop := match rp with
  | (radius, skin, _, _, thinBy, _, _) => Btw 1 radius 9 ∧ Btw 1 skin 999 ∧ Btw 0 thinBy 999
theorem x_jpOk {rp : TRP} {kind ht : Int32} {J : TJ} (hrp : RpOk rp) (hh : Btw 0 ht 300) (h : MomOk J.2.2.2.2) : MomOk (x_jp rp kind ht J).2.2.2.2 := by
  obtain ⟨row, hrow⟩ := x_okRow h
  obtain ⟨radius, skin, filling, ends, thinBy, bentFace, bentBy⟩ := rp
  obtain ⟨wh, gr, ga, hi, down, core, water, pricked, thin, seconds, gone, splitAt, steam, degrees, brown⟩ := J
  obtain ⟨⟨z, c, w, se, g, sp, st, u, br⟩, hv⟩ : ∃ o, F_X1_pass down degrees brown core water pricked thin seconds gone splitAt radius skin filling ends thinBy bentFace bentBy kind ht = o := ⟨_, rfl⟩
  rw [x_jpE hv]
  exact (x_second (is := fun q => if q = 0 then radius else if q = 1 then skin else if q = 2 then filling else if q = 4 then ends else if q = 5 then thinBy else if q = 7 then bentFace else bentBy) hrow hrp.1 rfl rfl rfl rfl rfl rfl rfl hh hv rfl).1.1
theorem x_jpsOk {rp : TRP} {kind ht : Int32} (hrp : RpOk rp) (hh : Btw 0 ht 300) : ∀ (n : Nat) (J : TJ), MomOk J.2.2.2.2 → MomOk (x_jps rp kind ht n J).2.2.2.2 := by
  intro n
  induction n with
  | zero => intro J h; exact h
  | succ n ih => intro J h; rw [x_jpsS]; exact ih _ (x_jpOk hrp hh h)
theorem x_jdOk {kind first : Int32} {J : TJ} (h : MomOk J.2.2.2.2) (h2 : kind = 0 ∨ kind = 3 ∨ (kind = 1 ∧ Btw 1 first 3) ∨ (kind = 2 ∧ Btw 0 first 9)) : MomOk (x_jd kind first J).2.2.2.2 := by
  rcases h2 with q | q | ⟨rfl, q⟩ | ⟨rfl, q⟩
  · rw [x_jdN _ (Or.inl q)]; exact h
  · rw [x_jdN _ (Or.inr q)]; exact h
  · obtain ⟨row, hrow⟩ := x_okRow h
    obtain ⟨wh, gr, ga, hi, mo⟩ := J
    exact (x_turns5 (J := (wh, gr, ga, hi, mo)) (tw := wh) (tm := gr) (ta := ga) (th := hi) q (And.intro ⟨rfl, rfl, rfl, rfl⟩ hrow)).1.2.1
  · obtain ⟨row, hrow⟩ := x_okRow h
    obtain ⟨wh, gr, ga, hi, mo⟩ := J
    exact (x_pricked5 (J := (wh, gr, ga, hi, mo)) (tw := wh) (tm := gr) (ta := ga) (th := hi) q (And.intro ⟨rfl, rfl, rfl, rfl⟩ hrow)).1.2.1
theorem x_strE {u : Nat → Int32} {A skin thinBy B T : Int32} {f : Nat} (hB : (if nI f < 0 then 0 else if 4 ≤ f then 0 else (if (0 : Int32) < (u f - 150) / 2 then (u f - 150) / 2 else 0)) = B) (hT : (if (A >>> ((nI f) &&& 31)) &&& 1 = 1 then thinBy else 0) = T) : F_X1_strengthAt u A f skin thinBy = if (1 : Int32) < skin - B - T then skin - B - T else 1 := by
  subst hB
  subst hT
  rfl
theorem x_passE {down core water pricked thin seconds gone splitAt radius skin filling ends thinBy bentFace bentBy kind ht C Z : Int32} {degrees brown U BR : Nat → Int32} {B G : Int32 × Int32}
    (hU : U = if kind = 0 then x_nm (F_X1_fireFaces down degrees ht) fun t => t else x_nm (F_X1_simmerFaces degrees ht) fun t => t) (hC : C = F_X1_warmCore U core radius) (hB : B = F_X1_boil U C water pricked) (hBR : BR = F_X1_browner U brown) (hZ : Z = F_X1_pressIn C pricked gone B.2 filling)
    (hG : G = if gone = 0 then F_X1_goIfPulled U thin gone splitAt radius skin ends thinBy bentFace bentBy Z else (gone, splitAt)) : F_X1_pass down degrees brown core water pricked thin seconds gone splitAt radius skin filling ends thinBy bentFace bentBy kind ht = (Z, C, B.1, seconds + 1, G.1, G.2, B.2, U, BR) := by
  subst hG
  subst hZ
  subst hBR
  subst hB
  subst hC
  subst hU
  rfl
/-- a thin spot more never holds more -/
theorem x_strMono {u : Nat → Int32} {A skin thinBy : Int32} {f : Nat} (hf : f < 4) (hu : Btw 0 (u f) 300) (hs : Btw 1 skin 999) (ht : Btw 0 thinBy 999) : F_X1_strengthAt u 15 f skin thinBy ≤ F_X1_strengthAt u A f skin thinBy := by
  have h0 : ¬ nI f < 0 ∧ ((15 : Int32) >>> ((nI f) &&& 31)) &&& 1 = 1 := by
    have e : f = 0 ∨ f = 1 ∨ f = 2 ∨ f = 3 := by omega
    rcases e with rfl | rfl | rfl | rfl <;> decide
  have k1 : (1 : Int32).toInt = 1 := by decide
  have e1 := x_bSub hu (x_bLit 150 150 (by decide)) (by decide) (by decide)
  rw [show (150 : Int32).toInt = 150 from by decide] at e1
  have e2 := x_bDiv (x := u f - 150) (y := 2) (a := -150) (b := 300) (x_bI (by have := hu.1; omega) (by have := hu.2; omega)) (by decide) (by decide)
  have e3 := x_tdivQ (u f - 150).toInt 2 (by decide)
  rw [show (2 : Int32).toInt = 2 from by decide] at e2
  rw [← e2, e1] at e3
  have hb : Btw 0 (if (0 : Int32) < (u f - 150) / 2 then (u f - 150) / 2 else 0) 300 := by
    by_cases c : (0 : Int32) < (u f - 150) / 2
    · rw [if_pos c]
      rw [Int32.lt_iff_toInt_lt, Int32.toInt_zero] at c
      obtain ⟨p1, p2⟩ := hu
      exact ⟨by omega, by omega⟩
    · rw [if_neg c]; exact ⟨by decide, by decide⟩
  obtain ⟨T, hT⟩ : ∃ T, (if (A >>> ((nI f) &&& 31)) &&& 1 = 1 then thinBy else 0) = T := ⟨_, rfl⟩
  rw [x_strE (A := 15) ((if_neg h0.1).trans (if_neg (by omega))) (if_pos h0.2), x_strE (A := A) ((if_neg h0.1).trans (if_neg (by omega))) hT]
  generalize (if (0 : Int32) < (u f - 150) / 2 then (u f - 150) / 2 else 0) = B at hb ⊢
  have s1 := x_bSub hs hb (by decide) (by decide)
  have b1 : Btw (-299) (skin - B) 999 := ⟨by have := hs.1; have := hb.2; omega, by have := hs.2; have := hb.1; omega⟩
  have s2 := x_bSub b1 ht (by decide) (by decide)
  have s3 := x_bSub b1 (x_bLit 0 0 (by decide)) (by decide) (by decide)
  rw [Int32.toInt_zero] at s3
  obtain ⟨p3, p4⟩ := ht
  have mono : ∀ x y : Int32, x.toInt ≤ y.toInt → (if (1 : Int32) < x then x else 1) ≤ (if (1 : Int32) < y then y else 1) := by
    intro x y hxy
    rw [Int32.le_iff_toInt_le]
    by_cases c1 : (1 : Int32) < x
    · have c1' := c1
      rw [Int32.lt_iff_toInt_lt, k1] at c1'
      have c2 : (1 : Int32) < y := by rw [Int32.lt_iff_toInt_lt, k1]; omega
      rw [if_pos c1, if_pos c2]; exact hxy
    · rw [if_neg c1]
      by_cases c2 : (1 : Int32) < y
      · rw [if_pos c2]
        rw [Int32.lt_iff_toInt_lt] at c2
        omega
      · rw [if_neg c2]; exact Int.le_refl _
  refine mono _ _ ?_
  by_cases c : (A >>> ((nI f) &&& 31)) &&& 1 = 1
  · rw [if_pos c] at hT; rw [← hT]; exact Int.le_refl _
  · rw [if_neg c] at hT; rw [← hT]; omega
theorem x_goMono {u : Nat → Int32} {A radius skin ends thinBy bentFace bentBy z splitAt : Int32} (hu : ∀ f : Nat, f < 4 → Btw 0 (u f) 300) (hs : Btw 1 skin 999) (ht : Btw 0 thinBy 999) : ∀ (n k : Nat), 4 - k < n → (F_X1_goIfPulled_L2 u 15 0 splitAt radius skin ends thinBy bentFace bentBy z n k).1 = 0 → F_X1_goIfPulled_L2 u 15 0 splitAt radius skin ends thinBy bentFace bentBy z n k = (0, splitAt) ∧ F_X1_goIfPulled_L2 u A 0 splitAt radius skin ends thinBy bentFace bentBy z n k = (0, splitAt) := by
  intro n
  induction n with
  | zero => intro k a; exact absurd a (Nat.not_lt_zero _)
  | succ n ih =>
    intro k a h
    rw [F_X1_goIfPulled_L2] at h
    rw [F_X1_goIfPulled_L2, F_X1_goIfPulled_L2]
    by_cases c : 4 ≤ k
    · rw [if_pos c] at h ⊢
      rw [if_pos c]
      rw [x_nmE, x_nmE] at h ⊢
      dsimp only at h
      rw [h]
      exact ⟨rfl, rfl⟩
    · rw [if_neg c] at h ⊢
      rw [if_neg c]
      rw [x_nmE, x_nmE] at h ⊢
      rw [x_nmE, x_nmE]
      by_cases c2 : F_X1_pullRound (nI k) radius bentFace bentBy z ≤ F_X1_strengthAt u 15 k skin thinBy
      · rw [if_pos c2] at h ⊢
        rw [if_pos (Int32.le_trans c2 (x_strMono (by omega) (hu k (by omega)) hs ht))]
        exact ih (k + 1) (by omega) h
      · rw [if_neg c2] at h
        exact absurd (show (1 : Int32) = 0 from h) (by decide)
def x_thin (A : Int32) (J : TJ) : TJ := match J with
  | (wh, gr, ga, hi, down, core, water, pricked, _, seconds, gone, splitAt, steam, degrees, brown) => (wh, gr, ga, hi, down, core, water, pricked, A, seconds, gone, splitAt, steam, degrees, brown)
theorem x_jpThin {rp : TRP} {kind ht A : Int32} {J : TJ} (hrp : RpOk rp) (hh : Btw 0 ht 300) (hok : MomOk J.2.2.2.2) (h15 : jThin J = 15) (h0 : jGone J = 0) (h1 : jGone (x_jp rp kind ht J) = 0) : x_jp rp kind ht (x_thin A J) = x_thin A (x_jp rp kind ht J) := by
  obtain ⟨radius, skin, filling, ends, thinBy, bentFace, bentBy⟩ := rp
  obtain ⟨wh, gr, ga, hi, down, core, water, pricked, thin, seconds, gone, splitAt, steam, degrees, brown⟩ := J
  have h15 : thin = 15 := h15
  have h0 : gone = 0 := h0
  subst h15
  subst h0
  have e : F_X1_pass down degrees brown core water pricked A seconds 0 splitAt radius skin filling ends thinBy bentFace bentBy kind ht = F_X1_pass down degrees brown core water pricked 15 seconds 0 splitAt radius skin filling ends thinBy bentFace bentBy kind ht := by
    obtain ⟨⟨z, c, w, se, g, sp, st, u, br⟩, hv⟩ : ∃ o, F_X1_pass down degrees brown core water pricked 15 seconds 0 splitAt radius skin filling ends thinBy bentFace bentBy kind ht = o := ⟨_, rfl⟩
    rw [x_jpE hv] at h1
    have hg : g = 0 := h1
    rw [F_X1_pass] at hv
    obtain ⟨U, hU, hv⟩ := x_nmG hv
    obtain ⟨C, hC, hv⟩ := x_nmG hv
    obtain ⟨B, hB, hv⟩ := x_nmG hv
    obtain ⟨BR, hBR, hv⟩ := x_nmG hv
    obtain ⟨Z, hZ, hv⟩ := x_nmG hv
    obtain ⟨G, hG, hv⟩ := x_nmG hv
    have hU1 := x_faces1 (down := down) (h := ht) (kind := kind) (degrees := degrees) hU.symm
    have hUb : ∀ f : Nat, f < 4 → Btw 0 (U f) 300 := fun f hf => by rw [hU1 f hf]; exact x_nd_ok (hok.2.2.2.2.2.2.2.2 f hf).1 hh
    rw [if_pos rfl, x_nmE, F_X1_goIfPulled] at hG
    have hv2 := hv
    simp only [Prod.mk.injEq] at hv2
    have hG0 : (F_X1_goIfPulled_L2 U 15 0 splitAt radius skin ends thinBy bentFace bentBy Z (4 + 1) 0).1 = 0 := by
      have q : G.1 = (F_X1_goIfPulled_L2 U 15 0 splitAt radius skin ends thinBy bentFace bentBy Z (4 + 1) 0).1 := by rw [hG]
      rw [← q, hv2.2.2.2.2.1, hg]
    obtain ⟨m1, m2⟩ := x_goMono (A := A) (radius := radius) (ends := ends) (bentFace := bentFace) (bentBy := bentBy) (z := Z) (splitAt := splitAt) hUb hrp.2.1 hrp.2.2 (4 + 1) 0 (by decide) hG0
    rw [x_passE (thin := A) (G := (0, splitAt)) hU hC hB hBR hZ (by rw [if_pos rfl, F_X1_goIfPulled, m2]), x_passE (thin := 15) (G := (0, splitAt)) hU hC hB hBR hZ (by rw [if_pos rfl, F_X1_goIfPulled, m1])]
  obtain ⟨⟨z, c, w, se, g, sp, st, u, br⟩, hv⟩ : ∃ o, F_X1_pass down degrees brown core water pricked 15 seconds 0 splitAt radius skin filling ends thinBy bentFace bentBy kind ht = o := ⟨_, rfl⟩
  rw [hv] at e
  rw [x_jpE hv]
  exact x_jpE e
