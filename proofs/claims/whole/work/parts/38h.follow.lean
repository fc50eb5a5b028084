/-! the steps of the law: the class's journey against the function -/
abbrev TO : Type := Int32 × Int32 × Int32 × Int32 × Int32 × Int32 × Int32 × Int32 × Int32 × Int32 × Int32 × Int32 × (Nat → Int32) × (Nat → Int32)
abbrev TRec16 : Type := Nat → Int32 → Int32 → Int32 → Int32 → Int32 → Int32 → Int32 → Int32 → Int32 → Int32 → Int32 → Int32 → (Nat → Int32) → (Nat → Int32) → TO
def jWhen (J : TJ) : Int32 := J.1
def jSec (J : TJ) : Int32 := J.2.2.2.2.2.2.2.2.2.1
def jGone (J : TJ) : Int32 := J.2.2.2.2.2.2.2.2.2.2.1
def jSplit (J : TJ) : Int32 := J.2.2.2.2.2.2.2.2.2.2.2.1
def jThin (J : TJ) : Int32 := J.2.2.2.2.2.2.2.2.1
def x_jout (J : TJ) : TO := match J with
  | (wh, gr, ga, hi, down, core, water, pricked, _, seconds, gone, splitAt, steam, degrees, brown) => (wh, gr, ga, hi, down, core, water, pricked, seconds, gone, splitAt, steam, degrees, brown)
def oWhen (o : TO) : Int32 := o.1
def oGone (o : TO) : Int32 := o.2.2.2.2.2.2.2.2.2.1
def oSplit (o : TO) : Int32 := o.2.2.2.2.2.2.2.2.2.2.1
theorem x_outE (J : TJ) : oWhen (x_jout J) = jWhen J ∧ oGone (x_jout J) = jGone J ∧ oSplit (x_jout J) = jSplit J := ⟨rfl, rfl, rfl⟩
def x_ap (rec : TRec16) (k : Nat) (J : TJ) : TO := match J with
  | (wh, gr, ga, hi, down, core, water, pricked, _, seconds, gone, splitAt, steam, degrees, brown) => rec k wh gr ga hi down core water pricked seconds gone splitAt steam degrees brown
def x_f73 (rp : TRP) (kinds firsts secs : Nat → Int32) (a2 a3 : Int32) (k : Nat) (rec : TRec16) (n k7 : Nat) (J : TJ) : TO := match rp, J with
  | (radius, skin, filling, ends, thinBy, bentFace, bentBy), (wh, gr, ga, hi, down, core, water, pricked, thin, seconds, gone, splitAt, steam, degrees, brown) => F_X0_follow_L73 thin radius skin filling ends thinBy bentFace bentBy kinds firsts secs a2 a3 k down pricked rec n k7 wh gr ga hi core water seconds gone splitAt steam degrees brown
theorem x_f73S (rp : TRP) (kinds firsts secs : Nat → Int32) (a2 a3 : Int32) (k : Nat) (rec : TRec16) (n k7 : Nat) (J : TJ) : x_f73 rp kinds firsts secs a2 a3 k rec (n + 1) k7 J = if (secs k).toNatClampNeg ≤ k7 then x_ap rec (k + 1) J else if a2 ≤ jSec J then x_ap rec (k + 1) J else if a3 = 0 then x_f73 rp kinds firsts secs a2 a3 k rec n (k7 + 1) (x_jp rp (kinds k) (firsts k) J) else if jGone J = 0 then x_f73 rp kinds firsts secs a2 a3 k rec n (k7 + 1) (x_jp rp (kinds k) (firsts k) J) else x_jout J := by
  obtain ⟨radius, skin, filling, ends, thinBy, bentFace, bentBy⟩ := rp
  obtain ⟨wh, gr, ga, hi, down, core, water, pricked, thin, seconds, gone, splitAt, steam, degrees, brown⟩ := J
  simp only [x_f73, x_jp]
  rw [F_X0_follow_L73]
  generalize F_X0_passNoting wh gr ga hi down degrees brown core water pricked thin seconds gone splitAt radius skin filling ends thinBy bentFace bentBy (kinds k) (firsts k) = u
  obtain ⟨wh', gr', ga', hi', core', water', seconds', gone', splitAt', steam', degrees', brown'⟩ := u
  rfl
def x_f3 (rp : TRP) (doings : Nat) (kinds firsts secs : Nat → Int32) (a2 a3 : Int32) (n k : Nat) (J : TJ) : TO := match rp, J with
  | (radius, skin, filling, ends, thinBy, bentFace, bentBy), (wh, gr, ga, hi, down, core, water, pricked, thin, seconds, gone, splitAt, steam, degrees, brown) => F_X0_follow_L3 thin radius skin filling ends thinBy bentFace bentBy doings kinds firsts secs a2 a3 n k wh gr ga hi down core water pricked seconds gone splitAt steam degrees brown
def x_rec (rp : TRP) (doings : Nat) (kinds firsts secs : Nat → Int32) (a2 a3 : Int32) (n : Nat) (thin : Int32) : TRec16 := match rp with
  | (radius, skin, filling, ends, thinBy, bentFace, bentBy) => F_X0_follow_L3 thin radius skin filling ends thinBy bentFace bentBy doings kinds firsts secs a2 a3 n
theorem x_apE (rp : TRP) (doings : Nat) (kinds firsts secs : Nat → Int32) (a2 a3 : Int32) (n k : Nat) {thin : Int32} (J : TJ) (h : jThin J = thin) : x_ap (x_rec rp doings kinds firsts secs a2 a3 n thin) k J = x_f3 rp doings kinds firsts secs a2 a3 n k J := by
  subst h
  obtain ⟨radius, skin, filling, ends, thinBy, bentFace, bentBy⟩ := rp
  obtain ⟨wh, gr, ga, hi, down, core, water, pricked, thin, seconds, gone, splitAt, steam, degrees, brown⟩ := J
  rfl
theorem x_f3S (rp : TRP) (doings : Nat) (kinds firsts secs : Nat → Int32) (a2 a3 : Int32) (n k : Nat) (J : TJ) : x_f3 rp doings kinds firsts secs a2 a3 (n + 1) k J = if doings ≤ k then x_jout J else if 12 ≤ k then x_jout J else x_f73 rp kinds firsts secs a2 a3 k (x_rec rp doings kinds firsts secs a2 a3 n (jThin J)) ((secs k).toNatClampNeg + 1) 0 (x_jd (kinds k) (firsts k) J) := by
  obtain ⟨radius, skin, filling, ends, thinBy, bentFace, bentBy⟩ := rp
  obtain ⟨wh, gr, ga, hi, down, core, water, pricked, thin, seconds, gone, splitAt, steam, degrees, brown⟩ := J
  simp only [x_f3, x_f73, x_jd, x_rec]
  rw [F_X0_follow_L3]
  by_cases c1 : kinds k = 1
  · rw [if_pos c1, if_pos c1, if_pos c1]; rfl
  · rw [if_neg c1, if_neg c1, if_neg c1]
    by_cases c2 : kinds k = 2
    · rw [if_pos c2, if_pos c2]; rfl
    · rw [if_neg c2, if_neg c2]; rfl
/-- what a second leaves -/
theorem x_passSec {down core water pricked thin seconds gone splitAt radius skin filling ends thinBy bentFace bentBy kind ht z c w se g sp st : Int32} {degrees brown u br : Nat → Int32} (h : F_X1_pass down degrees brown core water pricked thin seconds gone splitAt radius skin filling ends thinBy bentFace bentBy kind ht = (z, c, w, se, g, sp, st, u, br)) : se = seconds + 1 ∧ (¬ gone = 0 → g = gone ∧ sp = splitAt) := by
  rw [F_X1_pass] at h
  repeat rw [x_nmE] at h
  simp only [Prod.mk.injEq] at h
  obtain ⟨-, -, -, h1, h2, h3, -⟩ := h
  refine ⟨h1.symm, fun q => ?_⟩
  rw [if_neg q] at h2 h3
  exact ⟨h2.symm, h3.symm⟩
theorem x_jpT {rp : TRP} {kind ht : Int32} {J : TJ} {s : Nat} (hs : s < 1000000) (h1 : JT s J) : JT (s + 1) (x_jp rp kind ht J) ∧ jThin (x_jp rp kind ht J) = jThin J ∧ (¬ jGone J = 0 → jGone (x_jp rp kind ht J) = jGone J ∧ jSplit (x_jp rp kind ht J) = jSplit J ∧ jWhen (x_jp rp kind ht J) = jWhen J) ∧ (jGone J = 0 → jGone (x_jp rp kind ht J) = 0 ∨ jWhen (x_jp rp kind ht J) = nI (s + 1)) := by
  obtain ⟨radius, skin, filling, ends, thinBy, bentFace, bentBy⟩ := rp
  obtain ⟨wh, gr, ga, hi, down, core, water, pricked, thin, seconds, gone, splitAt, steam, degrees, brown⟩ := J
  obtain ⟨t1, t2, t3, t4⟩ := h1
  obtain ⟨⟨z, c, w, se, g, sp, st, u, br⟩, hv⟩ : ∃ o, F_X1_pass down degrees brown core water pricked thin seconds gone splitAt radius skin filling ends thinBy bentFace bentBy kind ht = o := ⟨_, rfl⟩
  obtain ⟨e1, e2⟩ := x_passSec hv
  have hse : se = nI (s + 1) := by rw [e1, t1, nI_1]
  have n9 : ¬ nI (s + 1) = -9 := x_nI9 (by omega)
  rw [x_jpE hv]
  refine And.intro ?_ (And.intro rfl (And.intro (fun q => ?_) (fun q => ?_)))
  · refine And.intro hse (And.intro ?_ (And.intro ?_ ?_))
    · rcases t2 with ⟨q1, q2⟩ | ⟨q1, w0, q2, rfl⟩
      · rw [if_pos q2]
        by_cases c0 : g = 0
        · rw [if_pos c0]; exact Or.inl ⟨c0, q2⟩
        · rw [if_neg c0]; exact Or.inr ⟨c0, s + 1, Nat.le_refl _, hse⟩
      · rw [if_neg (x_nI9 (by omega)), (e2 q1).1]
        exact Or.inr ⟨q1, w0, by omega, rfl⟩
    · by_cases c0 : ga = -9
      · rw [if_pos c0]; exact Or.inr ⟨s + 1, Nat.le_refl _, hse⟩
      · rw [if_neg c0]
        split
        · rcases t3 with q | ⟨a, q1, q2⟩
          · exact Or.inl q
          · exact Or.inr ⟨a, by omega, q2⟩
        · exact Or.inr ⟨s + 1, Nat.le_refl _, hse⟩
    · by_cases c0 : hi = -9
      · rw [if_pos c0]
        split
        · exact Or.inl c0
        · exact Or.inr ⟨s + 1, Nat.le_refl _, hse⟩
      · rw [if_neg c0]
        rcases t4 with q | ⟨a, q1, q2⟩
        · exact Or.inl q
        · exact Or.inr ⟨a, by omega, q2⟩
  · have q' : ¬ gone = 0 := q
    refine ⟨(e2 q').1, (e2 q').2, ?_⟩
    show (if wh = -9 then if g = 0 then wh else se else wh) = wh
    rcases t2 with ⟨q1, q2⟩ | ⟨q1, w0, q2, rfl⟩
    · exact absurd q1 q'
    · rw [if_neg (x_nI9 (by omega))]
  · have q' : gone = 0 := q
    show g = 0 ∨ (if wh = -9 then if g = 0 then wh else se else wh) = nI (s + 1)
    rcases t2 with ⟨q1, q2⟩ | ⟨q1, w0, q2, rfl⟩
    · rw [if_pos q2]
      by_cases c0 : g = 0
      · exact Or.inl c0
      · rw [if_neg c0]; exact Or.inr hse
    · exact absurd q' q1
def JG (L : Nat) (J : TJ) : Prop := jGone J = 0 ∨ ∃ w : Nat, L < w ∧ w < 2000000 ∧ jWhen J = nI w
def JSame (J J' : TJ) : Prop := jGone J' = jGone J ∧ jSplit J' = jSplit J ∧ jWhen J' = jWhen J
theorem x_jpsT {rp : TRP} {kind ht : Int32} : ∀ (n s : Nat) (J : TJ), s + n < 1000000 → JT s J → JT (s + n) (x_jps rp kind ht n J) ∧ jThin (x_jps rp kind ht n J) = jThin J ∧ (¬ jGone J = 0 → JSame J (x_jps rp kind ht n J)) ∧ (∀ L : Nat, L ≤ s → JG L J → JG L (x_jps rp kind ht n J)) := by
  intro n
  induction n with
  | zero => intro s J _ h; exact And.intro h (And.intro rfl (And.intro (fun _ => ⟨rfl, rfl, rfl⟩) (fun _ _ q => q)))
  | succ n ih =>
    intro s J hs h
    obtain ⟨i1, i2, i3, i4⟩ := x_jpT (rp := rp) (kind := kind) (ht := ht) (by omega) h
    obtain ⟨l1, l2, l3, l4⟩ := ih (s + 1) _ (by omega) i1
    rw [x_jpsS, show s + (n + 1) = s + 1 + n by omega]
    refine And.intro l1 (And.intro (l2.trans i2) (And.intro (fun q => ?_) (fun L hL q => ?_)))
    · obtain ⟨a1, a2, a3⟩ := i3 q
      obtain ⟨b1, b2, b3⟩ := l3 (by rw [a1]; exact q)
      exact ⟨b1.trans a1, b2.trans a2, b3.trans a3⟩
    · refine l4 L (by omega) ?_
      by_cases c : jGone J = 0
      · rcases i4 c with r | r
        · exact Or.inl r
        · exact Or.inr ⟨s + 1, by omega, by omega, r⟩
      · rcases q with q | ⟨w, q1, q2, q3⟩
        · exact absurd q c
        · exact Or.inr ⟨w, q1, q2, (i3 c).2.2.trans q3⟩
theorem x_jdE (kind first : Int32) (J : TJ) : jThin (x_jd kind first J) = jThin J ∧ JSame J (x_jd kind first J) ∧ jSec (x_jd kind first J) = jSec J := by
  obtain ⟨wh, gr, ga, hi, down, core, water, pricked, thin, seconds, gone, splitAt, steam, degrees, brown⟩ := J
  exact ⟨rfl, ⟨rfl, rfl, rfl⟩, rfl⟩
theorem x_plT {rp : TRP} {kinds firsts secs : Nat → Int32} : ∀ (c k s : Nat) (J : TJ), s + x_tot secs c k < 1000000 → JT s J → JT (s + x_tot secs c k) (x_pl rp kinds firsts secs c k J) ∧ jThin (x_pl rp kinds firsts secs c k J) = jThin J ∧ (¬ jGone J = 0 → JSame J (x_pl rp kinds firsts secs c k J)) ∧ (∀ L : Nat, L ≤ s → JG L J → JG L (x_pl rp kinds firsts secs c k J)) := by
  intro c
  induction c with
  | zero => intro k s J _ h; exact And.intro h (And.intro rfl (And.intro (fun _ => ⟨rfl, rfl, rfl⟩) (fun _ _ q => q)))
  | succ c ih =>
    intro k s J hs h
    rw [x_totS] at hs ⊢
    rw [x_plS]
    obtain ⟨d1, ⟨d2, d3, d4⟩, d5⟩ := x_jdE (kinds k) (firsts k) J
    obtain ⟨i1, i2, i3, i4⟩ := x_jpsT (rp := rp) (kind := kinds k) (ht := firsts k) (secs k).toNatClampNeg s (x_jd (kinds k) (firsts k) J) (by omega) (x_jdT h)
    obtain ⟨l1, l2, l3, l4⟩ := ih (k + 1) (s + (secs k).toNatClampNeg) _ (by omega) i1
    rw [show s + ((secs k).toNatClampNeg + x_tot secs c (k + 1)) = s + (secs k).toNatClampNeg + x_tot secs c (k + 1) by omega]
    refine And.intro l1 (And.intro (l2.trans (i2.trans d1)) (And.intro (fun q => ?_) (fun L hL q => ?_)))
    · obtain ⟨a1, a2, a3⟩ := i3 (by rw [d2]; exact q)
      obtain ⟨b1, b2, b3⟩ := l3 (by rw [a1, d2]; exact q)
      exact ⟨b1.trans (a1.trans d2), b2.trans (a2.trans d3), b3.trans (a3.trans d4)⟩
    · refine l4 L (by omega) (i4 L (by omega) ?_)
      rcases q with q | ⟨w, q1, q2, q3⟩
      · exact Or.inl (d2.trans q)
      · exact Or.inr ⟨w, q1, q2, d4.trans q3⟩
theorem x_jSec {J : TJ} {s : Nat} (h : JT s J) : jSec J = nI s := by
  obtain ⟨wh, gr, ga, hi, down, core, water, pricked, thin, seconds, gone, splitAt, steam, degrees, brown⟩ := J
  exact h.1
theorem x_jWhen0 {J : TJ} {s : Nat} (h : JT s J) (h2 : jGone J = 0) : jWhen J = -9 := by
  obtain ⟨wh, gr, ga, hi, down, core, water, pricked, thin, seconds, gone, splitAt, steam, degrees, brown⟩ := J
  rcases h.2.1 with q | q
  · exact q.2
  · exact absurd h2 q.1
/-- the inner loop of the class -/
theorem x_f73M {rp : TRP} {kinds firsts secs : Nat → Int32} {a3 : Int32} {k L m : Nat} {rec : TRec16} (hL : L < 1000000) (hm : (secs k).toNatClampNeg = m) : ∀ (n k7 s : Nat) (J : TJ), m - k7 < n → s + (m - k7) < 1000000 → JT s J →
    ∃ i : Nat, i ≤ m - k7 ∧ ((x_f73 rp kinds firsts secs (nI L) a3 k rec n k7 J = x_ap rec (k + 1) (x_jps rp (kinds k) (firsts k) i J) ∧ (i = m - k7 ∨ L ≤ s + i)) ∨ (¬ a3 = 0 ∧ x_f73 rp kinds firsts secs (nI L) a3 k rec n k7 J = x_jout (x_jps rp (kinds k) (firsts k) i J) ∧ ¬ jGone (x_jps rp (kinds k) (firsts k) i J) = 0)) := by
  intro n
  induction n with
  | zero => intro k7 s J a; exact absurd a (Nat.not_lt_zero _)
  | succ n ih =>
    intro k7 s J a b h
    rw [x_f73S, hm]
    by_cases c : m ≤ k7
    · rw [if_pos c]
      exact ⟨0, by omega, Or.inl ⟨rfl, Or.inl (by omega)⟩⟩
    · rw [if_neg c, x_jSec h]
      by_cases c2 : nI L ≤ nI s
      · rw [if_pos c2]
        exact ⟨0, by omega, Or.inl ⟨rfl, Or.inr ((nI_leI (by omega) (by omega)).mp c2)⟩⟩
      · rw [if_neg c2]
        have go : ∃ i : Nat, i ≤ m - k7 ∧ ((x_f73 rp kinds firsts secs (nI L) a3 k rec n (k7 + 1) (x_jp rp (kinds k) (firsts k) J) = x_ap rec (k + 1) (x_jps rp (kinds k) (firsts k) i J) ∧ (i = m - k7 ∨ L ≤ s + i)) ∨ (¬ a3 = 0 ∧ x_f73 rp kinds firsts secs (nI L) a3 k rec n (k7 + 1) (x_jp rp (kinds k) (firsts k) J) = x_jout (x_jps rp (kinds k) (firsts k) i J) ∧ ¬ jGone (x_jps rp (kinds k) (firsts k) i J) = 0)) := by
          obtain ⟨i1, -⟩ := x_jpT (rp := rp) (kind := kinds k) (ht := firsts k) (by omega) h
          obtain ⟨i, j1, j2⟩ := ih (k7 + 1) (s + 1) (x_jp rp (kinds k) (firsts k) J) (by omega) (by omega) i1
          refine ⟨i + 1, by omega, ?_⟩
          rw [x_jpsS]
          rcases j2 with ⟨j2, j3⟩ | j2
          · exact Or.inl ⟨j2, by rcases j3 with j3 | j3 <;> omega⟩
          · exact Or.inr j2
        by_cases c3 : a3 = 0
        · rw [if_pos c3]; exact go
        · rw [if_neg c3]
          by_cases c4 : jGone J = 0
          · rw [if_pos c4]; exact go
          · rw [if_neg c4]
            exact ⟨0, by omega, Or.inr ⟨c3, rfl, c4⟩⟩
/-- past the limit nothing goes on but turns and pricks -/
theorem x_f3L {rp : TRP} {kinds firsts secs : Nat → Int32} {a3 : Int32} {L doings : Nat} (hL : L < 1000000) : ∀ (n k s : Nat) (J : TJ), doings ≤ 12 → doings - k < n → s < 1000000 → L ≤ s → JT s J → oGone (x_f3 rp doings kinds firsts secs (nI L) a3 n k J) = jGone J ∧ oSplit (x_f3 rp doings kinds firsts secs (nI L) a3 n k J) = jSplit J ∧ oWhen (x_f3 rp doings kinds firsts secs (nI L) a3 n k J) = jWhen J := by
  intro n
  induction n with
  | zero => intro k s J _ a; exact absurd a (Nat.not_lt_zero _)
  | succ n ih =>
    intro k s J hd a b c h
    rw [x_f3S]
    by_cases c1 : doings ≤ k
    · rw [if_pos c1]; exact ⟨rfl, rfl, rfl⟩
    · obtain ⟨d1, ⟨d2, d3, d4⟩, d5⟩ := x_jdE (kinds k) (firsts k) J
      rw [if_neg c1, if_neg (by omega), x_f73S, d5, x_jSec h, x_apE _ _ _ _ _ _ _ _ _ _ d1, if_pos (nI_le c (by omega)), ite_self]
      obtain ⟨l1, l2, l3⟩ := ih (k + 1) s (x_jd (kinds k) (firsts k) J) hd (by omega) b c (x_jdT h)
      exact ⟨l1.trans d2, l2.trans d3, l3.trans d4⟩
def OSame (o : TO) (J : TJ) : Prop := oGone o = jGone J ∧ oSplit o = jSplit J ∧ oWhen o = jWhen J
theorem x_follow {rp : TRP} {kinds firsts secs : Nat → Int32} {a3 : Int32} {L doings : Nat} (hL : L < 1000000) (hd : doings ≤ 12) : ∀ (n k s : Nat) (J : TJ), doings - k < n → s + x_tot secs (doings - k) k < 1000000 → JT s J → ∀ o : TO, x_f3 rp doings kinds firsts secs (nI L) a3 n k J = o →
    o = x_jout (x_pl rp kinds firsts secs (doings - k) k J) ∨ (¬ a3 = 0 ∧ ¬ oGone o = 0 ∧ OSame o (x_pl rp kinds firsts secs (doings - k) k J)) ∨ (L < s + x_tot secs (doings - k) k ∧ ((¬ oGone o = 0 ∧ OSame o (x_pl rp kinds firsts secs (doings - k) k J)) ∨ (oGone o = 0 ∧ oWhen o = -9 ∧ JG L (x_pl rp kinds firsts secs (doings - k) k J)))) := by
  intro n
  induction n with
  | zero => intro k s J a; exact absurd a (Nat.not_lt_zero _)
  | succ n ih =>
    intro k s J a b h o ho
    rw [x_f3S] at ho
    by_cases c1 : doings ≤ k
    · rw [if_pos c1] at ho
      rw [show doings - k = 0 by omega]
      exact Or.inl ho.symm
    · rw [if_neg c1, if_neg (by omega)] at ho
      obtain ⟨d1, ⟨d2, d3, d4⟩, d5⟩ := x_jdE (kinds k) (firsts k) J
      rw [show doings - k = (doings - (k + 1)) + 1 by omega] at b ⊢
      rw [x_totS] at b ⊢
      rw [x_plS]
      have h2 : JT s (x_jd (kinds k) (firsts k) J) := x_jdT h
      generalize x_jd (kinds k) (firsts k) J = Jd at *
      obtain ⟨i, j1, j2⟩ := x_f73M (rp := rp) (kinds := kinds) (firsts := firsts) (a3 := a3) (rec := x_rec rp doings kinds firsts secs (nI L) a3 n (jThin J)) hL (m := (secs k).toNatClampNeg) rfl ((secs k).toNatClampNeg + 1) 0 s Jd (by omega) (by omega) h2
      rw [Nat.sub_zero] at j1 j2
      obtain ⟨m1, m2, m3, m4⟩ := x_jpsT (rp := rp) (kind := kinds k) (ht := firsts k) i s Jd (by omega) h2
      obtain ⟨M1, M2, M3, M4⟩ := x_jpsT (rp := rp) (kind := kinds k) (ht := firsts k) (secs k).toNatClampNeg s Jd (by omega) h2
      have add : ∀ (a b : Nat) (J : TJ), x_jps rp (kinds k) (firsts k) (a + b) J = x_jps rp (kinds k) (firsts k) b (x_jps rp (kinds k) (firsts k) a J) := by
        intro a
        induction a with
        | zero => intro b J; rw [Nat.zero_add, x_jps]
        | succ a ih => intro b J; rw [show a + 1 + b = (a + b) + 1 by omega, x_jpsS, x_jpsS, ih]
      have rest := add i ((secs k).toNatClampNeg - i) Jd
      rw [show i + ((secs k).toNatClampNeg - i) = (secs k).toNatClampNeg by omega] at rest
      obtain ⟨r1, r2, r3, r4⟩ := x_jpsT (rp := rp) (kind := kinds k) (ht := firsts k) ((secs k).toNatClampNeg - i) (s + i) _ (by omega) m1
      rw [← rest] at r3 r4
      obtain ⟨f1, f2, f3, f4⟩ := x_plT (rp := rp) (kinds := kinds) (firsts := firsts) (secs := secs) (doings - (k + 1)) (k + 1) (s + (secs k).toNatClampNeg) _ (by omega) M1
      rcases j2 with ⟨j2, j3⟩ | ⟨j2, j3, j4⟩
      · rw [j2, x_apE _ _ _ _ _ _ _ _ _ _ (m2.trans d1)] at ho
        by_cases c5 : i = (secs k).toNatClampNeg
        · rw [c5] at ho
          rcases ih (k + 1) (s + (secs k).toNatClampNeg) _ (by omega) (by omega) M1 o ho with q | q | ⟨q1, q2⟩
          · exact Or.inl q
          · exact Or.inr (Or.inl q)
          · exact Or.inr (Or.inr ⟨by omega, q2⟩)
        · have hlim : L ≤ s + i := by rcases j3 with j3 | j3; · exact absurd j3 c5
                                      · exact j3
          obtain ⟨g1, g2, g3⟩ := x_f3L (rp := rp) (kinds := kinds) (firsts := firsts) (secs := secs) (a3 := a3) (doings := doings) hL n (k + 1) (s + i) _ hd (by omega) (by omega) hlim m1
          rw [ho] at g1 g2 g3
          refine Or.inr (Or.inr ⟨by omega, ?_⟩)
          by_cases c6 : jGone (x_jps rp (kinds k) (firsts k) i Jd) = 0
          · refine Or.inr ⟨g1.trans c6, g3.trans (x_jWhen0 m1 c6), ?_⟩
            exact f4 L (by omega) (r4 L hlim (Or.inl c6))
          · obtain ⟨t1, t2, t3⟩ := r3 c6
            obtain ⟨u1, u2, u3⟩ := f3 (by rw [t1]; exact c6)
            exact Or.inl ⟨by rw [g1]; exact c6, g1.trans (u1.trans t1).symm, g2.trans (u2.trans t2).symm, g3.trans (u3.trans t3).symm⟩
      · rw [j3] at ho
        subst ho
        obtain ⟨t1, t2, t3⟩ := r3 j4
        obtain ⟨u1, u2, u3⟩ := f3 (by rw [t1]; exact j4)
        exact Or.inr (Or.inl ⟨j2, j4, (u1.trans t1).symm, (u2.trans t2).symm, (u3.trans t3).symm⟩)
