section
/-! THE CLASS'S NODE BEGINS A ROUND: all of it -/
section
variable {F N g H T n : Nat} {s s' s1 s2 X : cS} {ct ct' : Nat → List Nat} {hd : List Nat} {w w' : Wd} {pe : Nat → Int} {r : Nat}
/-- a state that was reached, with the contents of what is in hand -/
def reC (F g H T : Nat) (ct : Nat → List Nat) (hd : List Nat) (w : Wd) (pe : Nat → Int) (s : cS) : Prop := ∃ ct', (∀ b, b ∈ hd → ct' b = ct b) ∧ CR F g H T s ct' hd w pe
theorem ut_prop {v : Int} {b : List Nat} (h3 : wN w n 3 = 0) : utW w n T 0 (prM w n v b) = (aProp w n T v b).2 := by
  unfold utW aProp
  by_cases c : (aOwn w n (ownT w n 3 (0 :: prM w n v b))).1 = true
  · rw [if_pos c, if_pos c]
    have e : sN (aOwn w n (ownT w n 3 (0 :: prM w n v b))).2 n 3 ((0 : Nat) : Int) = (aOwn w n (ownT w n 3 (0 :: prM w n v b))).2 := by
      have q := (aOwn_w c).2.1 3 (by omega)
      generalize (aOwn w n (ownT w n 3 (0 :: prM w n v b))).2 = w1 at q
      unfold sN
      refine Prod.ext (funext fun m => funext fun k => ?_) rfl
      show (if m = n ∧ k = 3 then ((0 : Nat) : Int) else w1.1 m k) = w1.1 m k
      by_cases d : m = n ∧ k = 3
      · rw [if_pos d, d.1, d.2]
        have q' : w1.1 n 3 = 0 := q.trans h3
        rw [q']
        rfl
      · rw [if_neg d]
    rw [e]
  · rw [if_neg c, if_neg c]
/-- what a node that proposes asks of the world -/
def prO (F H T : Nat) (w : Wd) (n : Nat) : Prop := wN w n 0 = 1 ∧ (1 ≤ wN w n 1 ∧ wN w n 1 ≤ 41) ∧ (0 ≤ wN w n 2 ∧ wN w n 2 < 16) ∧ wN w n 3 = 0 ∧ (-1 ≤ wN w n 5 ∧ wN w n 5 < 16) ∧ (0 ≤ wN w n 15 ∧ wN w n 15 ≤ 99) ∧ (0 ≤ wN w n 12 ∧ wN w n 12 ≤ 1000) ∧ 0 ≤ wN w n 17 ∧ owF T n (wN w n) (wY w n) ∧ (wY w n 1 0 = none → bdO T w n) ∧ ∀ b, wY w n 1 0 = some b → blkWf T b ∧ isB b ∧ tw b 0 = (wN w n 1).toNat
theorem hoM_pr {v : Int} {b : List Nat} (c : cst F H T) (hn : n < H) (h1 : 1 ≤ wN w n 1 ∧ wN w n 1 ≤ 41) (h2 : 0 ≤ wN w n 2 ∧ wN w n 2 < 16) (hv : -1 ≤ v ∧ v < 16) (hw : blkWf T b) (hB : isB b) (ht : tw b 0 = (wN w n 1).toNat) : hoM T (prM w n v b) ∧ bg (prM w n v b) 1 = n ∧ tw (prM w n v b) 2 = (wN w n 1).toNat ∧ (prM w n v b).length ≤ 900 := by
  have cb := c.bb
  have l := hw.len
  obtain ⟨t1, t2, t3, t4⟩ := prB_ok (T := T) (n := n) (h := (wN w n 1).toNat) (r := (wN w n 2).toNat) (v := v) (b := b) (by omega) (by omega) (by omega) (by omega) (by omega) hv hw hB ht
  obtain ⟨y0, y4, -, -⟩ := bg_pr (s := n) (h := (wN w n 1).toNat) (r := (wN w n 2).toNat) (v := v) (b := b) hv
  have lM : (prM w n v b).length = 6 + b.length := prB_len
  exact ⟨⟨Or.inl y0, by show bg (prB n (wN w n 1).toNat (wN w n 2).toNat v b) 1 < T; omega, by show bg (prB n (wN w n 1).toNat (wN w n 2).toNat v b) 4 < 16; omega, by omega⟩, t1, t2, by omega⟩
def bgW (w : Wd) (n T r : Nat) : Wd := if ((wN w n 1).toNat + r) % T = n then (match wY w n 1 0 with | none => (aProp w n T (-1) (aBld w n T)).2 | some b => (aProp w n T (wN w n 5) b).2) else w
/-- a message that was made is uttered -/
theorem ut_pr {v : Int} {b : List Nat} {z : Option Nat × cS} (hN : 100 ≤ N) (hn : n < H) (hl : hd.length ≤ 25) (hp : pe n = -1) (o : prO F H T w n) (hv : -1 ≤ v ∧ v < 16) (hw : blkWf T b) (hB : isB b) (ht : tw b 0 = (wN w n 1).toNat) (mk : mkC F g H T s ct hd w pe (prM w n v b) z) (h4 : ∀ a, z.1 = some a → cI z.2 4 a = nI 1) : wp (KO_X7_begin_102 N g H T (some (nd g n)) z.1 z.2) (KF_X7_begin_102 N g H T (some (nd g n)) z.1 z.2) (reC F g H T ct hd (aProp w n T v b).2 pe) := by
  obtain ⟨a, ct', z1, z2, z3, z4, z5, z6, z7⟩ := mk
  obtain ⟨o0, o1, o2, o3, o5, o15, o12, o17, ow, -, -⟩ := o
  obtain ⟨m1, m2, m3, m4⟩ := hoM_pr z4.1 hn o1 o2 hv hw hB ht
  have e4 := h4 a z1
  rw [z1]
  generalize z.2 = Z at z4 z5 z7 e4 ⊢
  unfold KO_X7_begin_102 KF_X7_begin_102 KO_X7_begin_106 KF_X7_begin_106
  have u := utter_C (N := N) (a := a) (st := 0) hN z4 hn hl o0 o1 o15 o12 o17 (by decide) (by rw [z2]; exact m1) (by rw [z2]; exact m2) (by rw [z2]; exact m3) (by rw [z2]; exact m4) e4 hp ow
  rw [z2, ut_prop o3] at u
  refine wp_fin ⟨u.1, trivial⟩ ⟨ct', fun x hx => z3 x (fun q => ?_), u.2⟩
  have := us_in (g := g) (H := H) (T := T) (s := s) hx
  rw [q] at this
  omega
theorem begin_61 (hN : 2100 ≤ N) (h : CR F g H T s ct hd w pe) (hn : n < H) (hl : hd.length ≤ 25) (hp : pe n = -1) (o : prO F H T w n) (hr : r < 16) (hf : cI s 5 (nd g n + 6) = nI 0) : wp (KO_X7_begin_61 N g H T (some (nd g n)) (nI r) s) (KF_X7_begin_61 N g H T (some (nd g n)) (nI r) s) (reC F g H T ct hd (bgW w n T r) pe) := by
  have cb := h.1.bb
  have o' := o
  obtain ⟨o0, o1, o2, o3, o5, o15, o12, o17, ow, ob, oc⟩ := o'
  have v1 : iI (wN w n 1) = nI (wN w n 1).toNat := by
    rw [← iI_n]
    congr 1
    omega
  have cell := h.node hn
  have e9 : cI s 9 (nd g n) = nI (wN w n 1).toNat := by rw [← v1]; exact cell.1.2.2.1
  have e1 : cI s 1 (nd g n) = nI n := cell.1.1
  have eT : cI s 1 (g + 8) = nI T := h.2.2.2.2.2.1.2.1
  unfold KO_X7_begin_61 KF_X7_begin_61
  rw [zsome, e9, e1]
  obtain ⟨p1, p2⟩ := proposer_c (N := N) (g := g) (H := H) (T := T) (s := s) (h := (wN w n 1).toNat) (r := r) eT ⟨by omega, by omega⟩ (by omega) (by omega)
  rw [p2]
  refine wp_and someN (wp_and p1 ?_)
  have ml : ((wN w n 1).toNat + r) % T < T := Nat.mod_lt _ (by omega)
  unfold bgW
  by_cases c : ((wN w n 1).toNat + r) % T = n
  · rw [if_pos c]
    refine wp_pos (by rw [c]) ?_
    have qk := cell.2.2.2.2.2.2.2.2.2.2.1.2.1
    cases e : cR s 15 (nd g n) with
    | none =>
      rw [e] at qk
      have ey : wY w n 1 0 = none := qk.symm
      rw [ey]
      refine wp_pos rfl ?_
      have bo := ob ey
      refine wp_call (build_C hN h hn (by omega) o1 o2 hf bo) ?_
      rintro ⟨mk, k4⟩
      exact ut_pr (by omega) hn hl hp o ⟨by decide, by decide⟩ bo.2.2.2.1 bo.2.2.2.2.1 bo.2.2.2.2.2 mk k4
    | some q =>
      rw [e] at qk
      have ey : wY w n 1 0 = some ((ct q).drop 6) := qk.symm
      obtain ⟨c1, c2, c3⟩ := oc _ ey
      rw [ey]
      refine wp_neg someN ?_
      refine wp_call (again_C (N := N) (by omega) h hn (by omega) o1 o2 o5 e ey c1 c2 c3) ?_
      rintro ⟨mk, k4⟩
      unfold KO_X7_begin_95 KF_X7_begin_95
      exact ut_pr (by omega) hn hl hp o o5 c1 c2 c3 mk k4
  · rw [if_neg c]
    unfold KO_X7_begin_106 KF_X7_begin_106
    exact wp_neg (by rw [n_eq' (by omega) (by omega)]; exact c) (wp_fin trivial ⟨ct, fun _ _ => rfl, h⟩)
end
end
