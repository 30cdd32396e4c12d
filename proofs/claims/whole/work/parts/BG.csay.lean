section
/-! A NODE SAYS WHAT IT VOTES -/
theorem GN.ow {F H T n : Nat} {G : Gh} {w : Wd} (k : GN F H T G w n) (hn : n < H) (hH : H ≤ T) (hT : T ≤ 13) (hu : wN w n 0 = 1) : owF T n (wN w n) (wY w n) := by
  obtain ⟨ka, kp, kv, kh, kd, ks, ke, kl, ko, kg, ku, kb, kf⟩ := k
  have hh := ka.2.1
  have f := kf hu
  constructor
  · intro i m hi
    constructor
    · rintro ⟨a1, a2, a3⟩
      obtain ⟨q1, q2, q3, q4, q5, q6, q7, q8⟩ := kh ((wN w n 1).toNat % 2) (i % 16) m (by omega) (by omega) (by rw [← a1, show 16 * (i / 16) + i % 16 = i by omega]; exact a2)
      obtain ⟨g1, g2, g3⟩ := kg m (by rw [← a3]; exact q8 (by omega))
      rcases g3 with g3 | ⟨g3, ⟨j, j1, j2⟩, -⟩
      · unfold nxt at q4
        omega
      · exact ⟨j, j1, j2, Or.inl ⟨rfl, q1, by omega⟩⟩
    · rintro ⟨j, j1, j2, j3 | j3⟩
      · obtain ⟨_, j4, j5⟩ := j3
        obtain ⟨m', e, o1, o2, o3⟩ := ko j j1
        rw [j2] at e
        have e := Option.some.inj e
        rw [← e] at o2
        refine ⟨?_, ?_, o2.1⟩
        · have := o2.2.2.1
          omega
        · rw [j5]
          exact (f j m j1 j2).1 j4
      · exact absurd j3.1 (by decide)
  · intro c p r s m hc hp hr hs
    constructor
    · rintro ⟨a1, a2, a3⟩
      obtain ⟨q1, q2, q3, q4, q5, q6, q7, q8, q9⟩ := kv c p r s m hc hp hr (by omega) a2
      have es : s = n := by omega
      obtain ⟨g1, g2, g3⟩ := kg m (by rw [← es]; exact q9 (by omega))
      rcases g3 with g3 | ⟨g3, ⟨j, j1, j2⟩, -⟩
      · unfold nxt at q6
        omega
      · refine ⟨j, j1, j2, Or.inr ⟨rfl, by omega, ?_⟩⟩
        have ec : (if bg m 0 = 3 then 1 else 0) = c := by
          rw [q2]
          rcases (show c = 0 ∨ c = 1 by omega) with rfl | rfl <;> rfl
        rw [ec, q4, es, a1]
    · rintro ⟨j, j1, j2, j3 | j3⟩
      · exact absurd j3.1 (by decide)
      · obtain ⟨_, j4, j5⟩ := j3
        obtain ⟨m', e, o1, o2, o3⟩ := ko j j1
        rw [j2] at e
        have e := Option.some.inj e
        rw [← e] at o2
        have o4 := o2.2.2.1
        obtain ⟨v1, v2, v3, v4⟩ := vq_inj j5 hp hr (by omega) (by omega) o4 (by omega)
        refine ⟨v2, ?_, o2.1⟩
        rw [j5]
        exact (f j m j1 j2).2 j4
theorem owF.cg {T n : Nat} {v v' : Nat → Int} {y y' : Nat → Nat → Option (List Nat)} (h : owF T n v y) (h1 : v' 1 = v 1) (h17 : v' 17 = v 17) (h4 : y' 4 = y 4) (h5 : y' 5 = y 5) (h8 : y' 8 = y 8) : owF T n v' y' := by
  have e : ∀ f i m, owH n v' y' f i m = owH n v y f i m := fun f i m => by
    unfold owH
    rw [h1, h17, h8]
  unfold owF
  simp only [e]
  rw [h1, h4, h5]
  exact h
/-- what a node that speaks asks of the world -/
def uO (T : Nat) (w : Wd) (n : Nat) : Prop := wN w n 0 = 1 ∧ (1 ≤ wN w n 1 ∧ wN w n 1 ≤ 41) ∧ (0 ≤ wN w n 2 ∧ wN w n 2 < 16) ∧ (0 ≤ wN w n 15 ∧ wN w n 15 ≤ 99) ∧ (0 ≤ wN w n 12 ∧ wN w n 12 ≤ 1000) ∧ 0 ≤ wN w n 17 ∧ owF T n (wN w n) (wY w n)
section
variable {F N g H T n : Nat} {s : cS} {ct : Nat → List Nat} {hd : List Nat} {w : Wd} {pe : Nat → Int} {G : Gh}
theorem GN.uo (k : GN F H T G w n) (c : cst F H T) (gk : giK (wN w n)) (hn : n < H) (hu : wN w n 0 = 1) : uO T w n := by
  have cb := c.bb
  have o := k.ok c gk
  have a1 := o.n99
  obtain ⟨i, i1, i2⟩ := o.l64
  exact ⟨hu, o.h, o.r, ⟨a1.1, by omega⟩, o.c, by omega, k.ow hn (by omega) (by omega) hu⟩
theorem ut_vote {kd st : Nat} {o : Option (List Nat)} : utW w n T st (vtM w n kd o) = (aVote w n T kd st o).2 := by
  unfold utW aVote
  by_cases c : (aOwn w n (ownT w n 3 (st :: vtM w n kd o))).1 = true
  · rw [if_pos c, if_pos c]
  · rw [if_neg c, if_neg c]
theorem hoM_vt {kd : Nat} {o : Option (List Nat)} (c : cst F H T) (hn : n < H) (hk : kd = 2 ∨ kd = 3) (h1 : 1 ≤ wN w n 1 ∧ wN w n 1 ≤ 41) (h2 : 0 ≤ wN w n 2 ∧ wN w n 2 < 16) (ho : ∀ d, o = some d → d.length = 32 ∧ isB d) : hoM T (vtM w n kd o) ∧ bg (vtM w n kd o) 1 = n ∧ tw (vtM w n kd o) 2 = (wN w n 1).toNat ∧ (vtM w n kd o).length ≤ 900 := by
  have cb := c.bb
  obtain ⟨t1, t2, t3, t4⟩ := vtB_ok (T := T) (k := kd) (n := n) (h := (wN w n 1).toNat) (r := (wN w n 2).toNat) (o := o) (by omega) (by omega) (by omega) (by omega) (by omega) (by omega) ho
  obtain ⟨y0, y4, -⟩ := bg_vt (k := kd) (s := n) (h := (wN w n 1).toNat) (r := (wN w n 2).toNat) o
  have t1 : bg (vtM w n kd o) 1 = n := t1
  have t2 : tw (vtM w n kd o) 2 = (wN w n 1).toNat := t2
  have y0 : bg (vtM w n kd o) 0 = kd := y0
  have y4 : bg (vtM w n kd o) 4 = (wN w n 2).toNat := y4
  have l : 6 ≤ (vtM w n kd o).length ∧ (vtM w n kd o).length ≤ 38 := by
    unfold vtM vtB
    have h5 : (hdB kd n (wN w n 1).toNat (wN w n 2).toNat).length = 5 := rfl
    rw [List.length_append, h5]
    cases o with
    | none => exact ⟨by show 6 ≤ 5 + 1; omega, by show 5 + 1 ≤ 38; omega⟩
    | some d =>
      have := (ho d rfl).1
      show 6 ≤ 5 + (d.length + 1) ∧ 5 + (d.length + 1) ≤ 38
      omega
  exact ⟨⟨Or.inr ⟨by omega, by omega⟩, by omega, by omega, by omega⟩, t1, t2, by omega⟩
/-- a vote is made and uttered -/
theorem say_C {kd st : Nat} {xo : Option Nat} {o : Option (List Nat)} (hN : 100 ≤ N) (h : CR F g H T s ct hd w pe) (hn : n < H) (hl : hd.length ≤ 25) (hk : kd = 2 ∨ kd = 3) (hst : st ≤ 2) (u : uO T w n) (hp : pe n = -1) (hx : vpO g H T s ct hd xo o) : p_X6_vote N g H T s (nd g n) (nI kd) xo ∧ wp (p_X7_utter N g H T (k_X6_vote N g H T s (nd g n) (nI kd) xo).2 (some (nd g n)) (k_X6_vote N g H T s (nd g n) (nI kd) xo).1 (nI st)) (k_X7_utter N g H T (k_X6_vote N g H T s (nd g n) (nI kd) xo).2 (some (nd g n)) (k_X6_vote N g H T s (nd g n) (nI kd) xo).1 (nI st)) (reC F g H T ct hd (aVote w n T kd st o).2 pe) := by
  obtain ⟨u0, u1, u2, u15, u12, u17, ow⟩ := u
  obtain ⟨p1, ⟨a, ct', z1, z2, z3, z4, z5, z6, z7⟩, h4⟩ := vote_C (N := N) hN h hn (by omega) hk u1 u2 hx
  refine ⟨p1, ?_⟩
  have ho : ∀ d, o = some d → d.length = 32 ∧ isB d := fun d e => by
    rcases hx with ⟨-, q⟩ | ⟨b, d', -, q, -, -, -, q1, q2⟩
    · rw [q] at e
      cases e
    · rw [q] at e
      rw [← Option.some.inj e]
      exact ⟨q1, q2⟩
  obtain ⟨m1, m2, m3, m4⟩ := hoM_vt (o := o) h.1 hn hk u1 u2 ho
  have e4 := h4 a z1
  rw [z1]
  generalize (k_X6_vote N g H T s (nd g n) (nI kd) xo).2 = Z at z4 z5 z7 e4 ⊢
  have q := utter_C (N := N) (a := a) (st := st) hN z4 hn hl u0 u1 u15 u12 u17 hst (by rw [z2]; exact m1) (by rw [z2]; exact m2) (by rw [z2]; exact m3) (by rw [z2]; exact m4) e4 hp ow
  rw [z2, ut_vote] at q
  refine wp_fin q.1 ⟨ct', fun x hx => z3 x (fun q => ?_), q.2⟩
  have := us_in (g := g) (H := H) (T := T) (s := s) hx
  rw [q] at this
  omega
theorem be_and {v : Nat → Int} (h6 : 0 ≤ v 6 ∧ v 6 ≤ 1) (h7 : 0 ≤ v 7 ∧ v 7 ≤ 1) (h8 : 0 ≤ v 8 ∧ v 8 ≤ 1) : (nI (beN v) &&& nI 1 = 0 ↔ v 6 = 0) ∧ (nI (beN v) &&& nI 2 = 0 ↔ v 7 = 0) ∧ (nI (beN v) &&& nI 4 = 0 ↔ v 8 = 0) ∧ nI (beN v) ||| nI 1 = nI ((1 : Int).toNat + 2 * (v 7).toNat + 4 * (v 8).toNat) ∧ (v 7 = 0 → nI (beN v) ||| nI 2 = nI ((v 6).toNat + 2 * (1 : Int).toNat + 4 * (v 8).toNat)) ∧ (v 8 = 0 → nI (beN v) ||| nI 4 = nI ((v 6).toNat + 2 * (v 7).toNat + 4 * (1 : Int).toNat)) := by
  unfold beN
  rcases (show v 6 = 0 ∨ v 6 = 1 by omega) with e6 | e6 <;> rcases (show v 7 = 0 ∨ v 7 = 1 by omega) with e7 | e7 <;> rcases (show v 8 = 0 ∨ v 8 = 1 by omega) with e8 | e8 <;> rw [e6, e7, e8] <;> decide
theorem sN_id {k : Nat} : sN w n k (wN w n k) = w := by
  unfold sN
  refine Prod.ext (funext fun m => funext fun j => ?_) rfl
  show (if m = n ∧ j = k then w.1 n k else w.1 m j) = w.1 m j
  by_cases d : m = n ∧ j = k
  · rw [if_pos d, d.1, d.2]
  · rw [if_neg d]
theorem CR.b6 (h : CR F g H T s ct hd w pe) (hn : n < H) (hu : wN w n 0 = 1) : CR F g H T (csI s 16 (nd g n) (nI ((1 : Int).toNat + 2 * (wN w n 7).toNat + 4 * (wN w n 8).toNat))) ct hd (sN w n 6 1) pe := by
  have q := h.n6 (b6 := 1) (b7 := wN w n 7) (b8 := wN w n 8) hn hu
  have e7 : wN w n 7 = wN (sN w n 6 1) n 7 := (N_o _ _ _ _ (by omega)).symm
  have e8 : wN w n 8 = wN (sN w n 6 1) n 8 := (N_o _ _ _ _ (by omega)).symm
  have e : sN (sN (sN w n 6 1) n 7 (wN w n 7)) n 8 (wN w n 8) = sN w n 6 1 := by
    rw [e7, sN_id, e8, sN_id]
  rw [e] at q
  exact q
theorem CR.b7 (h : CR F g H T s ct hd w pe) (hn : n < H) (hu : wN w n 0 = 1) : CR F g H T (csI s 16 (nd g n) (nI ((wN w n 6).toNat + 2 * (1 : Int).toNat + 4 * (wN w n 8).toNat))) ct hd (sN w n 7 1) pe := by
  have q := h.n6 (b6 := wN w n 6) (b7 := 1) (b8 := wN w n 8) hn hu
  have e8 : wN w n 8 = wN (sN w n 7 1) n 8 := (N_o _ _ _ _ (by omega)).symm
  have e : sN (sN (sN w n 6 (wN w n 6)) n 7 1) n 8 (wN w n 8) = sN w n 7 1 := by
    rw [sN_id, e8, sN_id]
  rw [e] at q
  exact q
theorem CR.b8 (h : CR F g H T s ct hd w pe) (hn : n < H) (hu : wN w n 0 = 1) : CR F g H T (csI s 16 (nd g n) (nI ((wN w n 6).toNat + 2 * (wN w n 7).toNat + 4 * (1 : Int).toNat))) ct hd (sN w n 8 1) pe := by
  have q := h.n6 (b6 := wN w n 6) (b7 := wN w n 7) (b8 := 1) hn hu
  have e : sN (sN (sN w n 6 (wN w n 6)) n 7 (wN w n 7)) n 8 1 = sN w n 8 1 := by
    rw [sN_id, sN_id]
  rw [e] at q
  exact q
end
end
