section
/-! WHAT FLIES: a list of (from, to, tick, bytes); the reference's sky -/
abbrev Fl : Type := Nat × Nat × Nat × List Nat
def fg (fl : List Fl) (k : Nat) : Fl := fl.getD k (0, 0, 0, [])
theorem fg_snoc (fl : List Fl) (x : Fl) (k : Nat) : fg (fl ++ [x]) k = if k < fl.length then fg fl k else if k = fl.length then x else (0, 0, 0, []) := by
  unfold fg
  by_cases h : k < fl.length
  · simp [h, List.getElem?_append_left]
  · by_cases e : k = fl.length
    · simp [e]
    · simp only [h, e, if_false]
      rw [List.getD_eq_getElem?_getD, List.getElem?_eq_none (by simp; omega)]
      rfl
/-- flights, sent, lost -/
abbrev Sk : Type := List Fl × Int × Int
def pst (k : Sk) (x : Fl) : Sk := if k.1.length < 1000 then (k.1 ++ [x], k.2.1 + 1, k.2.2) else (k.1, k.2.1 + 1, k.2.2 + 1)
def pstN (k : Sk) (f tk : Nat) (m : List Nat) (P : Nat → Bool) : Nat → Sk
  | 0 => k
  | j + 1 => if P j then pst (pstN k f tk m P j) (f, j, tk, m) else pstN k f tk m P j
theorem pst_len {k : Sk} (h : k.1.length ≤ 1000) (x : Fl) : (pst k x).1.length ≤ 1000 := by
  unfold pst
  by_cases c : k.1.length < 1000
  · rw [if_pos c]; simp; omega
  · rw [if_neg c]; exact h
/-- what is to be a flight -/
def flOK (x : Fl) : Prop := x.1 < 13 ∧ x.2.1 < 13 ∧ x.2.2.1 < 1000000 ∧ 1 ≤ x.2.2.2.length ∧ x.2.2.2.length ≤ 1000 ∧ isB x.2.2.2
def flR (S : rS) (s : Nat) (x : Fl) : Prop := S.2.1 27 s = nI x.1 ∧ S.2.1 28 s = nI x.2.1 ∧ S.2.1 29 s = nI x.2.2.2.length ∧ S.2.1 30 s = nI x.2.2.1 ∧ (∀ i, i < x.2.2.2.length → lby (S.2.2 31) (1000 * s + i) = nI (bg x.2.2.2 i)) ∧ flOK x
def rSkT (S : rS) (fl : List Fl) (t : Nat → Nat) : Prop := S.1 23 = nI fl.length ∧ fl.length ≤ 1000 ∧ S.1 25 = nI (1000 - fl.length) ∧ (∀ k, k < fl.length → S.2.1 24 k = nI (t k)) ∧ (∀ j, fl.length ≤ j → j < 1000 → S.2.1 26 (999 - j) = nI (t j)) ∧ (∀ j, j < 1000 → t j < 1000) ∧ (∀ i j, i < 1000 → j < 1000 → t i = t j → i = j) ∧ ∀ k, k < fl.length → flR S (t k) (fg fl k)
def rSk (S : rS) (k : Sk) : Prop := (∃ t, rSkT S k.1 t) ∧ S.1 4 = iI k.2.1 ∧ S.1 5 = iI k.2.2
def skL : List Nat := [4, 5, 23, 24, 25, 26, 27, 28, 29, 30, 31]
theorem rSk.fr {L : List Nat} {S S1 : rS} {k : Sk} (h : rSk S k) (hf : rfr L S S1) (hl : ∀ x ∈ skL, x ∉ L) : rSk S1 k := by
  unfold rSk rSkT flR
  rw [hf.i 4 (hl 4 (by decide)), hf.i 5 (hl 5 (by decide)), hf.i 23 (hl 23 (by decide)), hf.i 25 (hl 25 (by decide)), hf.a 24 (hl 24 (by decide)), hf.a 26 (hl 26 (by decide)), hf.a 27 (hl 27 (by decide)), hf.a 28 (hl 28 (by decide)), hf.a 29 (hl 29 (by decide)), hf.a 30 (hl 30 (by decide)), hf.l 31 (hl 31 (by decide))]
  exact h
section
variable {N f t tk T : Nat} {S : rS} {k : Sk} {fl : List Fl} {m : List Nat} {ta : Nat → Nat}
theorem takeSlot_ok (h : rSkT S fl ta) (hl : fl.length < 1000) : wp (o_takeSlot N S) (f_takeSlot N S) (fun z => z.1 = nI (ta fl.length) ∧ rfr [23, 24, 25, 30] S z.2 ∧ z.2.1 23 = nI (fl.length + 1) ∧ z.2.1 25 = nI (1000 - (fl.length + 1)) ∧ z.2.2.1 24 = upd (S.2.1 24) fl.length (nI (ta fl.length)) ∧ z.2.2.1 30 = upd (S.2.1 30) (ta fl.length) (S.1 3)) := by
  obtain ⟨h1, h2, h3, h4, h5, h6, h7, h8⟩ := h
  have q := h6 fl.length hl
  have e5 := h5 fl.length (Nat.le_refl _) hl
  show wp (O_takeSlot_0 N S) (F_takeSlot_0 N S) _
  unfold O_takeSlot_0 F_takeSlot_0
  rw [h3, n_sub (by omega), I_same, I_other _ _ (by decide), I_A, h1, n_clamp (by omega), n_clamp (by omega), show 1000 - fl.length - 1 = 999 - fl.length by omega, e5]
  refine wp_and ((n_in (by omega)).2 (by omega)) (wp_and ((n_in (by omega)).2 (by omega)) ?_)
  unfold O_takeSlot_30 F_takeSlot_30
  have e23 : (rsA (rsI S 25 (nI (999 - fl.length))) 24 fl.length (nI (ta fl.length))).1 23 = nI fl.length := by rw [A_I, I_other _ _ (by decide)]; exact h1
  have e3 : (rsI (rsA (rsI S 25 (nI (999 - fl.length))) 24 fl.length (nI (ta fl.length))) 23 (nI (fl.length + 1))).1 3 = S.1 3 := by rw [I_other _ _ (by decide), A_I, I_other _ _ (by decide)]
  rw [e23, n_add, e3, n_clamp (by omega)]
  refine wp_and ((n_in (by omega)).2 (by omega)) (wp_fin trivial ⟨rfl, ?_, ?_, ?_, ?_, ?_⟩)
  · exact (((rfr.oneI (by decide)).trans (rfr.one (by decide))).trans (rfr.oneI (by decide))).trans (rfr.one (by decide))
  · show (rsA _ 30 _ _).1 23 = _
    rw [A_I, I_same]
  · show (rsA _ 30 _ _).1 25 = _
    rw [A_I, I_other _ _ (by decide), A_I, I_same]
    congr 1
    omega
  · show (rsA _ 30 _ _).2.1 24 = _
    rw [A_other _ _ _ (by decide), I_A, A_same, I_A]
  · show (rsA _ 30 _ _).2.1 30 = _
    rw [A_same, I_A, A_other _ _ _ (by decide), I_A]
theorem fly_words {s : Nat} (hm : mB S m) (hs : s < 1000) (hN : 1000 ≤ N) : wp (OL_fly_64 N N (nI s) (nI 0) S) (L_fly_64 N N (nI s) (nI 0) S) (fun z => rfr [31] S z.2 ∧ ∀ q, lby (z.2.2.2 31) q = if 1000 * s ≤ q ∧ q < 1000 * s + 8 * ((m.length + 7) / 8) then nI (bg m (q - 1000 * s)) else lby (S.2.2 31) q) := by
  have h2 := hm.2.1
  have h4 := hm.2.2.2
  refine wp_loop (K := (m.length + 7) / 8) (fun j x => rfr [31] S x ∧ ∀ q, lby (x.2.2 31) q = if 1000 * s ≤ q ∧ q < 1000 * s + 8 * j then nI (bg m (q - 1000 * s)) else lby (S.2.2 31) q) (fun n j x => OL_fly_64 N n (nI s) (nI j) x) (fun n j x => L_fly_64 N n (nI s) (nI j) x) (fun n j x hj hI ih => ?_) 0 N S (by omega) (by omega) ⟨rfr.refl, fun q => by rw [if_neg (by omega)]⟩
  have hmx := hm.fr hI.1 (by decide) (by decide)
  unfold OL_fly_64 L_fly_64 OB_fly_64 B_fly_64
  rw [hmx.1, n_mul]
  by_cases e : j = (m.length + 7) / 8
  · refine wp_pos (by rw [n_le' (by omega) (by omega)]; omega) (wp_fin trivial ?_)
    rw [← e]
    exact hI
  · refine wp_neg (by rw [n_le' (by omega) (by omega)]; omega) ?_
    refine wp_seq (Q := fun z : Nat × Int32 × Int32 × Int64 × rS => z = (0, nI s, nI j, l8 (fun i => nI (bg m (8 * j + i))) 8, x)) ?_ ?_
    · refine wp_loop (K := 8) (fun i (y : Int64) => y = l8 (fun i => nI (bg m (8 * j + i))) i) (fun n i y => OL_fly_82 N n (nI s) (nI j) y (nI i) x) (fun n i y => L_fly_82 N n (nI s) (nI j) y (nI i) x) (fun n i y hi hJ ih2 => ?_) 0 N (0 : Int64) (by omega) (by omega) rfl
      unfold OL_fly_82 L_fly_82 OB_fly_82 B_fly_82
      by_cases e8 : i = 8
      · refine wp_pos (by rw [n_le' (by omega) (by omega)]; omega) ?_
        subst e8
        refine wp_fin trivial ?_
        rw [hJ]
      · have go : ∀ v, v = nI (bg m (8 * j + i)) → wp (O_fly_126 N (OL_fly_82 N n) (nI s) (nI j) (nI i) (y <<< (Int32.toInt64 (nI 8) &&& 63)) v x) (F_fly_126 N (L_fly_82 N n) (nI s) (nI j) (nI i) (y <<< (Int32.toInt64 (nI 8) &&& 63)) v x) (fun z : Nat × Int32 × Int32 × Int64 × rS => z = (0, nI s, nI j, l8 (fun i => nI (bg m (8 * j + i))) 8, x)) := by
          rintro v rfl
          unfold O_fly_126 F_fly_126
          rw [n_add]
          refine ih2 _ ?_ (by omega)
          rw [hJ]
          rfl
        rw [hmx.1]
        simp only [n_mul, n_add]
        refine wp_neg (by rw [n_le' (by omega) (by omega)]; omega) (wp_ite (fun c => ?_) (fun c => ?_)) <;> rw [n_le' (by omega) (by omega)] at c
        · exact go _ (by rw [bg_out (by omega)])
        · rw [hmx.at_ (i := 8 * j + i) (by omega)]
          exact wp_and ((n_in (by omega)).2 (by omega)) (go _ rfl)
    · rintro z rfl
      show wp (O_fly_136 N (OL_fly_64 N n) (nI s) (nI j) (l8 (fun i => nI (bg m (8 * j + i))) 8) x) (F_fly_136 N (L_fly_64 N n) (nI s) (nI j) (l8 (fun i => nI (bg m (8 * j + i))) 8) x) _
      unfold O_fly_136 F_fly_136
      rw [n_mul, n_add, n_clamp (by omega), n_add]
      refine wp_and ((n_in (by omega)).2 (by omega)) (ih _ ⟨hI.1.trans (rfr.oneL (by decide)), fun q => ?_⟩ (by omega))
      rw [L_same]
      by_cases c : 1000 * s + 8 * j ≤ q ∧ q < 1000 * s + 8 * j + 8
      · rw [if_pos (by omega), lby_eq (a := 125 * s + j) (b := q % 8) (by omega) rfl, updL_same, byt_l8 (fun i => n_255 (h4 _)) (by omega)]
        congr 2
        omega
      · have e2 : lby (vp_updL (x.2.2 31) (125 * s + j) (l8 (fun i => nI (bg m (8 * j + i))) 8)) q = lby (x.2.2 31) q := by
          unfold lby
          rw [updL_other _ _ (by omega)]
        rw [e2, hI.2 q]
        by_cases c2 : 1000 * s ≤ q ∧ q < 1000 * s + 8 * j
        · rw [if_pos c2, if_pos (by omega)]
        · rw [if_neg c2, if_neg (by omega)]
theorem fly_ok (hN : 1000 ≤ N) (hm : mB S m) (h1 : 1 ≤ m.length) (h : rSk S k) (htk : S.1 3 = nI tk) (hf : f < 13) (ht : t < 13) (ht2 : tk < 1000000) : wp (o_fly N S (nI f) (nI t)) (f_fly N S (nI f) (nI t)) (fun z => rfr skL S z.2 ∧ rSk z.2 (pst k (f, t, tk, m)) ∧ z.1 = nI (if k.1.length < 1000 then 1 else 0)) := by
  obtain ⟨⟨ta, hT⟩, h4, h5⟩ := h
  have hT0 := hT
  obtain ⟨t1, t2, t3, t4, t5, t6, t7, t8⟩ := hT
  show wp (O_fly_0 N (nI f) (nI t) S) (F_fly_0 N (nI f) (nI t) S) _
  unfold O_fly_0 F_fly_0
  have f0 : rfr [4] S (rsI S 4 (S.1 4 + nI 1)) := rfr.oneI (by decide)
  have g4 : (rsI S 4 (S.1 4 + nI 1)).1 4 = iI (k.2.1 + 1) := by
    rw [I_same, h4, ← iI_n 1, iI_add]
    rfl
  generalize rsI S 4 (S.1 4 + nI 1) = S0 at f0 g4 ⊢
  have hT0' : rSkT S0 k.1 ta := by
    unfold rSkT flR
    rw [f0.i 23 (by decide), f0.i 25 (by decide), f0.a 24 (by decide), f0.a 26 (by decide), f0.a 27 (by decide), f0.a 28 (by decide), f0.a 29 (by decide), f0.a 30 (by decide), f0.l 31 (by decide)]
    exact hT0
  rw [hT0'.1]
  refine wp_ite (fun c => ?_) (fun c => ?_) <;> rw [n_eq' (by omega) (by omega)] at c
  · refine wp_fin trivial ⟨(f0.mono (by decide)).trans (rfr.oneI (by decide)), ?_, by rw [if_neg (by omega)]; rfl⟩
    unfold pst
    rw [if_neg (by omega)]
    refine ⟨⟨ta, ?_⟩, ?_, ?_⟩
    · have f1 : rfr [5] S0 (rsI S0 5 (S0.1 5 + nI 1)) := rfr.oneI (by decide)
      show rSkT (rsI S0 5 (S0.1 5 + nI 1)) k.1 ta
      unfold rSkT flR
      rw [f1.i 23 (by decide), f1.i 25 (by decide), f1.a 24 (by decide), f1.a 26 (by decide), f1.a 27 (by decide), f1.a 28 (by decide), f1.a 29 (by decide), f1.a 30 (by decide), f1.l 31 (by decide)]
      exact hT0'
    · show (rsI S0 5 (S0.1 5 + nI 1)).1 4 = _
      rw [I_other _ _ (by decide)]; exact g4
    · show (rsI S0 5 (S0.1 5 + nI 1)).1 5 = _
      rw [I_same, f0.i 5 (by decide), h5, ← iI_n 1, iI_add]
      rfl
  have hlt : k.1.length < 1000 := by omega
  refine wp_call (takeSlot_ok hT0' hlt) (fun q => ?_)
  obtain ⟨q0, q1, q2, q3, q4, q5⟩ := q
  generalize f_takeSlot N S0 = y at q0 q1 q2 q3 q4 q5 ⊢
  have sl := t6 _ hlt
  unfold O_fly_36 F_fly_36
  rw [q0, n_clamp (by omega)]
  refine wp_and ((n_in (by omega)).2 (by omega)) (wp_and ((n_in (by omega)).2 (by omega)) ?_)
  have f2 : rfr skL S (rsA (rsA y.2 27 (ta k.1.length) (nI f)) 28 (ta k.1.length) (nI t)) := (((f0.mono (by decide)).trans (q1.mono (by decide))).trans (rfr.one (by decide))).trans (rfr.one (by decide))
  have w27 : (rsA (rsA y.2 27 (ta k.1.length) (nI f)) 28 (ta k.1.length) (nI t)).2.1 27 = upd (S.2.1 27) (ta k.1.length) (nI f) := by rw [A_other _ _ _ (by decide), A_same, q1.a 27 (by decide), f0.a 27 (by decide)]
  have w28 : (rsA (rsA y.2 27 (ta k.1.length) (nI f)) 28 (ta k.1.length) (nI t)).2.1 28 = upd (S.2.1 28) (ta k.1.length) (nI t) := by rw [A_same, A_other _ _ _ (by decide), q1.a 28 (by decide), f0.a 28 (by decide)]
  have w29 : (rsA (rsA y.2 27 (ta k.1.length) (nI f)) 28 (ta k.1.length) (nI t)).2.1 29 = S.2.1 29 := by rw [A_other _ _ _ (by decide), A_other _ _ _ (by decide), q1.a 29 (by decide), f0.a 29 (by decide)]
  have w30 : (rsA (rsA y.2 27 (ta k.1.length) (nI f)) 28 (ta k.1.length) (nI t)).2.1 30 = upd (S.2.1 30) (ta k.1.length) (nI tk) := by rw [A_other _ _ _ (by decide), A_other _ _ _ (by decide), q5, f0.i 3 (by decide), f0.a 30 (by decide), htk]
  have w24 : (rsA (rsA y.2 27 (ta k.1.length) (nI f)) 28 (ta k.1.length) (nI t)).2.1 24 = upd (S.2.1 24) k.1.length (nI (ta k.1.length)) := by rw [A_other _ _ _ (by decide), A_other _ _ _ (by decide), q4, f0.a 24 (by decide)]
  have w26 : (rsA (rsA y.2 27 (ta k.1.length) (nI f)) 28 (ta k.1.length) (nI t)).2.1 26 = S.2.1 26 := by rw [A_other _ _ _ (by decide), A_other _ _ _ (by decide), q1.a 26 (by decide), f0.a 26 (by decide)]
  have w23 : (rsA (rsA y.2 27 (ta k.1.length) (nI f)) 28 (ta k.1.length) (nI t)).1 23 = nI (k.1.length + 1) := by rw [A_I, A_I]; exact q2
  have w25 : (rsA (rsA y.2 27 (ta k.1.length) (nI f)) 28 (ta k.1.length) (nI t)).1 25 = nI (1000 - (k.1.length + 1)) := by rw [A_I, A_I]; exact q3
  have w4 : (rsA (rsA y.2 27 (ta k.1.length) (nI f)) 28 (ta k.1.length) (nI t)).1 4 = iI (k.2.1 + 1) := by rw [A_I, A_I, q1.i 4 (by decide)]; exact g4
  have w5 : (rsA (rsA y.2 27 (ta k.1.length) (nI f)) 28 (ta k.1.length) (nI t)).1 5 = iI k.2.2 := by rw [A_I, A_I, q1.i 5 (by decide), f0.i 5 (by decide)]; exact h5
  have w31 : (rsA (rsA y.2 27 (ta k.1.length) (nI f)) 28 (ta k.1.length) (nI t)).2.2 31 = S.2.2 31 := by rw [A_L, A_L, q1.l 31 (by decide), f0.l 31 (by decide)]
  generalize rsA (rsA y.2 27 (ta k.1.length) (nI f)) 28 (ta k.1.length) (nI t) = S2 at f2 w27 w28 w29 w30 w24 w26 w23 w25 w4 w5 w31 ⊢
  have hm2 := hm.fr f2 (by decide) (by decide)
  unfold O_fly_51 F_fly_51
  rw [hm2.1, n_clamp (by omega)]
  refine wp_and ((n_in (by omega)).2 (by omega)) ?_
  have f3 : rfr [29] S2 (rsA S2 29 (ta k.1.length) (nI m.length)) := rfr.one (by decide)
  have x29 : (rsA S2 29 (ta k.1.length) (nI m.length)).2.1 29 = upd (S.2.1 29) (ta k.1.length) (nI m.length) := by rw [A_same, w29]
  generalize rsA S2 29 (ta k.1.length) (nI m.length) = S3 at f3 x29 ⊢
  have hm3 := hm2.fr f3 (by decide) (by decide)
  refine wp_seq (fly_words hm3 sl hN) (fun z hz => ?_)
  obtain ⟨z1, z2⟩ := hz
  refine wp_fin trivial ⟨(f2.trans (f3.mono (by decide))).trans (z1.mono (by decide)), ?_, by rw [if_pos hlt]; rfl⟩
  show rSk z.2 (pst k (f, t, tk, m))
  unfold pst
  rw [if_pos hlt]
  have fz : rfr [29, 31] S2 z.2 := (f3.mono (by decide)).trans (z1.mono (by decide))
  refine ⟨⟨ta, ?_, ?_, ?_, fun i hi => ?_, fun i hi hi2 => ?_, t6, t7, fun i hi => ?_⟩, ?_, ?_⟩
  · rw [fz.i 23 (by decide), w23]; simp
  · simp; omega
  · rw [fz.i 25 (by decide), w25]; simp
  · simp only [List.length_append, List.length_cons, List.length_nil, Nat.zero_add] at hi
    rw [fz.a 24 (by decide), w24]
    by_cases e : i = k.1.length
    · rw [e, upd_same]
    · rw [upd_other _ _ e]; exact t4 i (by omega)
  · simp only [List.length_append, List.length_cons, List.length_nil, Nat.zero_add] at hi
    rw [fz.a 26 (by decide), w26]
    exact t5 i (by omega) hi2
  · simp only [List.length_append, List.length_cons, List.length_nil, Nat.zero_add] at hi
    unfold flR
    rw [fz.a 27 (by decide), fz.a 28 (by decide), fz.a 30 (by decide), z1.a 29 (by decide), w27, w28, w30, x29, fg_snoc]
    by_cases e : i = k.1.length
    · rw [if_neg (by omega), if_pos e, e, upd_same, upd_same, upd_same, upd_same]
      refine ⟨rfl, rfl, rfl, rfl, fun j hj => ?_, hf, ht, ht2, h1, hm.2.1, hm.2.2.2⟩
      have hj2 : j < m.length := hj
      have := hm.2.1
      rw [z2, if_pos (by omega)]
      congr 2
      omega
    · have hi2 : i < k.1.length := by omega
      have ne : ta i ≠ ta k.1.length := fun z => e (t7 _ _ (by omega) (by omega) z)
      obtain ⟨y1, y2, y3, y4, y5, y6⟩ := t8 i hi2
      rw [if_pos hi2, upd_other _ _ ne, upd_other _ _ ne, upd_other _ _ ne, upd_other _ _ ne]
      refine ⟨y1, y2, y3, y4, fun j hj => ?_, y6⟩
      have l1 := y6.2.2.2.2.1
      have l2 := t6 i (by omega)
      have l3 := hm.2.1
      have nn : ¬ (1000 * ta k.1.length ≤ 1000 * ta i + j ∧ 1000 * ta i + j < 1000 * ta k.1.length + 8 * ((m.length + 7) / 8)) := by omega
      rw [z2, if_neg nn, f3.l 31 (by decide), w31]
      exact y5 j hj
  · show z.2.1 4 = _
    rw [fz.i 4 (by decide)]; exact w4
  · show z.2.1 5 = _
    rw [fz.i 5 (by decide)]; exact w5
theorem flyAll_ok (hN : 1000 ≤ N) (hT : S.1 0 = nI T) (hT2 : T ≤ 13) (hm : mB S m) (h1 : 1 ≤ m.length) (h : rSk S k) (htk : S.1 3 = nI tk) (hf : f < 13) (ht2 : tk < 1000000) : wp (o_flyAll N S (nI f)) (f_flyAll N S (nI f)) (fun S' => rfr skL S S' ∧ rSk S' (pstN k f tk m (fun j => decide (j ≠ f)) T)) := by
  refine wp_seq (Q := fun z : Nat × rS => rfr skL S z.2 ∧ rSk z.2 (pstN k f tk m (fun j => decide (j ≠ f)) T)) ?_ (fun z hz => wp_fin trivial hz)
  refine wp_loop (K := T) (fun j x => rfr skL S x ∧ rSk x (pstN k f tk m (fun j => decide (j ≠ f)) j)) (fun n j x => OL_flyAll_2 N n (nI f) (nI j) x) (fun n j x => L_flyAll_2 N n (nI f) (nI j) x) (fun n j x hj hI ih => ?_) 0 N S (by omega) (by omega) ⟨rfr.refl, h⟩
  unfold OL_flyAll_2 L_flyAll_2 OB_flyAll_2 B_flyAll_2
  rw [hI.1.i 0 (by decide), hT]
  by_cases e : j = T
  · refine wp_pos (by rw [n_le' (by omega) (by omega)]; omega) ?_
    subst e
    exact wp_fin trivial hI
  refine wp_neg (by rw [n_le' (by omega) (by omega)]; omega) (wp_ite (fun c => ?_) (fun c => ?_)) <;> rw [n_eq' (by omega) (by omega)] at c
  · unfold O_flyAll_22 F_flyAll_22
    rw [n_add]
    refine ih _ ⟨hI.1, ?_⟩ (by omega)
    unfold pstN
    rw [if_neg (by simp [c])]
    exact hI.2
  · refine wp_call (fly_ok hN (hm.fr hI.1 (by decide) (by decide)) h1 hI.2 (by rw [hI.1.i 3 (by decide)]; exact htk) hf (by omega) ht2) (fun q => ?_)
    unfold O_flyAll_21 F_flyAll_21 O_flyAll_22 F_flyAll_22
    rw [n_add]
    refine ih _ ⟨hI.1.trans q.1, ?_⟩ (by omega)
    unfold pstN
    rw [if_pos (by simp [c])]
    exact q.2.1
theorem sendOn_ok {b c : Nat} {x3 : Int32} (hN : 1000 ≤ N) (hT : S.1 0 = nI T) (hT2 : T ≤ 13) (hm : mB S m) (h1 : 1 ≤ m.length) (h : rSk S k) (htk : S.1 3 = nI tk) (hf : f < 13) (hb : b < 13) (hc : x3 = nI c ∧ c < 13 ∨ x3 = -1 ∧ c = b) (ht2 : tk < 1000000) : wp (o_sendOn N S (nI f) (nI b) x3) (f_sendOn N S (nI f) (nI b) x3) (fun S' => rfr skL S S' ∧ rSk S' (pstN k f tk m (fun j => decide (j ≠ f ∧ j ≠ b ∧ j ≠ c)) T)) := by
  refine wp_seq (Q := fun z : Nat × rS => rfr skL S z.2 ∧ rSk z.2 (pstN k f tk m (fun j => decide (j ≠ f ∧ j ≠ b ∧ j ≠ c)) T)) ?_ (fun z hz => wp_fin trivial hz)
  refine wp_loop (K := T) (fun j x => rfr skL S x ∧ rSk x (pstN k f tk m (fun j => decide (j ≠ f ∧ j ≠ b ∧ j ≠ c)) j)) (fun n j x => OL_sendOn_3 N n (nI f) (nI b) x3 (nI j) x) (fun n j x => L_sendOn_3 N n (nI f) (nI b) x3 (nI j) x) (fun n j x hj hI ih => ?_) 0 N S (by omega) (by omega) ⟨rfr.refl, h⟩
  unfold OL_sendOn_3 L_sendOn_3 OB_sendOn_3 B_sendOn_3
  rw [hI.1.i 0 (by decide), hT]
  by_cases e : j = T
  · refine wp_pos (by rw [n_le' (by omega) (by omega)]; omega) ?_
    subst e
    exact wp_fin trivial hI
  have skip : ¬ (j ≠ f ∧ j ≠ b ∧ j ≠ c) → wp (O_sendOn_38 N (OL_sendOn_3 N n) (nI f) (nI b) x3 (nI j) x) (F_sendOn_38 N (L_sendOn_3 N n) (nI f) (nI b) x3 (nI j) x) (fun z : Nat × rS => rfr skL S z.2 ∧ rSk z.2 (pstN k f tk m (fun j => decide (j ≠ f ∧ j ≠ b ∧ j ≠ c)) T)) := by
    intro q
    unfold O_sendOn_38 F_sendOn_38
    rw [n_add]
    refine ih _ ⟨hI.1, ?_⟩ (by omega)
    unfold pstN
    rw [if_neg (by simpa using q)]
    exact hI.2
  refine wp_neg (by rw [n_le' (by omega) (by omega)]; omega) (wp_ite (fun c1 => ?_) (fun c1 => ?_)) <;> rw [n_eq' (by omega) (by omega)] at c1
  · exact skip (by omega)
  refine wp_ite (fun c2 => ?_) (fun c2 => ?_) <;> rw [n_eq' (by omega) (by omega)] at c2
  · exact skip (by omega)
  have hx : nI j = x3 ↔ (x3 = nI c ∧ j = c) := by
    rcases hc with ⟨hc, hc2⟩ | ⟨hc, hc2⟩
    · rw [hc, n_eq' (by omega) (by omega)]; simp
    · rw [hc]
      constructor
      · intro z
        rw [← iI_m1, ← iI_n, iI_eq (by omega) (by omega) (by omega) (by omega)] at z
        omega
      · rintro ⟨z, -⟩
        rw [← iI_m1, ← iI_n, iI_eq (by omega) (by omega) (by omega) (by omega)] at z
        omega
  refine wp_ite (fun c3 => ?_) (fun c3 => ?_) <;> rw [hx] at c3
  · exact skip (by omega)
  · have nc : j ≠ c := by
      rcases hc with ⟨hc, hc2⟩ | ⟨hc, hc2⟩
      · exact fun z => c3 ⟨hc, z⟩
      · omega
    refine wp_call (fly_ok hN (hm.fr hI.1 (by decide) (by decide)) h1 hI.2 (by rw [hI.1.i 3 (by decide)]; exact htk) hf (by omega) ht2) (fun q => ?_)
    unfold O_sendOn_37 F_sendOn_37 O_sendOn_38 F_sendOn_38
    rw [n_add]
    refine ih _ ⟨hI.1.trans q.1, ?_⟩ (by omega)
    unfold pstN
    rw [if_pos (by simp; omega)]
    exact q.2.1
end
end
