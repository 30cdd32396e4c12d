section
/-! THE REFERENCE'S NOTES: the note that is open (row 71, number 72), and how it is written to sectors -/
def tB (S : rS) (t : List Nat) : Prop := S.1 72 = nI t.length ∧ t.length ≤ 1000 ∧ (∀ i, i < t.length → S.2.1 71 i = nI (bg t i)) ∧ isB t
theorem tB.fr {L : List Nat} {S S1 : rS} {t : List Nat} (h : tB S t) (hf : rfr L S S1) (h1 : 71 ∉ L) (h2 : 72 ∉ L) : tB S1 t := ⟨by rw [hf.i 72 h2]; exact h.1, h.2.1, fun i hi => by rw [hf.a 71 h1]; exact h.2.2.1 i hi, h.2.2.2⟩
/-- the head of a note -/
def ntH (k h n : Nat) : List Nat := [k, h / 256, h % 256, n, 0, 0, 0, 0]
/-- a note with its length -/
def ntL (t : List Nat) : List Nat := mkB t.length (fun i => if i = 4 then t.length / 256 else if i = 5 then t.length % 256 else bg t i)
/-- how many bytes of sector s of a note are written -/
def noS (len : Nat) (torn : Bool) (s : Nat) : Nat := if torn = true ∧ s + 1 = (len + 511) / 512 then (if 512 ≤ len - 512 * s then 512 else len - 512 * s) / 2 else (if 512 ≤ len - 512 * s then 512 else len - 512 * s)
theorem noS_le (len : Nat) (torn : Bool) (s : Nat) : noS len torn s ≤ 512 ∧ noS len torn s ≤ len - 512 * s := by
  unfold noS
  split <;> split <;> omega
section
variable {N n : Nat} {S : rS} {t m : List Nat}
theorem tB0 : tB (rsI S 72 (nI 0)) [] := ⟨I_same _ _ _, by simp, fun i hi => absurd hi (by simp), isB_nil⟩
theorem noteByte_ok {x : Int32} (h : tB S t) (hl : t.length < 1000) : wp (o_noteByte N S x) (f_noteByte N S x) (fun S' => rfr [71, 72] S S' ∧ tB S' (t ++ [nb x])) := by
  obtain ⟨h1, h2, h3, h4⟩ := h
  refine wp_fin ?_ ?_
  · show O_noteByte_0 N x S
    unfold O_noteByte_0
    rw [h1]
    exact ⟨((n_in (by omega)).2 (by omega)), trivial⟩
  · show rfr [71, 72] S (F_noteByte_0 N x S) ∧ tB (F_noteByte_0 N x S) _
    unfold F_noteByte_0
    rw [A_I, h1, n_clamp (by omega), n_add, (nb_spec x).2]
    refine ⟨(rfr.one (by decide)).trans (rfr.oneI (by decide)), ?_, by simp; omega, fun i hi => ?_, isB_app h4 (isB_one (nb_spec x).1)⟩
    · rw [I_same]; simp
    · simp only [List.length_append, List.length_cons, List.length_nil, Nat.zero_add] at hi
      rw [I_A, A_same, bg_snoc]
      by_cases e : i = t.length
      · rw [e, upd_same, if_neg (by omega), if_pos rfl]
      · rw [upd_other _ _ e, if_pos (by omega)]; exact h3 i (by omega)
theorem noteN_ok {x : Nat} (hx : x < 256) (h : tB S t) (hl : t.length < 1000) : wp (o_noteByte N S (nI x)) (f_noteByte N S (nI x)) (fun S' => rfr [71, 72] S S' ∧ tB S' (t ++ [x])) := by
  have := noteByte_ok (N := N) (x := nI x) h hl
  rw [nb_n, Nat.mod_eq_of_lt hx] at this
  exact this
theorem openNote_ok {k h q : Nat} (hk : k < 256) (hh : h < 65536) (hq : q < 256) (hN : 100 ≤ N) : wp (o_openNote N S (nI k) (nI h) (nI q)) (f_openNote N S (nI k) (nI h) (nI q)) (fun S' => rfr [71, 72] S S' ∧ tB S' (ntH k h q)) := by
  show wp (O_openNote_0 N (nI k) (nI h) (nI q) S) (F_openNote_0 N (nI k) (nI h) (nI q) S) _
  unfold O_openNote_0 F_openNote_0
  have f0 : rfr [71, 72] S (rsI S 72 (nI 0)) := rfr.oneI (by decide)
  refine wp_call (noteN_ok hk tB0 (by simp)) (fun q1 => ?_)
  generalize f_noteByte N (rsI S 72 (nI 0)) (nI k) = S1 at q1 ⊢
  unfold O_openNote_10 F_openNote_10
  rw [n_sshr (by omega) (by decide), show h / 2 ^ 8 = h / 256 from rfl]
  refine wp_call (noteN_ok (by omega) q1.2 (by simp)) (fun q2 => ?_)
  generalize f_noteByte N S1 (nI (h / 256)) = S2 at q2 ⊢
  unfold O_openNote_18 F_openNote_18
  refine wp_call (noteByte_ok (x := nI h) q2.2 (by simp)) (fun q3 => ?_)
  rw [nb_n] at q3
  generalize f_noteByte N S2 (nI h) = S3 at q3 ⊢
  unfold O_openNote_23 F_openNote_23
  refine wp_call (noteN_ok hq q3.2 (by simp)) (fun q4 => ?_)
  generalize f_noteByte N S3 (nI q) = S4 at q4 ⊢
  have f4 : rfr [71, 72] S S4 := (((f0.trans q1.1).trans q2.1).trans q3.1).trans q4.1
  have t4 : tB S4 [k, h / 256, h % 256, q] := q4.2
  unfold O_openNote_28 F_openNote_28
  refine wp_seq (Q := fun z : Nat × rS => rfr [71, 72] S z.2 ∧ tB z.2 (ntH k h q)) ?_ (fun z hz => wp_fin trivial hz)
  refine wp_loop (K := 4) (fun j x => rfr [71, 72] S x ∧ tB x ([k, h / 256, h % 256, q] ++ List.replicate j 0)) (fun n j x => OL_openNote_31 N n (nI j) x) (fun n j x => L_openNote_31 N n (nI j) x) (fun n j x hj hI ih => ?_) 0 N S4 (by omega) (by omega) ⟨f4, t4⟩
  unfold OL_openNote_31 L_openNote_31 OB_openNote_31 B_openNote_31
  by_cases e : j = 4
  · refine wp_pos (by rw [n_le' (by omega) (by omega)]; omega) ?_
    subst e
    exact wp_fin trivial hI
  · refine wp_neg (by rw [n_le' (by omega) (by omega)]; omega) (wp_call (noteN_ok (x := 0) (by omega) hI.2 (by simp; omega)) (fun q5 => ?_))
    unfold O_openNote_42 F_openNote_42
    rw [n_add]
    refine ih _ ⟨hI.1.trans q5.1, ?_⟩ (by omega)
    rw [List.replicate_succ', ← List.append_assoc]
    exact q5.2
theorem noteBlock_ok {p : Nat} {b : List Nat} (hp : p < 1354) (h : tB S t) (hb : S.2.1 14 p = nI b.length) (hw : wB S p b) (hB : isB b) (hl : b.length ≤ 691) (hm : t.length + b.length ≤ 1000) (hN : 1000 ≤ N) : wp (o_noteBlock N S (nI p)) (f_noteBlock N S (nI p)) (fun S' => rfr [71, 72] S S' ∧ tB S' (t ++ b)) := by
  refine wp_seq (Q := fun z : Nat × rS => rfr [71, 72] S z.2 ∧ tB z.2 (t ++ b)) ?_ (fun z hz => wp_fin trivial hz)
  refine wp_loop (K := b.length) (fun j x => rfr [71, 72] S x ∧ tB x (t ++ sl b 0 j)) (fun n j x => OL_noteBlock_2 N n (nI p) (nI j) x) (fun n j x => L_noteBlock_2 N n (nI p) (nI j) x) (fun n j x hj hI ih => ?_) 0 N S (by omega) (by omega) ⟨rfr.refl, by rw [show sl b 0 0 = [] from rfl, List.append_nil]; exact h⟩
  unfold OL_noteBlock_2 L_noteBlock_2 OB_noteBlock_2 B_noteBlock_2
  rw [n_clamp (by omega), hI.1.a 14 (by decide), hb]
  refine wp_and ((n_in (by omega)).2 (by omega)) ?_
  by_cases e : j = b.length
  · refine wp_pos (by rw [n_le' (by omega) (by omega)]; omega) (wp_fin trivial ?_)
    have es : sl b 0 j = b := by
      rw [e]
      unfold sl
      rw [show (fun k => bg b (0 + k)) = bg b by funext k; rw [Nat.zero_add]]
      exact mkB_self b
    rw [es] at hI
    exact hI
  · obtain ⟨a1, a2⟩ := blockByte_ok (N := N) (S := x) (p := p) (i := j) hp (by omega)
    rw [hI.1.l 12 (by decide), hw j (by omega)] at a2
    rw [a2]
    refine wp_neg (by rw [n_le' (by omega) (by omega)]; omega) (wp_and a1 (wp_call (noteN_ok (hB j) hI.2 (by rw [List.length_append, sl_len]; omega)) (fun q => ?_)))
    unfold O_noteBlock_22 F_noteBlock_22
    rw [n_add]
    refine ih _ ⟨hI.1.trans q.1, ?_⟩ (by omega)
    have q2 := q.2
    rw [List.append_assoc] at q2
    have es : sl b 0 j ++ [bg b j] = sl b 0 (j + 1) := by
      unfold sl mkB
      rw [List.range_succ, List.map_append]
      simp
    rw [es] at q2
    exact q2
theorem setSectorByte_ok {a i x : Nat} (ha : a < 3692) (hi : i < 512) (hx : x < 256) : wp (o_setSectorByte N S (nI a) (nI i) (nI x)) (f_setSectorByte N S (nI a) (nI i) (nI x)) (fun S' => rfr [73] S S' ∧ ∀ j, lby (S'.2.2 73) j = if j = 512 * a + i then nI x else lby (S.2.2 73) j) := by
  have e1 : nI 64 * nI a + nI i / nI 8 = nI (64 * a + i / 8) := by rw [n_div' (by omega) (by omega), n_mul, n_add]
  have e2 : nI i - nI i / nI 8 * nI 8 = nI (i % 8) := n_mod' (by omega) (by omega)
  have hw : f_setSectorByte N S (nI a) (nI i) (nI x) = rsL S 73 (64 * a + i / 8) (sby (S.2.2 73 (64 * a + i / 8)) (i % 8) (nI x)) := by
    show F_setSectorByte_0 N (nI a) (nI i) (nI x) S = _
    unfold F_setSectorByte_0 F_setSectorByte_47 sby
    rw [e1, e2, n_clamp (by omega), n_255 hx]
  refine wp_fin ?_ ?_
  · show O_setSectorByte_0 N (nI a) (nI i) (nI x) S
    unfold O_setSectorByte_0 O_setSectorByte_47
    rw [e1]
    exact ⟨(n_in (by omega)).2 (by omega), (n_in (by omega)).2 (by omega), trivial⟩
  · rw [hw]
    refine ⟨rfr.oneL (by decide), fun j => ?_⟩
    rw [L_same]
    have q := lby_set (S.2.2 73) (512 * a + i) j (nI x)
    rw [show (512 * a + i) / 8 = 64 * a + i / 8 by omega, show (512 * a + i) % 8 = i % 8 by omega, n_255 hx] at q
    exact q
/-- what a note leaves in sectors, from sector A on -/
def cnX (A : Nat) (t : List Nat) (torn : Bool) (j : Nat) (S S' : rS) : Prop := (∀ q, lby (S'.2.2 73) q = if A ≤ q / 512 ∧ q / 512 < A + j ∧ q % 512 < noS t.length torn (q / 512 - A) then nI (bg t (512 * (q / 512 - A) + q % 512)) else lby (S.2.2 73) q) ∧ ∀ x, S'.2.1 74 x = if A ≤ x ∧ x < A + j then (if torn = true ∧ x + 1 = A + (t.length + 511) / 512 then nI 0 else nI 1) else S.2.1 74 x
theorem closeNote_loop {first : Nat} {torn : Bool} {x1 : Int32} (h : tB S t) (h8 : 8 ≤ t.length) (hn : n < 13) (hfi : first + 2 ≤ 284) (hN : 1000 ≤ N) {v : Int} (hv : S.2.1 77 n = iI v) : wp (OL_closeNote_87 N N (nI n) (nI first) (nI (if torn then 1 else 0)) (nI ((t.length + 511) / 512)) (nI 0) S) (L_closeNote_87 N N (nI n) (nI first) (nI (if torn then 1 else 0)) (nI ((t.length + 511) / 512)) (nI 0) S) (fun z => z = (0, nI n, nI (if torn then 1 else 0), z.2.2.2) ∧ rfr [73, 74, 77] S z.2.2.2 ∧ cnX (284 * n + first) t torn ((t.length + 511) / 512) S z.2.2.2 ∧ z.2.2.2.2.1 77 = upd (S.2.1 77) n (iI (v + ((t.length + 511) / 512 : Nat) - (if torn then 1 else 0)))) := by
  have h2 := h.2.1
  have h4 := h.2.2.2
  have hm2 : (t.length + 511) / 512 ≤ 2 := by omega
  refine wp_loop (K := (t.length + 511) / 512) (fun j x => rfr [73, 74, 77] S x ∧ cnX (284 * n + first) t torn j S x ∧ x.2.1 77 = upd (S.2.1 77) n (iI (v + (j : Nat) - (if torn = true ∧ j = (t.length + 511) / 512 then 1 else 0)))) (fun q j x => OL_closeNote_87 N q (nI n) (nI first) (nI (if torn then 1 else 0)) (nI ((t.length + 511) / 512)) (nI j) x) (fun q j x => L_closeNote_87 N q (nI n) (nI first) (nI (if torn then 1 else 0)) (nI ((t.length + 511) / 512)) (nI j) x) (fun q j x hj hI ih => ?_) 0 N S (by omega) (by omega) ⟨rfr.refl, ⟨fun q => by rw [if_neg (by omega)], fun x => by rw [if_neg (by omega)]⟩, ?_⟩
  · obtain ⟨i1, ⟨i2, i3⟩, i4⟩ := hI
    unfold OL_closeNote_87 L_closeNote_87 OB_closeNote_87 B_closeNote_87
    by_cases e : j = (t.length + 511) / 512
    · refine wp_pos (by rw [n_le' (by omega) (by omega)]; omega) (wp_fin trivial ⟨rfl, i1, ?_, ?_⟩)
      · rw [← e]; exact ⟨i2, i3⟩
      · show x.2.1 77 = _
        rw [i4, e]
        congr 2
        cases torn <;> simp
    · have ht := h.fr i1 (by decide) (by decide)
      have key : ∀ tr : Nat, tr = (if torn = true ∧ j + 1 = (t.length + 511) / 512 then 1 else 0) → wp (O_closeNote_124 N (OL_closeNote_87 N q) (nI n) (nI first) (nI (if torn then 1 else 0)) (nI ((t.length + 511) / 512)) (nI j) (nI (284 * n + first + j)) (nI tr) x) (F_closeNote_124 N (L_closeNote_87 N q) (nI n) (nI first) (nI (if torn then 1 else 0)) (nI ((t.length + 511) / 512)) (nI j) (nI (284 * n + first + j)) (nI tr) x) (fun z => z = (0, nI n, nI (if torn then 1 else 0), z.2.2.2) ∧ rfr [73, 74, 77] S z.2.2.2 ∧ cnX (284 * n + first) t torn ((t.length + 511) / 512) S z.2.2.2 ∧ z.2.2.2.2.1 77 = upd (S.2.1 77) n (iI (v + ((t.length + 511) / 512 : Nat) - (if torn then 1 else 0)))) := by
        intro tr htr
        have tr2 : tr ≤ 1 := by rw [htr]; split <;> omega
        have key2 : wp (O_closeNote_176 N (OL_closeNote_87 N q) (nI n) (nI first) (nI (if torn then 1 else 0)) (nI ((t.length + 511) / 512)) (nI j) (nI (284 * n + first + j)) (nI tr) (nI (noS t.length torn j)) x) (F_closeNote_176 N (L_closeNote_87 N q) (nI n) (nI first) (nI (if torn then 1 else 0)) (nI ((t.length + 511) / 512)) (nI j) (nI (284 * n + first + j)) (nI tr) (nI (noS t.length torn j)) x) (fun z => z = (0, nI n, nI (if torn then 1 else 0), z.2.2.2) ∧ rfr [73, 74, 77] S z.2.2.2 ∧ cnX (284 * n + first) t torn ((t.length + 511) / 512) S z.2.2.2 ∧ z.2.2.2.2.1 77 = upd (S.2.1 77) n (iI (v + ((t.length + 511) / 512 : Nat) - (if torn then 1 else 0)))) := by
          have nle := noS_le t.length torn j
          unfold O_closeNote_176 F_closeNote_176
          refine wp_seq (Q := fun z : Nat × Int32 × Int32 × Int32 × Int32 × Int32 × Int32 × Int32 × rS => z = (0, nI n, nI first, nI (if torn then 1 else 0), nI ((t.length + 511) / 512), nI j, nI (284 * n + first + j), nI tr, z.2.2.2.2.2.2.2.2) ∧ rfr [73] x z.2.2.2.2.2.2.2.2 ∧ ∀ y, lby (z.2.2.2.2.2.2.2.2.2.2 73) y = if y / 512 = 284 * n + first + j ∧ y % 512 < noS t.length torn j then nI (bg t (512 * j + y % 512)) else lby (x.2.2 73) y) ?_ ?_
          · refine wp_loop (K := noS t.length torn j) (fun i u => rfr [73] x u ∧ ∀ y, lby (u.2.2 73) y = if y / 512 = 284 * n + first + j ∧ y % 512 < i then nI (bg t (512 * j + y % 512)) else lby (x.2.2 73) y) (fun c i u => OL_closeNote_181 N c (nI n) (nI first) (nI (if torn then 1 else 0)) (nI ((t.length + 511) / 512)) (nI j) (nI (284 * n + first + j)) (nI tr) (nI (noS t.length torn j)) (nI i) u) (fun c i u => L_closeNote_181 N c (nI n) (nI first) (nI (if torn then 1 else 0)) (nI ((t.length + 511) / 512)) (nI j) (nI (284 * n + first + j)) (nI tr) (nI (noS t.length torn j)) (nI i) u) (fun c i u hi hJ ih2 => ?_) 0 N x (by omega) (by omega) ⟨rfr.refl, fun y => by rw [if_neg (by omega)]⟩
            unfold OL_closeNote_181 L_closeNote_181 OB_closeNote_181 B_closeNote_181
            by_cases ei : i = noS t.length torn j
            · refine wp_pos (by rw [n_le' (by omega) (by omega)]; omega) (wp_fin trivial ⟨rfl, hJ.1, ?_⟩)
              rw [← ei]
              exact hJ.2
            · have ht2 := ht.fr hJ.1 (by decide) (by decide)
              rw [n_mul, n_add, n_clamp (by omega), ht2.2.2.1 _ (by omega)]
              refine wp_neg (by rw [n_le' (by omega) (by omega)]; omega) (wp_and ((n_in (by omega)).2 (by omega)) (wp_call (setSectorByte_ok (a := 284 * n + first + j) (i := i) (by omega) (by omega) (h4 _)) (fun q1 => ?_)))
              unfold O_closeNote_210 F_closeNote_210
              rw [n_add]
              refine ih2 _ ⟨hJ.1.trans q1.1, fun y => ?_⟩ (by omega)
              rw [q1.2 y]
              by_cases c1 : y = 512 * (284 * n + first + j) + i
              · have c2 : y / 512 = 284 * n + first + j ∧ y % 512 < i + 1 := by omega
                have c3 : y % 512 = i := by omega
                rw [if_pos c1, if_pos c2, c3]
              · rw [if_neg c1, hJ.2 y]
                by_cases c2 : y / 512 = 284 * n + first + j ∧ y % 512 < i
                · have c3 : y / 512 = 284 * n + first + j ∧ y % 512 < i + 1 := by omega
                  rw [if_pos c2, if_pos c3]
                · have c3 : ¬ (y / 512 = 284 * n + first + j ∧ y % 512 < i + 1) := by omega
                  rw [if_neg c2, if_neg c3]
          · rintro z ⟨z0, z1, z2⟩
            rw [z0]
            generalize z.2.2.2.2.2.2.2.2 = u at z1 z2 ⊢
            show wp (O_closeNote_216 N (OL_closeNote_87 N q) (nI n) (nI first) (nI (if torn then 1 else 0)) (nI ((t.length + 511) / 512)) (nI j) (nI (284 * n + first + j)) (nI tr) u) (F_closeNote_216 N (L_closeNote_87 N q) (nI n) (nI first) (nI (if torn then 1 else 0)) (nI ((t.length + 511) / 512)) (nI j) (nI (284 * n + first + j)) (nI tr) u) _
            have u77 : u.2.1 77 n = iI (v + (j : Nat)) := by
              rw [z1.a 77 (by decide), i4, upd_same]
              congr 1
              rw [if_neg (by omega)]
              omega
            have fin : ∀ (w1 w2 : Int32), w1 = nI (1 - tr) → w2 = iI (v + (j : Nat) + 1 - (tr : Nat)) → wp (O_closeNote_260 N (OL_closeNote_87 N q) (nI n) (nI first) (nI (if torn then 1 else 0)) (nI ((t.length + 511) / 512)) (nI j) (nI n) w2 (rsA u 74 (nI (284 * n + first + j)).toNatClampNeg w1)) (F_closeNote_260 N (L_closeNote_87 N q) (nI n) (nI first) (nI (if torn then 1 else 0)) (nI ((t.length + 511) / 512)) (nI j) (nI n) w2 (rsA u 74 (nI (284 * n + first + j)).toNatClampNeg w1)) (fun z => z = (0, nI n, nI (if torn then 1 else 0), z.2.2.2) ∧ rfr [73, 74, 77] S z.2.2.2 ∧ cnX (284 * n + first) t torn ((t.length + 511) / 512) S z.2.2.2 ∧ z.2.2.2.2.1 77 = upd (S.2.1 77) n (iI (v + ((t.length + 511) / 512 : Nat) - (if torn then 1 else 0)))) := by
              rintro w1 w2 rfl rfl
              unfold O_closeNote_260 F_closeNote_260
              rw [n_clamp (by omega), n_clamp (by omega), n_add]
              refine wp_and ((n_in (by omega)).2 (by omega)) (ih _ ⟨((i1.trans (z1.mono (by decide))).trans (rfr.one (by decide))).trans (rfr.one (by decide)), ⟨fun y => ?_, fun y => ?_⟩, ?_⟩ (by omega))
              · rw [A_L, A_L, z2 y]
                by_cases c1 : y / 512 = 284 * n + first + j ∧ y % 512 < noS t.length torn j
                · have c4 : y / 512 - (284 * n + first) = j := by omega
                  rw [if_pos c1, c4, if_pos ⟨by omega, by omega, c1.2⟩]
                · rw [if_neg c1, i2 y]
                  by_cases c2 : 284 * n + first ≤ y / 512 ∧ y / 512 < 284 * n + first + j ∧ y % 512 < noS t.length torn (y / 512 - (284 * n + first))
                  · rw [if_pos c2, if_pos ⟨c2.1, by omega, c2.2.2⟩]
                  · rw [if_neg c2]
                    by_cases c3 : y / 512 = 284 * n + first + j
                    · have c4 : y / 512 - (284 * n + first) = j := by omega
                      rw [c4]
                      rw [if_neg (fun z => c1 ⟨c3, z.2.2⟩)]
                    · rw [if_neg (fun z => c2 ⟨z.1, by omega, z.2.2⟩)]
              · rw [A_other _ _ _ (by decide), A_same]
                by_cases c1 : y = 284 * n + first + j
                · rw [c1, upd_same, if_pos (by omega), htr]
                  by_cases c2 : torn = true ∧ j + 1 = (t.length + 511) / 512
                  · rw [if_pos c2, if_pos ⟨c2.1, by omega⟩]
                  · rw [if_neg c2, if_neg (fun z => c2 ⟨z.1, by omega⟩)]
                · rw [upd_other _ _ c1, z1.a 74 (by decide), i3 y]
                  by_cases c2 : 284 * n + first ≤ y ∧ y < 284 * n + first + j
                  · have c3 : 284 * n + first ≤ y ∧ y < 284 * n + first + (j + 1) := by omega
                    rw [if_pos c2, if_pos c3]
                  · have c3 : ¬ (284 * n + first ≤ y ∧ y < 284 * n + first + (j + 1)) := by omega
                    rw [if_neg c2, if_neg c3]
              · rw [A_same, A_other _ _ _ (by decide), z1.a 77 (by decide), i4]
                funext y
                by_cases c1 : y = n
                · rw [c1, upd_same, upd_same]
                  congr 1
                  rw [htr]
                  by_cases c2 : torn = true ∧ j + 1 = (t.length + 511) / 512
                  · rw [if_pos c2, if_pos c2]; omega
                  · rw [if_neg c2, if_neg c2]; omega
                · rw [upd_other _ _ c1, upd_other _ _ c1, upd_other _ _ c1]
            have e77 : ∀ w1 : Int32, (rsA u 74 (nI (284 * n + first + j)).toNatClampNeg w1).2.1 77 (nI n).toNatClampNeg = iI (v + (j : Nat)) := fun w1 => by
              rw [A_other _ _ _ (by decide), n_clamp (by omega)]; exact u77
            unfold O_closeNote_216 F_closeNote_216
            rcases (show tr = 0 ∨ tr = 1 by omega) with e0 | e0 <;> rw [e0] at fin ⊢
            · refine wp_pos rfl ?_
              unfold O_closeNote_232 F_closeNote_232
              rw [e77]
              refine wp_and ⟨((n_in (by omega)).2 (by omega)), rfl⟩ (wp_pos rfl (wp_and ((n_in (by omega)).2 (by omega)) (fin _ _ rfl ?_)))
              rw [← iI_n 1, iI_add]
              congr 1
              omega
            · refine wp_neg (by decide) ?_
              unfold O_closeNote_232 F_closeNote_232
              rw [e77]
              refine wp_and ⟨((n_in (by omega)).2 (by omega)), rfl⟩ (wp_neg (by decide) (wp_and ((n_in (by omega)).2 (by omega)) (fin _ _ rfl ?_)))
              congr 1
              omega
        have k160 : ∀ y : Nat, y = (if 512 ≤ t.length - 512 * j then 512 else t.length - 512 * j) → wp (O_closeNote_160 N (OL_closeNote_87 N q) (nI n) (nI first) (nI (if torn then 1 else 0)) (nI ((t.length + 511) / 512)) (nI j) (nI (284 * n + first + j)) (nI tr) (nI y) x) (F_closeNote_160 N (L_closeNote_87 N q) (nI n) (nI first) (nI (if torn then 1 else 0)) (nI ((t.length + 511) / 512)) (nI j) (nI (284 * n + first + j)) (nI tr) (nI y) x) (fun z => z = (0, nI n, nI (if torn then 1 else 0), z.2.2.2) ∧ rfr [73, 74, 77] S z.2.2.2 ∧ cnX (284 * n + first) t torn ((t.length + 511) / 512) S z.2.2.2 ∧ z.2.2.2.2.1 77 = upd (S.2.1 77) n (iI (v + ((t.length + 511) / 512 : Nat) - (if torn then 1 else 0)))) := by
          intro y hy
          have y2 : y ≤ 512 := by rw [hy]; split <;> omega
          unfold O_closeNote_160 F_closeNote_160
          by_cases c : torn = true ∧ j + 1 = (t.length + 511) / 512
          · rw [if_pos c] at htr
            have en : noS t.length torn j = y / 2 := by unfold noS; rw [if_pos c, hy]
            rw [en] at key2
            rw [n_div' (by omega) (by omega)]
            exact wp_neg (by rw [n_eq0 (by omega)]; omega) key2
          · rw [if_neg c] at htr
            have en : noS t.length torn j = y := by unfold noS; rw [if_neg c, hy]
            rw [en] at key2
            exact wp_pos (by rw [n_eq0 (by omega)]; omega) key2
        unfold O_closeNote_124 F_closeNote_124
        rw [ht.1, n_mul, n_sub (by omega)]
        refine wp_ite (fun c => ?_) (fun c => ?_) <;> rw [n_le' (by omega) (by omega)] at c
        · exact k160 _ (by rw [if_pos c])
        · exact k160 _ (by rw [if_neg c])
      simp only [n_mul, n_add]
      refine wp_neg (by rw [n_le' (by omega) (by omega)]; omega) ?_
      cases torn with
      | false => exact wp_pos rfl (key 0 (by simp))
      | true =>
        rw [n_sub (by omega)]
        refine wp_neg (by decide) (wp_ite (fun c => ?_) (fun c => ?_)) <;> rw [n_eq' (by omega) (by omega)] at c
        · exact key 1 (by rw [if_pos ⟨rfl, by omega⟩])
        · exact key 0 (by rw [if_neg (fun z => c (by omega))])
  · funext y
    by_cases c : y = n
    · rw [c, upd_same, hv]
      congr 1
      rw [if_neg (by omega)]
      omega
    · rw [upd_other _ _ c]
end
end
