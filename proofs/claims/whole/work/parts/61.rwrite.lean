section
/-! THE REFERENCE WRITES MESSAGES -/
def hdB (k s h r : Nat) : List Nat := [k, s, h / 256, h % 256, r]
def vtB (k s h r : Nat) (o : Option (List Nat)) : List Nat := hdB k s h r ++ (match o with | none => [0] | some d => 1 :: d)
def vrB (v : Int) : Nat := if v = -1 then 255 else v.toNat
def prB (s h r : Nat) (v : Int) (b : List Nat) : List Nat := hdB 1 s h r ++ (vrB v :: b)
def asB (h : Nat) : List Nat := [5, h / 256, h % 256]
/-- four longs hold 32 bytes -/
def idL (a b c e : Int64) (d : List Nat) : Prop := ∀ k, k < 8 → byt a k = nI (bg d k) ∧ byt b k = nI (bg d (8 + k)) ∧ byt c k = nI (bg d (16 + k)) ∧ byt e k = nI (bg d (24 + k))
section
variable {N : Nat} {S : rS} {m : List Nat}
theorem mB0 : mB (rsI S 33 (nI 0)) [] := ⟨I_same _ _ _, by simp, fun i hi => absurd hi (by simp), isB_nil⟩
theorem write_ok {x : Int32} (h : mB S m) (hl : m.length < 1000) : wp (o_write N S x) (f_write N S x) (fun S' => rfr [32, 33] S S' ∧ mB S' (m ++ [nb x])) := by
  obtain ⟨h1, h2, h3, h4⟩ := h
  refine wp_fin ?_ ?_
  · show O_write_0 N x S
    unfold O_write_0
    rw [h1]
    exact ⟨((n_in (by omega)).2 (by omega)), trivial⟩
  · show rfr [32, 33] S (F_write_0 N x S) ∧ mB (F_write_0 N x S) _
    unfold F_write_0
    rw [A_I, h1, n_clamp (by omega), n_add, (nb_spec x).2]
    refine ⟨(rfr.one (by decide)).trans (rfr.oneI (by decide)), ?_, by simp; omega, fun i hi => ?_, isB_app h4 (isB_one (nb_spec x).1)⟩
    · rw [I_same]; simp
    · simp only [List.length_append, List.length_cons, List.length_nil, Nat.zero_add] at hi
      rw [I_A, A_same, bg_snoc]
      by_cases e : i = m.length
      · rw [e, upd_same, if_neg (by omega), if_pos rfl]
      · rw [upd_other _ _ e, if_pos (by omega)]; exact h3 i (by omega)
theorem writeN_ok {x : Nat} (hx : x < 256) (h : mB S m) (hl : m.length < 1000) : wp (o_write N S (nI x)) (f_write N S (nI x)) (fun S' => rfr [32, 33] S S' ∧ mB S' (m ++ [x])) := by
  have := write_ok (N := N) (x := nI x) h hl
  rw [nb_n, Nat.mod_eq_of_lt hx] at this
  exact this
theorem writeTwo_ok {v : Nat} (hv : v < 65536) (h : mB S m) (hl : m.length + 2 ≤ 1000) : wp (o_writeTwo N S (nI v)) (f_writeTwo N S (nI v)) (fun S' => rfr [32, 33] S S' ∧ mB S' (m ++ [v / 256, v % 256])) := by
  show wp (O_writeTwo_0 N (nI v) S) (F_writeTwo_0 N (nI v) S) _
  unfold O_writeTwo_0 F_writeTwo_0
  rw [n_sshr (by omega) (by decide)]
  refine wp_call (writeN_ok (by omega) h (by omega)) (fun q => ?_)
  rw [show v / 2 ^ 8 = v / 256 from rfl] at q ⊢
  generalize f_write N S (nI (v / 256)) = S1 at q ⊢
  unfold O_writeTwo_8 F_writeTwo_8
  refine wp_call (write_ok (x := nI v) q.2 (by simp; omega)) (fun q2 => wp_ret ⟨q.1.trans q2.1, ?_⟩)
  have := q2.2
  rw [nb_n, List.append_assoc] at this
  exact this
theorem writeHead_ok {k s h r : Nat} (hk : k < 256) (hs : s < 256) (hh : h < 65536) (hr : r < 256) : wp (o_writeHead N S (nI k) (nI s) (nI h) (nI r)) (f_writeHead N S (nI k) (nI s) (nI h) (nI r)) (fun S' => rfr [32, 33] S S' ∧ mB S' (hdB k s h r)) := by
  show wp (O_writeHead_0 N (nI k) (nI s) (nI h) (nI r) S) (F_writeHead_0 N (nI k) (nI s) (nI h) (nI r) S) _
  unfold O_writeHead_0 F_writeHead_0
  have f0 : rfr [32, 33] S (rsI S 33 (nI 0)) := rfr.oneI (by decide)
  refine wp_call (writeN_ok hk mB0 (by simp)) (fun q => ?_)
  generalize f_write N (rsI S 33 (nI 0)) (nI k) = S1 at q ⊢
  unfold O_writeHead_10 F_writeHead_10
  refine wp_call (writeN_ok hs q.2 (by simp)) (fun q2 => ?_)
  generalize f_write N S1 (nI s) = S2 at q2 ⊢
  unfold O_writeHead_15 F_writeHead_15
  refine wp_call (writeTwo_ok hh q2.2 (by simp)) (fun q3 => ?_)
  generalize f_writeTwo N S2 (nI h) = S3 at q3 ⊢
  unfold O_writeHead_20 F_writeHead_20
  exact wp_call (writeN_ok hr q3.2 (by simp)) (fun q4 => wp_ret ⟨(((f0.trans q.1).trans q2.1).trans q3.1).trans q4.1, q4.2⟩)
theorem writeBlock_ok {p : Nat} {b : List Nat} (hp : p < 1354) (h : mB S m) (hb : S.2.1 14 p = nI b.length) (hw : wB S p b) (hB : isB b) (hl : b.length ≤ 691) (hm : m.length + b.length ≤ 1000) (hN : 1000 ≤ N) : wp (o_writeBlock N S (nI p)) (f_writeBlock N S (nI p)) (fun S' => rfr [32, 33] S S' ∧ mB S' (m ++ b)) := by
  refine wp_seq (Q := fun z : Nat × rS => rfr [32, 33] S z.2 ∧ mB z.2 (m ++ b)) ?_ (fun z hz => wp_fin trivial hz)
  refine wp_loop (K := b.length) (fun j x => rfr [32, 33] S x ∧ mB x (m ++ sl b 0 j)) (fun n j x => OL_writeBlock_2 N n (nI p) (nI j) x) (fun n j x => L_writeBlock_2 N n (nI p) (nI j) x) (fun n j x hj hI ih => ?_) 0 N S (by omega) (by omega) ⟨rfr.refl, by rw [show sl b 0 0 = [] from rfl, List.append_nil]; exact h⟩
  unfold OL_writeBlock_2 L_writeBlock_2 OB_writeBlock_2 B_writeBlock_2
  rw [n_clamp (by omega), hI.1.a 14 (by decide), hb]
  refine wp_and ((n_in (by omega)).2 (by omega)) ?_
  by_cases e : j = b.length
  · refine wp_pos (by rw [n_le' (by omega) (by omega)]; omega) (wp_fin trivial ?_)
    have es : sl b 0 j = b := by
      rw [e]
      unfold sl
      rw [show (fun k => bg b (0 + k)) = bg b by funext k; rw [Nat.zero_add]]
      exact mkB_self b
    rw [es] at hI
    exact hI
  · obtain ⟨a1, a2⟩ := blockByte_ok (N := N) (S := x) (p := p) (i := j) hp (by omega)
    rw [hI.1.l 12 (by decide), hw j (by omega)] at a2
    rw [a2]
    refine wp_neg (by rw [n_le' (by omega) (by omega)]; omega) (wp_and a1 (wp_call (writeN_ok (hB j) hI.2 (by rw [List.length_append, sl_len]; omega)) (fun q => ?_)))
    unfold O_writeBlock_22 F_writeBlock_22
    rw [n_add]
    refine ih _ ⟨hI.1.trans q.1, ?_⟩ (by omega)
    have q2 := q.2
    rw [List.append_assoc] at q2
    have es : sl b 0 j ++ [bg b j] = sl b 0 (j + 1) := by
      unfold sl mkB
      rw [List.range_succ, List.map_append]
      simp
    rw [es] at q2
    exact q2
theorem writeId_ok {a b c e : Int64} {d : List Nat} (h : mB S m) (hd : idL a b c e d) (hdl : d.length = 32) (hB : isB d) (hm : m.length + 33 ≤ 1000) (hN : 100 ≤ N) : wp (o_writeId N S a b c e) (f_writeId N S a b c e) (fun S' => rfr [32, 33] S S' ∧ mB S' (m ++ 1 :: d)) := by
  show wp (O_writeId_0 N a b c e S) (F_writeId_0 N a b c e S) _
  unfold O_writeId_0 F_writeId_0
  refine wp_call (writeN_ok (x := 1) (by omega) h (by omega)) (fun q => ?_)
  generalize f_write N S (nI 1) = S1 at q ⊢
  unfold O_writeId_5 F_writeId_5
  refine wp_seq (Q := fun z : Nat × rS => rfr [32, 33] S z.2 ∧ mB z.2 (m ++ 1 :: d)) ?_ (fun z hz => wp_fin trivial hz)
  refine wp_loop (K := 32) (fun j x => rfr [32, 33] S x ∧ mB x (m ++ [1] ++ sl d 0 j)) (fun n j x => OL_writeId_8 N n a b c e (nI j) x) (fun n j x => L_writeId_8 N n a b c e (nI j) x) (fun n j x hj hI ih => ?_) 0 N S1 (by omega) (by omega) ⟨q.1, by rw [show sl d 0 0 = [] from rfl, List.append_nil]; exact q.2⟩
  unfold OL_writeId_8 L_writeId_8 OB_writeId_8 B_writeId_8
  by_cases ej : j = 32
  · refine wp_pos (by rw [n_le' (by omega) (by omega)]; omega) (wp_fin trivial ?_)
    have es : sl d 0 j = d := by
      rw [ej, ← hdl]
      unfold sl
      rw [show (fun k => bg d (0 + k)) = bg d by funext k; rw [Nat.zero_add]]
      exact mkB_self d
    rw [es, List.append_assoc] at hI
    exact hI
  · have go : ∀ w : Int64, byt w (j % 8) = nI (bg d j) → wp (O_writeId_52 N (OL_writeId_8 N n) a b c e (nI j) w x) (F_writeId_52 N (L_writeId_8 N n) a b c e (nI j) w x) (fun z : Nat × rS => rfr [32, 33] S z.2 ∧ mB z.2 (m ++ 1 :: d)) := by
      intro w hw
      unfold O_writeId_52 F_writeId_52
      rw [n_mod' (by omega) (by omega), byteIn_byt, hw]
      refine wp_and trivial (wp_call (writeN_ok (hB j) hI.2 (by simp [sl_len]; omega)) (fun q2 => ?_))
      unfold O_writeId_63 F_writeId_63
      rw [n_add]
      refine ih _ ⟨hI.1.trans q2.1, ?_⟩ (by omega)
      have q3 := q2.2
      rw [List.append_assoc] at q3
      have es : sl d 0 j ++ [bg d j] = sl d 0 (j + 1) := by
        unfold sl mkB
        rw [List.range_succ, List.map_append]
        simp
      rw [es] at q3
      exact q3
    have hj8 := hd (j % 8) (by omega)
    refine wp_neg (by rw [n_le' (by omega) (by omega)]; omega) (wp_ite (fun c1 => ?_) (fun c1 => ?_)) <;> rw [n_le' (by omega) (by omega)] at c1
    · refine wp_ite (fun c2 => ?_) (fun c2 => ?_) <;> rw [n_le' (by omega) (by omega)] at c2
      · refine wp_ite (fun c3 => ?_) (fun c3 => ?_) <;> rw [n_le' (by omega) (by omega)] at c3
        · exact go e (by rw [hj8.2.2.2, show 24 + j % 8 = j by omega])
        · exact go c (by rw [hj8.2.2.1, show 16 + j % 8 = j by omega])
      · exact go b (by rw [hj8.2.1, show 8 + j % 8 = j by omega])
    · exact go a (by rw [hj8.1, show j % 8 = j by omega])
theorem writeProposal_ok {s h r p : Nat} {v : Int} {b : List Nat} (hs : s < 256) (hh : h < 65536) (hr : r < 256) (hv : -1 ≤ v ∧ v < 16) (hp : p < 1354) (hb : S.2.1 14 p = nI b.length) (hw : wB S p b) (hB : isB b) (hl : b.length ≤ 691) (hN : 1000 ≤ N) : wp (o_writeProposal N S (nI s) (nI h) (nI r) (iI v) (nI p)) (f_writeProposal N S (nI s) (nI h) (nI r) (iI v) (nI p)) (fun S' => rfr [32, 33] S S' ∧ mB S' (prB s h r v b)) := by
  show wp (O_writeProposal_0 N (nI s) (nI h) (nI r) (iI v) (nI p) S) (F_writeProposal_0 N (nI s) (nI h) (nI r) (iI v) (nI p) S) _
  unfold O_writeProposal_0 F_writeProposal_0
  refine wp_call (writeHead_ok (k := 1) (by omega) hs hh hr) (fun q => ?_)
  generalize f_writeHead N S (nI 1) (nI s) (nI h) (nI r) = S1 at q ⊢
  have go : ∀ y : Nat, y = vrB v → wp (O_writeProposal_23 N (nI p) (nI y) S1) (F_writeProposal_23 N (nI p) (nI y) S1) (fun S' => rfr [32, 33] S S' ∧ mB S' (prB s h r v b)) := by
    intro y hy
    have y2 : y < 256 := by
      rw [hy]
      unfold vrB
      split <;> omega
    unfold O_writeProposal_23 F_writeProposal_23
    refine wp_call (writeN_ok y2 q.2 (by simp [hdB])) (fun q2 => ?_)
    generalize f_write N S1 (nI y) = S2 at q2 ⊢
    have f2 := q.1.trans q2.1
    unfold O_writeProposal_26 F_writeProposal_26
    refine wp_call (writeBlock_ok hp q2.2 (by rw [f2.a 14 (by decide)]; exact hb) (fun i hi => by rw [f2.l 12 (by decide)]; exact hw i hi) hB hl (by simp [hdB]; omega) hN) (fun q3 => wp_ret ⟨f2.trans q3.1, ?_⟩)
    have := q3.2
    rw [List.append_assoc, hy] at this
    exact this
  unfold O_writeProposal_8 F_writeProposal_8
  refine wp_ite (fun c => ?_) (fun c => ?_) <;> rw [← iI_m1, iI_eq (by omega) (by omega) (by omega) (by omega)] at c
  · exact go 255 (by unfold vrB; rw [if_pos c])
  · have e : iI v = nI v.toNat := by rw [← iI_n, Int.toNat_of_nonneg (by omega)]
    rw [e]
    exact go _ (by unfold vrB; rw [if_neg c])
end
end
