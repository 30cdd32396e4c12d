section
/-! BOTH SIDES: every pair of calls keeps the relation, with equal answers -/
section
variable {F N g H T n k : Nat} {s : cS} {S : rS} {w W : Wd}
/-- both states tell one world -/
def RelQ (g H T j : Nat) (s : cS) (S : rS) : Prop := ∃ F w, rRp F H T S w ∧ clW F g H T s w ∧ IV F H T w ∧ wT w ≤ 64 * j ∧ St 1 g H T s
theorem RQ_skip : pS_skip (RelQ g) := fun H T j s S ⟨F, w, a, b, c, d, e⟩ => ⟨F, w, a, b, c, by omega, e⟩
theorem RQ_kind : pS_kind g (RelQ g) := fun H T j s S ⟨F, w, a, b, c, d, e⟩ => e
theorem smN_lim {f : Nat → Nat} {b : Nat} (h : ∀ i, f i ≤ b) : ∀ n, smN f n ≤ b * n
  | 0 => Nat.le_refl _
  | n + 1 => by
    have := smN_lim h n
    have := h n
    show smN f n + f n ≤ b * (n + 1)
    rw [Nat.mul_succ]
    omega
theorem RQ_room : pS_room g (RelQ g) := fun H T j s S ⟨F, w, a, ⟨ct, b, _⟩, c⟩ => by
  have cb := b.1.bb
  obtain ⟨r1, r2, r3, r4⟩ := b.2.2.2.2.1
  have q : nSe g H s ≤ 284 * H := smN_lim (fun n => by
    have := smN_lim (f := fun i => if cP s (nd g n + 2) i = none then 0 else 1) (b := 1) (fun i => by split <;> omega) 284
    omega) H
  have hH : H ≤ 13 := by omega
  have := rb_le (pe := fun _ => -1)
  omega
theorem RQ_feed (hN : 12000 ≤ N) : pS_feed N g (RelQ g) := fun H T j s S x1 x2 x3 x4 x5 hj ⟨F, w, r, c, iv, t, st⟩ => by
  have h9 : wT w + 64 < 900000 := by omega
  have R := feed_ok (N := N) (a := x1) (b := x2) (c := x3) (d := x4) (e := x5) (by omega) r
  rcases R.2 with ⟨q1, q2, q3⟩ | ⟨q1, q2, q3⟩
  · have C := feed_C (N := N) (x := x1) (y := x2) (c := x3) (d := x4) (e := x5) (by omega) c iv (Or.inl ⟨q1, rfl, rfl⟩)
    exact ⟨C.1, R.1, C.2.1.trans q3.symm, F, _, q2, C.2.2.1, C.2.2.2, by show wT w ≤ 64 * (j + 1); omega, (kpc_X11_feed st isO9 C.1).1⟩
  · have C := feed_C (N := N) (x := x1) (y := x2) (c := x3) (d := x4) (e := x5) (by omega) c iv (Or.inr ⟨q1, rfl, rfl⟩)
    exact ⟨C.1, R.1, C.2.1.trans q3.symm, F, _, q2, C.2.2.1, C.2.2.2, by show wT w ≤ 64 * (j + 1); omega, (kpc_X11_feed st isO9 C.1).1⟩
theorem RQ_lie (hN : 12000 ≤ N) : pS_lie N g (RelQ g) := fun H T j s S x1 x2 x3 hj ⟨F, w, r, c, iv, t, st⟩ => by
  have R := lie_ok (N := N) (x := x1) (y := x2) (v := x3) (by omega) r
  rcases R.2 with ⟨a, b, n, q1, q2, q3, q4, ⟨q5, q6, q7⟩ | ⟨q5, q6, q7⟩⟩ | ⟨q1, q2, q3⟩
  · have C := lie_C (N := N) hN c iv (Or.inl ⟨a, b, n, q1, q2, q3, q4, Or.inl ⟨q5, rfl, rfl⟩⟩)
    exact ⟨C.1, R.1, C.2.1.trans q7.symm, F, _, q6, C.2.2.1, C.2.2.2, by show wT w ≤ 64 * (j + 1); omega, (kpc_X11_lie st isO9 C.1).1⟩
  · have C := lie_C (N := N) hN c iv (Or.inl ⟨a, b, n, q1, q2, q3, q4, Or.inr ⟨q5, rfl, rfl⟩⟩)
    exact ⟨C.1, R.1, C.2.1.trans q7.symm, F, _, q6, C.2.2.1, C.2.2.2, by omega, (kpc_X11_lie st isO9 C.1).1⟩
  · have C := lie_C (N := N) hN c iv (Or.inr ⟨q1, rfl, rfl⟩)
    exact ⟨C.1, R.1, C.2.1.trans q3.symm, F, _, q2, C.2.2.1, C.2.2.2, by omega, (kpc_X11_lie st isO9 C.1).1⟩
theorem RQ_pass (hN : 12000 ≤ N) : pS_pass N g (RelQ g) := fun H T j s S x1 x2 x3 hj ⟨F, w, r, c, iv, t, st⟩ => by
  have h9 : wT w + 64 < 900000 := by omega
  have R := pass_ok (N := N) (x := x1) (y := x2) (v := x3) (by omega) r
  rcases R.2 with ⟨a, b, k, q1, q2, q3, q4, q5⟩ | ⟨q1, q2, q3⟩
  · have C := pass_C (N := N) (x := x1) (y := x2) (u := x3) c iv (Or.inl ⟨a, b, k, q1, q2, q3, rfl, rfl⟩)
    exact ⟨C.1, R.1, C.2.1.trans q5.symm, F, _, q4, C.2.2.1, C.2.2.2, by show wT w ≤ 64 * (j + 1); omega, (kpc_X11_pass st isO9 C.1).1⟩
  · have C := pass_C (N := N) (x := x1) (y := x2) (u := x3) c iv (Or.inr ⟨q1, rfl, rfl⟩)
    exact ⟨C.1, R.1, C.2.1.trans q3.symm, F, _, q2, C.2.2.1, C.2.2.2, by show wT w ≤ 64 * (j + 1); omega, (kpc_X11_pass st isO9 C.1).1⟩
theorem RQ_seal (hN : 12000 ≤ N) : pS_seal N g (RelQ g) := fun H T j s S x1 x2 x3 hj ⟨F, w, r, c, iv, t, st⟩ => by
  have h9 : wT w + 64 < 900000 := by omega
  have R := seal_ok (N := N) (x := x1) (y := x2) (u := x3) (by omega) r
  rcases R.2 with ⟨a, n, L, q1, q2, q3, q4, q5, q6, q7⟩ | ⟨q1, q2, q3⟩
  · have C := seal_C (N := N) (x := x1) (y := x2) (u := x3) hN c iv (Or.inl ⟨a, n, L, q1, q2, q3, q4, q5, rfl, rfl⟩)
    exact ⟨C.1, R.1, C.2.1.trans q7.symm, F, _, q6, C.2.2.1, C.2.2.2, by show wT w ≤ 64 * (j + 1); omega, (kpc_X11_seal st isO9 C.1).1⟩
  · have C := seal_C (N := N) (x := x1) (y := x2) (u := x3) hN c iv (Or.inr ⟨q1, rfl, rfl⟩)
    exact ⟨C.1, R.1, C.2.1.trans q3.symm, F, _, q2, C.2.2.1, C.2.2.2, by show wT w ≤ 64 * (j + 1); omega, (kpc_X11_seal st isO9 C.1).1⟩
theorem RQ_stamp (hN : 12000 ≤ N) : pS_stamp N g (RelQ g) := fun H T j s S x1 x2 x3 hj ⟨F, w, r, c, iv, t, st⟩ => by
  have h9 : wT w + 64 < 900000 := by omega
  have R := stamp_ok (N := N) (x := x1) (y := x2) (u := x3) (by omega) r
  rcases R.2 with ⟨a, tt, q1, q2, q3, q4, q5⟩ | ⟨q1, q2, q3⟩
  · have C := stamp_C (N := N) (x := x1) (y := x2) (u := x3) hN c iv (Or.inl ⟨a, tt, q1, q2, q3, rfl, rfl⟩)
    exact ⟨C.1, R.1, C.2.1.trans q5.symm, F, _, q4, C.2.2.1, C.2.2.2, by show wT w ≤ 64 * (j + 1); omega, (kpc_X11_stamp st isO9 C.1).1⟩
  · have C := stamp_C (N := N) (x := x1) (y := x2) (u := x3) hN c iv (Or.inr ⟨q1, rfl, rfl⟩)
    exact ⟨C.1, R.1, C.2.1.trans q3.symm, F, _, q2, C.2.2.1, C.2.2.2, by show wT w ≤ 64 * (j + 1); omega, (kpc_X11_stamp st isO9 C.1).1⟩
theorem RQ_submit (hN : 12000 ≤ N) : pS_submit N g (RelQ g) := fun H T j s S x1 x2 x3 x4 x5 x6 hj ⟨F, w, r, c, iv, t, st⟩ => by
  obtain ⟨G, g1⟩ := iv.2.1.1.1
  have R := submit_ok (N := N) (x1 := x1) (x2 := x2) (x3 := x3) (x4 := x4) (x5 := x5) (x6 := x6) (by omega) r (fun n hn => (g1.2.1 n hn).a.1)
  rcases R.2 with ⟨n, a, b, c', d, e, q1, q2, q3⟩ | ⟨q1, q2, q3⟩
  · have C := submit_C (N := N) hN c iv (Or.inl ⟨n, a, b, c', d, e, q1, rfl, rfl⟩)
    refine ⟨C.1, R.1, C.2.1.trans q3.symm, F, _, q2, C.2.2.1, C.2.2.2, ?_, (kpc_X11_submit st isO9 C.1).1⟩
    have : wT (aSub w n T (pyT a b c' d e)) = wT w := by
      unfold aSub
      split
      · exact (wfr.pool.trans wfr.all).2.1
      · exact wfr.pool.2.1
    omega
  · have C := submit_C (N := N) hN c iv (Or.inr ⟨q1, rfl, rfl⟩)
    exact ⟨C.1, R.1, C.2.1.trans q3.symm, F, _, q2, C.2.2.1, C.2.2.2, by omega, (kpc_X11_submit st isO9 C.1).1⟩
theorem RQ_deliver (hN : 12000 ≤ N) : pS_deliver N g (RelQ g) := fun H T j s S x1 hj ⟨F, w, r, c, iv, t, st⟩ => by
  have R := deliver_ok (N := N) (x := x1) (by omega) r iv.2.1.1 iv.1.1.2.1
  have C := deliver_C (N := N) (L := g) (x := x1) hN c iv (by omega)
  rcases R.2 with ⟨k, q1, q2, q3, q4⟩ | ⟨q1, q2, q3⟩
  · rcases C.2 with ⟨k', p1, p2, p3, p4, p5⟩ | ⟨p1, _⟩
    · have lt := fl_le c.choose_spec.1
      have : k = k' := n_inj (by omega) (by omega) (q2.symm.trans p2)
      subst this
      exact ⟨C.1, R.1, p5.trans q4.symm, F, _, q3, p3, p4, by rw [wT_land]; omega, (kpc_X11_deliver st isO9 C.1).1⟩
    · exact absurd ⟨k, q1, q2⟩ p1
  · rcases C.2 with ⟨k', p1, p2, _⟩ | ⟨p1, p2, p3⟩
    · exact absurd ⟨k', p1, p2⟩ q1
    · exact ⟨C.1, R.1, p3.trans q3.symm, F, _, q2, p2, iv, by omega, (kpc_X11_deliver st isO9 C.1).1⟩
theorem RQ_calm (hN : 12000 ≤ N) : pS_calm N g (RelQ g) := fun H T j s S x1 x2 hj ⟨F, w, r, c, iv, t, st⟩ => by
  have h9 : wT w + 64 < 900000 := by omega
  have R := AJ.calm (N := N) (x := x1) (y := x2) (by omega) r iv.1 h9
  have C := calm_C (N := N) (L := g) (x := x1) (y := x2) hN c iv h9
  rcases R.2 with ⟨n, d, q1, q2, q3, q4, q5, q6, q7, q8, q9⟩ | ⟨q1, q2, q3⟩
  · rcases C.2 with ⟨n', d', p1, p2, p3, p4, p5, p6, p7, p8⟩ | ⟨p1, _⟩
    · have : n = n' := n_inj (by omega) (by omega) (q4.symm.trans p4)
      subst this
      have : d = d' := n_inj (by omega) (by omega) (q5.symm.trans p5)
      subst this
      exact ⟨C.1, R.1, p7.trans q7.symm, F, _, q6, p6, p8, by omega, (kpc_X11_calm st isO9 C.1).1⟩
    · exact absurd ⟨n, d, q1, q2, q3, q4, q5⟩ p1
  · rcases C.2 with ⟨n', d', p1, p2, p3, p4, p5, _⟩ | ⟨p1, p2, p3⟩
    · exact absurd ⟨n', d', p1, p2, p3, p4, p5⟩ q1
    · exact ⟨C.1, R.1, p3.trans q3.symm, F, _, q2, p2, iv, by omega, (kpc_X11_calm st isO9 C.1).1⟩
theorem RQ_tick (hN : 12000 ≤ N) : pS_tick N g (RelQ g) := fun H T j s S hj ⟨F, w, r, c, iv, t, st⟩ => by
  have R := tick_ok (N := N) (by omega) r iv.2.1.1 (fun m hm => (iv.1.1.2.2 m hm).mono (by omega)) (by omega)
  have C := ptick_C (N := N) (L := g) hN c iv (by omega)
  exact ⟨C.1, R.1, C.2.1.trans R.2.2.1.symm, F, _, R.2.1, C.2.2.1, C.2.2.2, by rw [(iv.1.tick (by omega)).2]; omega, (kpc_X11_tick st isO9 C.1).1⟩
theorem RQ_copy (hN : 12000 ≤ N) : pS_copy N g (RelQ g) := fun H T j s S x1 hj ⟨F, w, r, c, iv, t, st⟩ => by
  have h9 : wT w + 64 < 900000 := by omega
  have R := copy_ok (N := N) (x := x1) (by omega) r
  rcases R.2 with ⟨k, q1, q2, q3, q4, q5⟩ | ⟨q1, q2, q3⟩
  · have C := copy_C (N := N) c iv (Or.inl ⟨k, q1, q2, q3, rfl, rfl⟩)
    exact ⟨C.1, R.1, C.2.1.trans q5.symm, F, _, q4, C.2.2.1, C.2.2.2, by show wT w ≤ 64 * (j + 1); omega, (kpc_X11_copy st isO9 C.1).1⟩
  · have C := copy_C (N := N) c iv (Or.inr ⟨q1, rfl, rfl⟩)
    exact ⟨C.1, R.1, C.2.1.trans q3.symm, F, _, q2, C.2.2.1, C.2.2.2, by show wT w ≤ 64 * (j + 1); omega, (kpc_X11_copy st isO9 C.1).1⟩
theorem RQ_crash (hN : 12000 ≤ N) : pS_crash N g (RelQ g) := fun H T j s S x1 hj ⟨F, w, r, c, iv, t, st⟩ => by
  have h9 : wT w + 64 < 900000 := by omega
  have R := crash_ok (N := N) (x := x1) (by omega) r iv.2.1.1
  rcases R.2 with ⟨n, q1, q2, q3, q4, q5⟩ | ⟨q1, q2, q3⟩
  · have C := crash_C (N := N) hN c iv (Or.inl ⟨n, q1, q2, q3, rfl, rfl⟩)
    exact ⟨C.1, R.1, C.2.1.trans q5.symm, F, _, q4, C.2.2.1, C.2.2.2, by show wT w ≤ 64 * (j + 1); omega, (kpc_X11_crash st isO9 C.1).1⟩
  · have C := crash_C (N := N) hN c iv (Or.inr ⟨q1, rfl, rfl⟩)
    exact ⟨C.1, R.1, C.2.1.trans q3.symm, F, _, q2, C.2.2.1, C.2.2.2, by show wT w ≤ 64 * (j + 1); omega, (kpc_X11_crash st isO9 C.1).1⟩
theorem RQ_cut (hN : 12000 ≤ N) : pS_cut N g (RelQ g) := fun H T j s S x1 x2 hj ⟨F, w, r, c, iv, t, st⟩ => by
  have h9 : wT w + 64 < 900000 := by omega
  have R := cut_ok (N := N) (x := x1) (y := x2) r
  rcases R.2 with ⟨n, k, q1, q2, q3, q4, q5, q6⟩ | ⟨q1, q2, q3⟩
  · have C := cut_C (N := N) c iv (Or.inl ⟨n, k, q1, q2, q3, q4, rfl, rfl⟩)
    exact ⟨C.1, R.1, C.2.1.trans q6.symm, F, _, q5, C.2.2.1, C.2.2.2, by show wT w ≤ 64 * (j + 1); omega, (kpc_X11_cut st isO9 C.1).1⟩
  · have C := cut_C (N := N) c iv (Or.inr ⟨q1, rfl, rfl⟩)
    exact ⟨C.1, R.1, C.2.1.trans q3.symm, F, _, q2, C.2.2.1, C.2.2.2, by show wT w ≤ 64 * (j + 1); omega, (kpc_X11_cut st isO9 C.1).1⟩
theorem RQ_restart (hN : 12000 ≤ N) : pS_restart N g (RelQ g) := fun H T j s S x1 hj ⟨F, w, r, c, iv, t, st⟩ => by
  have h9 : wT w + 64 < 900000 := by omega
  have R := restart_ok (N := N) (x := x1) (by omega) r iv.2.1.1
  rcases R.2 with ⟨n, q1, q2, q3, q4, q5⟩ | ⟨q1, q2, q3⟩
  · have C := restart_C (N := N) hN c iv (by omega) (Or.inl ⟨n, q1, q2, q3, rfl, rfl⟩)
    exact ⟨C.1, R.1, C.2.1.trans q5.symm, F, _, q4, C.2.2.1, C.2.2.2, by rw [show wT (aRules (aWk w n T) n T F) = wT w from (((wfr.hl.trans wfr.wk1).trans wfr.all).trans wfr.rules : wfr n (aWk0 w n) _).2.1]; omega, (kpc_X11_restart st isO9 C.1).1⟩
  · have C := restart_C (N := N) hN c iv (by omega) (Or.inr ⟨q1, rfl, rfl⟩)
    exact ⟨C.1, R.1, C.2.1.trans q3.symm, F, _, q2, C.2.2.1, C.2.2.2, by show wT w ≤ 64 * (j + 1); omega, (kpc_X11_restart st isO9 C.1).1⟩
theorem RQ_flying (hN : 12000 ≤ N) : pS_flying N g (RelQ g) := fun H T j s S x1 x2 hj ⟨F, w, r, c, iv, t, st⟩ => by
  have R := flying_ok (N := N) (x := x1) (y := x2) r
  have C := flying_C (N := N) c R.2
  exact ⟨C.1, R.1, C.2, F, w, r, c, iv, by omega, st⟩
theorem RQ_bytes (hN : 12000 ≤ N) : pS_bytes N g (RelQ g) := fun H T j s S x1 x2 hj ⟨F, w, r, c, iv, t, st⟩ => by
  have R := bytes_ok (N := N) (x := x1) (y := x2) (by omega) r
  have C := bytes_C (N := N) (by omega) c R.2
  exact ⟨C.1, R.1, C.2, F, w, r, c, iv, by omega, st⟩
theorem RQ_state (hN : 12000 ≤ N) : pS_state N g (RelQ g) := fun H T j s S x1 x2 hj ⟨F, w, r, c, iv, t, st⟩ => by
  have R := state_q (N := N) (x := x1) (y := x2) (by omega) r
  have C := state_C (N := N) c iv R.2
  exact ⟨C.1, R.1, C.2, F, w, r, c, iv, by omega, st⟩
theorem RQ_sector (hN : 12000 ≤ N) : pS_sector N g (RelQ g) := fun H T j s S x1 x2 x3 hj ⟨F, w, r, c, iv, t, st⟩ => by
  have R := sector_q (N := N) (x := x1) (y := x2) (u := x3) (by omega) r
  have C := sector_C (N := N) (by omega) c R.2
  exact ⟨C.1, R.1, C.2, F, w, r, c, iv, by omega, st⟩
theorem RQ_count (hN : 12000 ≤ N) : pS_count N g (RelQ g) := fun H T j s S x1 hj ⟨F, w, r, c, iv, t, st⟩ => by
  have R := count_q (N := N) (x := x1) r
  have C := count_C (N := N) (x := x1) c
  exact ⟨C.1, R.1, C.2.trans R.2.symm, F, w, r, c, iv, by omega, st⟩
theorem RQ_block (hN : 12000 ≤ N) : pS_block N g (RelQ g) := fun H T j s S x1 x2 x3 hj ⟨F, w, r, c, iv, t, st⟩ => by
  have R := block_q (N := N) (x := x1) (y := x2) (u := x3) (by omega) r
  have C := block_C (N := N) (by omega) c R.2
  exact ⟨C.1, R.1, C.2.1, F, w, r, C.2.2, iv, by omega, (kpc_X11_block st isO9 C.1).1⟩
theorem RQ_paid (hN : 12000 ≤ N) : pS_paid N g (RelQ g) := fun H T j s S x1 x2 hj ⟨F, w, r, c, iv, t, st⟩ => by
  have R := paid_q (N := N) (x := x1) (y := x2) (by omega) r
  have C := paid_C (N := N) c R.2.2
  exact ⟨C.1, R.1, C.2, F, w, r.sf R.2.1, c, iv, by omega, st⟩
theorem RQ_balance (hN : 12000 ≤ N) : pS_balance N g (RelQ g) := fun H T j s S x1 x2 hj ⟨F, w, r, c, iv, t, st⟩ => by
  have R := balance_q (N := N) (x := x1) (y := x2) (by omega) r
  have C := balance_C (N := N) c R.2.2
  exact ⟨C.1, R.1, C.2, F, w, r.sf R.2.1, c, iv, by omega, st⟩
theorem RQ_hash (hN : 12000 ≤ N) : pS_hash N g (RelQ g) := fun H T j s S x1 x2 hj ⟨F, w, r, c, iv, t, st⟩ => by
  have R := hash_q (N := N) (x := x1) (y := x2) (by omega) r
  have C := hash_C (N := N) hN c R.2.2
  exact ⟨C.1, R.1, C.2.1, F, w, r.sf R.2.1, C.2.2, iv, by omega, (kpc_X11_hash st isO9 C.1).1⟩
theorem RQ_path_ (hN : 12000 ≤ N) : pS_path_ N g (RelQ g) := fun H T j s S x1 x2 x3 x4 hj ⟨F, w, r, c, iv, t, st⟩ => by
  have R := path_q (N := N) (x := x1) (y := x2) (u := x3) (v := x4) (by omega) r (fun n h b hn _ e => iv.1.2 n h b hn e)
  have C := path_C (N := N) hN c iv R.2.2
  exact ⟨C.1, R.1, C.2.1, F, w, r.sf R.2.1, C.2.2, iv, by omega, (kpc_X11_path st isO9 C.1).1⟩
theorem RQ_account (hN : 12000 ≤ N) : pS_account N g (RelQ g) := fun H T j s S x1 x2 x3 hj ⟨F, w, r, c, iv, t, st⟩ => by
  have R := account_q (N := N) (x := x1) (y := x2) (u := x3) (by omega) r
  have C := account_C (N := N) hN c iv R.2.2
  exact ⟨C.1, R.1, C.2.1, F, w, r.sf R.2.1, C.2.2, iv, by omega, (kpc_X11_account st isO9 C.1).1⟩
theorem RQ_proof (hN : 12000 ≤ N) : pS_proof N g (RelQ g) := fun H T j s S x1 x2 x3 hj ⟨F, w, r, c, iv, t, st⟩ => by
  have R := proof_ok (N := N) (x := x1) (y := x2) (u := x3) (by omega) r
  have C := proof_C (N := N) hN c R.2.2
  exact ⟨C.1, R.1, C.2.1, F, w, r.sf R.2.1, C.2.2, iv, by omega, (kpc_X11_proof st isO9 C.1).1⟩
/-- all but the start -/
theorem RQ_all (hN : 12000 ≤ N) (hi : pS_init N g (RelQ g)) : pS_all N g (RelQ g) := ⟨hi, RQ_kind, RQ_room, RQ_skip, RQ_feed hN, RQ_lie hN, RQ_pass hN, RQ_seal hN, RQ_stamp hN, RQ_hash hN, RQ_submit hN, RQ_deliver hN, RQ_calm hN, RQ_copy hN, RQ_flying hN, RQ_bytes hN, RQ_tick hN, RQ_crash hN, RQ_cut hN, RQ_restart hN, RQ_state hN, RQ_block hN, RQ_paid hN, RQ_path_ hN, RQ_account hN, RQ_sector hN, RQ_proof hN, RQ_balance hN, RQ_count hN⟩
end
end
