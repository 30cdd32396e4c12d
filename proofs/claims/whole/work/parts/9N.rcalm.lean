section
/-! ALL THAT HOLDS BETWEEN CALLS; the reference calms -/
def AI (F H T : Nat) (w : Wd) : Prop := GK F H T w ∧ skT T w ∧ ∀ n, n < H → tmO (wT w) w n
noncomputable def aCl1 (H T F d : Nat) : Nat → Nat × Wd → Nat × Wd
  | 0, x => x
  | f + 1, x => if x.1 < 5000 ∧ 0 < (wK x.2).1.length ∧ (fg (wK x.2).1 0).2.2.1 + d ≤ wT x.2 then aCl1 H T F d f (x.1 + 1, aLand x.2 H T F 0) else x
noncomputable def aCl (H T F d : Nat) (w : Wd) : Nat → Nat × Wd
  | 0 => (0, w)
  | k + 1 => ((aCl1 H T F d 5000 (aCl H T F d w k)).1, (aTick (aCl1 H T F d 5000 (aCl H T F d w k)).2 H T F).2)
section
variable {N n F H T k : Nat} {S : rS} {w : Wd} {G : Gh}
theorem GK.come {b : Nat} {m : List Nat} (g : GI F H T G w) (gk : ∀ n, n < H → giK (wN w n)) (hn : n < H) (hb : b < T) (sx : ∀ t tk, skX H T G (b, t, tk, m)) (hB : isB m) : GK F H T (aCome w n T F b m) := by
  unfold aCome
  by_cases c : wf T m
  · rw [cif_pos c]
    exact (GK.got g gk hn hb sx c hB).rules hn
  · rw [cif_neg c]
    exact ⟨⟨G, g⟩, gk⟩
/-- a node's own doing keeps the rest -/
theorem AI.node {w' : Wd} (h : AI F H T w) (hn : n < H) (hT : H ≤ T) (g : GK F H T w') (f : wfr n w w') (kf : kfr n T w w') (tm : tmO (wT w) w' n) : AI F H T w' := by
  refine ⟨g, h.2.1.kfr kf (by omega) f.2.1, fun m hm => ?_⟩
  rw [f.2.1]
  by_cases e : m = n
  · rw [e]; exact tm
  · exact (h.2.2 m hm).wfr f e
theorem wT_land : wT (aLand w H T F k) = wT w := by
  unfold aLand
  split
  · exact wfr.come.2.1
  · rfl
theorem AI.land (h : AI F H T w) (hk : k < (wK w).1.length) (hB : isB (fg (wK w).1 k).2.2.2) (h9 : wT w < 900000) : AI F H T (aLand w H T F k) := by
  obtain ⟨g, s, t⟩ := h
  obtain ⟨G, g1⟩ := g.1
  have c4 := g1.1.2.2.2.1
  have sx := s (fg (wK w).1 k) (fg_in hk)
  have a0 : AI F H T (sK w (skE (wK w) k)) := ⟨⟨⟨G, g1.land k⟩, g.2⟩, fun x hx => s x ((List.eraseIdx_sublist (wK w).1 k).subset hx), t⟩
  unfold aLand
  split
  · rename_i c
    have gx : ∀ t tk, skX H T G ((fg (wK w).1 k).1, t, tk, (fg (wK w).1 k).2.2.2) := fun t tk => g1.2.2 (fg (wK w).1 k) (fg_in hk)
    refine a0.node c.1 c4 (GK.come (g1.land k) g.2 c.1 sx.1 gx hB) wfr.come (kfr.come sx.1) ?_
    have t0 := a0.2.2 _ c.1
    have u0 : wN (sK w (skE (wK w) k)) (fg (wK w).1 k).2.1 0 = 1 := c.2
    have n9 : wT (sK w (skE (wK w) k)) < 900000 := h9
    have gt : wf T (fg (wK w).1 k).2.2.2 → GK F H T (aGot (sK w (skE (wK w) k)) (fg (wK w).1 k).2.1 T (fg (wK w).1 k).1 (fg (wK w).1 k).2.2.2) := fun z => GK.got (g1.land k) g.2 c.1 sx.1 gx z hB
    have tc := tfr.come (F := F) (H := H) gt c.1
    generalize sK w (skE (wK w) k) = u at t0 u0 n9 tc ⊢
    exact t0.tfr tc u0 (Int.le_refl _) n9
  · exact a0
theorem GK.tk1 {t : Nat} {x : Nat × Wd} (g : GK F H T x.2) (hn : n < H) (ht : t < 3) : GK F H T (aTk1 T F n x t).2 ∧ wfr n x.2 (aTk1 T F n x t).2 ∧ kfr n T x.2 (aTk1 T F n x t).2 := by
  unfold aTk1
  split
  · have g2 := g.off (k := 9 + t) hn (by omega)
    refine ⟨(g2.end_ hn).1.rules hn, ((wfr.N (by omega)).trans wfr.end_).trans wfr.rules, ?_⟩
    exact ((kfr.same rfl : kfr n T x.2 (sN x.2 n (9 + t) (-1))).trans rfl kfr.end_).trans wfr.end_.2.1 kfr.rules
  · exact ⟨g, wfr.refl, kfr.refl⟩
/-- timers that are through, and timers that are not -/
def tmJ (j : Nat) (w : Wd) (n : Nat) : Prop := ∀ k, 9 ≤ k ∧ k ≤ 11 → wN w n k = -1 ∨ (wN w n 0 = 1 ∧ (if k < 9 + j then (wT w : Int) else wT w - 1) < wN w n k ∧ wN w n k < 1000000)
theorem tmJ.tfr {j : Nat} {w' : Wd} (h : tmJ j w n) (f : tfr n w w') (e : wT w' = wT w) (u : wN w n 0 = 1) (h9 : wT w < 900000) : tmJ j w' n := fun k hk => by
  rcases f k hk with a | ⟨a, b | ⟨r, r1, r2⟩⟩
  · exact Or.inl a
  · rw [b, a, e]
    exact h k hk
  · refine Or.inr ⟨by rw [a]; exact u, ?_, by omega⟩
    rw [e]
    split <;> omega
theorem tmJ.tk1 {t : Nat} {x : Nat × Wd} (h : tmJ t x.2 n) (g : GK F H T x.2) (hn : n < H) (ht : t < 3) (h9 : wT x.2 < 900000) : tmJ (t + 1) (aTk1 T F n x t).2 n := by
  unfold aTk1
  have old : ∀ w' : Wd, wT w' = wT x.2 → tmJ t w' n → (wN w' n (9 + t) = -1 ∨ (wT x.2 : Int) < wN w' n (9 + t)) → tmJ (t + 1) w' n := fun w' e a b k hk => by
    rcases a k hk with c | ⟨c1, c2, c3⟩
    · exact Or.inl c
    · refine Or.inr ⟨c1, ?_, c3⟩
      rw [e] at c2 ⊢
      by_cases d : k = 9 + t
      · rw [d] at c2 c3 ⊢
        rw [if_pos (by omega)]
        rcases b with b | b
        · rw [b] at c2
          rw [if_neg (by omega)] at c2
          omega
        · exact b
      · by_cases d2 : k < 9 + t
        · rw [if_pos d2] at c2
          rw [if_pos (by omega)]
          exact c2
        · rw [if_neg d2] at c2
          rw [if_neg (by omega)]
          exact c2
  split
  · rename_i c
    have g2 := g.off (k := 9 + t) hn (by omega)
    have fe := wfr.end_ (w := sN x.2 n (9 + t) (-1)) (n := n) (T := T) (t := t)
    have u1 : wN (sN x.2 n (9 + t) (-1)) n 0 = 1 := by rw [N_o _ _ _ _ (Or.inr (by omega))]; exact c.1
    -- this timer is off, then from now on only set later
    have s1 : tmJ (t + 1) (sN x.2 n (9 + t) (-1)) n := old _ rfl (h.tfr (tfr.off (by omega)) rfl c.1 h9) (Or.inl (N_s _ _ _ _))
    have s2 : tmJ (t + 1) (aEnd (sN x.2 n (9 + t) (-1)) n T t) n := s1.tfr (g2.end_ hn).2 fe.2.1 u1 h9
    by_cases up : wN (aEnd (sN x.2 n (9 + t) (-1)) n T t) n 0 = 1
    · exact s2.tfr (tfr.rules (g2.end_ hn).1 hn) wfr.rules.2.1 up (by rw [fe.2.1]; exact h9)
    · have : aRules (aEnd (sN x.2 n (9 + t) (-1)) n T t) n T F = aEnd (sN x.2 n (9 + t) (-1)) n T t := by
        unfold aRules
        rw [decide_eq_false up, aRuns_no]
      show tmJ (t + 1) (aRules (aEnd (sN x.2 n (9 + t) (-1)) n T t) n T F) n
      rw [this]
      exact s2
  · rename_i c
    refine old x.2 rfl h ?_
    rcases h (9 + t) (by omega) with a | ⟨a1, a2, a3⟩
    · exact Or.inl a
    · refine Or.inr ?_
      by_cases d : (wT x.2 : Int) < wN x.2 n (9 + t)
      · exact d
      · exact absurd ⟨a1, by rw [if_neg (by omega)] at a2; omega, by omega⟩ c
theorem AI.tick (h : AI F H T w) (h9 : wT w + 1 < 900000) : AI F H T (aTick w H T F).2 ∧ wT (aTick w H T F).2 = wT w + 1 := by
  obtain ⟨g, s, t⟩ := h
  have c4 := (g.1.choose_spec).1.2.2.2.1
  have three : ∀ n x, n < H → GK F H T x.2 → tmJ 0 x.2 n → wT x.2 < 900000 → ∀ j, j ≤ 3 → GK F H T (aTk3 T F n x j).2 ∧ wfr n x.2 (aTk3 T F n x j).2 ∧ kfr n T x.2 (aTk3 T F n x j).2 ∧ tmJ j (aTk3 T F n x j).2 n := by
    intro n x hn gx tx h9 j
    induction j with
    | zero => intro _; exact ⟨gx, wfr.refl, kfr.refl, tx⟩
    | succ j ih =>
      intro hj
      obtain ⟨a1, a2, a3, a4⟩ := ih (by omega)
      obtain ⟨b1, b2, b3⟩ := a1.tk1 (t := j) hn (by omega)
      exact ⟨b1, a2.trans b2, a3.trans a2.2.1 b3, a4.tk1 a1 hn (by omega) (by rw [a2.2.1]; exact h9)⟩
  have all : ∀ j, j ≤ H → GK F H T (aTkN T F (0, sT w (wT w + 1)) j).2 ∧ wT (aTkN T F (0, sT w (wT w + 1)) j).2 = wT w + 1 ∧ skT T (aTkN T F (0, sT w (wT w + 1)) j).2 ∧ (∀ m, m < j → tmO (wT w + 1) (aTkN T F (0, sT w (wT w + 1)) j).2 m) ∧ ∀ m, j ≤ m → m < H → tmO (wT w) (aTkN T F (0, sT w (wT w + 1)) j).2 m := by
    intro j
    induction j with
    | zero =>
      intro _
      refine ⟨g, rfl, fun x hx => ?_, fun m hm => absurd hm (by omega), fun m _ hm => t m hm⟩
      obtain ⟨a, b, c⟩ := s x hx
      exact ⟨a, b, by show x.2.2.1 ≤ wT w + 1; omega⟩
    | succ j ih =>
      intro hj
      obtain ⟨a1, a2, a3, a4, a5⟩ := ih (by omega)
      have tj : tmJ 0 (aTkN T F (0, sT w (wT w + 1)) j).2 j := fun k hk => by
        rcases a5 j (Nat.le_refl _) (by omega) k hk with c | ⟨c1, c2, c3⟩
        · exact Or.inl c
        · refine Or.inr ⟨c1, ?_, c3⟩
          rw [if_neg (by omega), a2]
          omega
      obtain ⟨b1, b2, b3, b4⟩ := three j _ (by omega) a1 tj (by rw [a2]; exact h9) 3 (Nat.le_refl _)
      show GK F H T (aTk3 T F j (aTkN T F (0, sT w (wT w + 1)) j) 3).2 ∧ wT (aTk3 T F j (aTkN T F (0, sT w (wT w + 1)) j) 3).2 = wT w + 1 ∧ skT T (aTk3 T F j (aTkN T F (0, sT w (wT w + 1)) j) 3).2 ∧ (∀ m, m < j + 1 → tmO (wT w + 1) (aTk3 T F j (aTkN T F (0, sT w (wT w + 1)) j) 3).2 m) ∧ ∀ m, j + 1 ≤ m → m < H → tmO (wT w) (aTk3 T F j (aTkN T F (0, sT w (wT w + 1)) j) 3).2 m
      refine ⟨b1, b2.2.1.trans a2, a3.kfr b3 (by omega) b2.2.1, fun m hm => ?_, fun m hm hm2 => (a5 m (by omega) hm2).wfr b2 (by omega)⟩
      by_cases c : m = j
      · rw [c]
        intro k hk
        rcases b4 k hk with d | ⟨d1, d2, d3⟩
        · exact Or.inl d
        · refine Or.inr ⟨d1, ?_, d3⟩
          rw [if_pos (by omega), b2.2.1, a2] at d2
          omega
      · exact (a4 m (by omega)).wfr b2 c
  obtain ⟨a1, a2, a3, a4, a5⟩ := all H (Nat.le_refl _)
  exact ⟨⟨a1, a3, fun n hn => by
    show tmO (wT (aTkN T F (0, sT w (wT w + 1)) H).2) _ n
    rw [a2]
    exact a4 n hn⟩, a2⟩
theorem rRp.fB (h : rRp F H T S w) (hk : k < (wK w).1.length) : isB (fg (wK w).1 k).2.2.2 := by
  obtain ⟨⟨ta, t1, t2, t3, t4, t5, t6, t7, t8⟩, _⟩ := h.sk
  exact (t8 k hk).2.2.2.2.2.2.2.2.2.2
theorem aCl1_le {d : Nat} : ∀ f x, x.1 ≤ 5000 → (aCl1 H T F d f x).1 ≤ 5000
  | 0, x, h => h
  | f + 1, x, h => by
    unfold aCl1
    split
    · exact aCl1_le f _ (by show x.1 + 1 ≤ 5000; omega)
    · exact h
theorem aCl1_T {d : Nat} : ∀ f x, wT (aCl1 H T F d f x).2 = wT x.2
  | 0, x => rfl
  | f + 1, x => by
    unfold aCl1
    split
    · rw [aCl1_T f _]; exact wT_land
    · rfl
theorem calm_34 {n d c : Nat} (hN : 6000 ≤ N) (hd : d < 100) {P : Wd → Prop} (pl : ∀ w, AI F H T w → P w → 0 < (wK w).1.length → isB (fg (wK w).1 0).2.2.2 → wT w < 900000 → P (aLand w H T F 0)) : ∀ (f q : Nat) (x : Nat × Wd) (S : rS), rRp F H T S x.2 → (AI F H T x.2 ∧ P x.2) → 5000 ≤ x.1 + f → x.1 ≤ 5000 → f < q → wp (OL_calm_34 N q (nI n) (nI d) (nI x.1) (nI c) S) (L_calm_34 N q (nI n) (nI d) (nI x.1) (nI c) S) (fun z => z = (0, nI n, nI d, nI (aCl1 H T F d f x).1, nI c, z.2.2.2.2.2) ∧ rRp F H T z.2.2.2.2.2 (aCl1 H T F d f x).2 ∧ (AI F H T (aCl1 H T F d f x).2 ∧ P (aCl1 H T F d f x).2))
  | f, 0, x, S, _, _, _, _, hq => absurd hq (by omega)
  | 0, q + 1, x, S, h, a, hx, hx2, hq => by
    unfold OL_calm_34 L_calm_34 OB_calm_34 B_calm_34
    refine wp_pos (by rw [n_le' (by omega) (by omega)]; omega) ?_
    exact wp_fin trivial ⟨rfl, h, a⟩
  | f + 1, q + 1, x, S, h, a, hx, hx2, hq => by
    obtain ⟨⟨ta, t1, t2, t3, t4, t5, t6, t7, t8⟩, _⟩ := h.sk
    have h9 := h.co.2.2.2.2.2.2.1
    unfold OL_calm_34 L_calm_34 OB_calm_34 B_calm_34 aCl1
    have stop : ¬ (x.1 < 5000 ∧ 0 < (wK x.2).1.length ∧ (fg (wK x.2).1 0).2.2.1 + d ≤ wT x.2) → (fun z : Nat × Int32 × Int32 × Int32 × Int32 × rS => z = (0, nI n, nI d, nI (if x.1 < 5000 ∧ 0 < (wK x.2).1.length ∧ (fg (wK x.2).1 0).2.2.1 + d ≤ wT x.2 then aCl1 H T F d f (x.1 + 1, aLand x.2 H T F 0) else x).1, nI c, z.2.2.2.2.2) ∧ rRp F H T z.2.2.2.2.2 (if x.1 < 5000 ∧ 0 < (wK x.2).1.length ∧ (fg (wK x.2).1 0).2.2.1 + d ≤ wT x.2 then aCl1 H T F d f (x.1 + 1, aLand x.2 H T F 0) else x).2 ∧ (AI F H T (if x.1 < 5000 ∧ 0 < (wK x.2).1.length ∧ (fg (wK x.2).1 0).2.2.1 + d ≤ wT x.2 then aCl1 H T F d f (x.1 + 1, aLand x.2 H T F 0) else x).2 ∧ P (if x.1 < 5000 ∧ 0 < (wK x.2).1.length ∧ (fg (wK x.2).1 0).2.2.1 + d ≤ wT x.2 then aCl1 H T F d f (x.1 + 1, aLand x.2 H T F 0) else x).2)) (0, nI n, nI d, nI x.1, nI c, S) := fun z => by
      rw [if_neg z]
      exact ⟨rfl, h, a⟩
    refine wp_ite (fun c1 => ?_) (fun c1 => ?_) <;> rw [n_le' (by omega) (by omega)] at c1
    · exact wp_fin trivial (stop (fun z => by omega))
    rw [t1]
    refine wp_ite (fun c2 => ?_) (fun c2 => ?_) <;> rw [n_le0 (by omega)] at c2
    · exact wp_fin trivial (stop (fun z => by omega))
    have k0 : 0 < (wK x.2).1.length := by omega
    have sl := t6 0 (by omega)
    obtain ⟨y1, y2, y3, y4, y5, y6⟩ := t8 0 k0
    have tb := y6.2.2.1
    have e24 : S.2.1 24 (nI 0).toNatClampNeg = nI (ta 0) := t4 0 k0
    rw [e24, n_clamp (by omega), y4, h.co.2.2.2.2.2.1]
    refine wp_and ((n_in (by omega)).2 (by omega)) (wp_and ((n_in (by omega)).2 (by omega)) (wp_ite (fun c3 => ?_) (fun c3 => ?_))) <;> rw [← iI_n, ← iI_n, ← iI_n, iI_sub, iI_lt (by omega) (by omega) (by omega) (by omega)] at c3
    · exact wp_fin trivial (stop (fun z => by omega))
    rw [if_pos (show x.1 < 5000 ∧ 0 < (wK x.2).1.length ∧ (fg (wK x.2).1 0).2.2.1 + d ≤ wT x.2 from ⟨by omega, k0, by omega⟩)]
    refine wp_call (deliver_ok (x := nI 0) hN h a.1.1 a.1.2.1) (fun z => ?_)
    unfold O_calm_73 F_calm_73
    rcases z with ⟨k, k1, k2, k3, k4⟩ | ⟨k1, _⟩
    · have : 0 = k := (n_eq' (by omega) (by omega)).1 k2
      subst this
      rw [n_add]
      exact calm_34 hN hd pl f q (x.1 + 1, aLand x.2 H T F 0) _ k3 ⟨a.1.land k0 (h.fB k0) h9, pl _ a.1 a.2 k0 (h.fB k0) h9⟩ (by show 5000 ≤ x.1 + 1 + f; omega) (by show x.1 + 1 ≤ 5000; omega) (by omega)
    · exact absurd ⟨0, k0, rfl⟩ k1
theorem aCl_T {d : Nat} (h : AI F H T w) (h9 : wT w + 64 < 900000) (go : ∀ f x, AI F H T x.2 → AI F H T (aCl1 H T F d f x).2) : ∀ k, k ≤ 64 → AI F H T (aCl H T F d w k).2 ∧ wT (aCl H T F d w k).2 = wT w + k ∧ (aCl H T F d w k).1 ≤ 5000
  | 0, _ => ⟨h, rfl, by show 0 ≤ 5000; omega⟩
  | k + 1, hk => by
    obtain ⟨a, b, c⟩ := aCl_T h h9 go k (by omega)
    have a1 := go 5000 _ a
    have t1 := aCl1_T (H := H) (T := T) (F := F) (d := d) 5000 (aCl H T F d w k)
    obtain ⟨a2, t2⟩ := a1.tick (by rw [t1, b]; omega)
    refine ⟨a2, ?_, aCl1_le 5000 _ c⟩
    show wT (aTick (aCl1 H T F d 5000 (aCl H T F d w k)).2 H T F).2 = _
    rw [t2, t1, b]
    omega
theorem calm_ok {x y : Int32} (hN : 6000 ≤ N) (h : rRp F H T S w) (a : AI F H T w) {P : Wd → Prop} (pl : ∀ w, AI F H T w → P w → 0 < (wK w).1.length → isB (fg (wK w).1 0).2.2.2 → wT w < 900000 → P (aLand w H T F 0)) (pt : ∀ w, AI F H T w → P w → wT w + 1 < 900000 → P (aTick w H T F).2) (p : P w) (h9 : wT w + 64 < 900000) : wp (o_calm N S x y) (f_calm N S x y) (fun z => (∃ n d, 1 ≤ n ∧ n ≤ 64 ∧ d ≤ 9 ∧ x = nI n ∧ y = nI d ∧ rRp F H T z.2 (aCl H T F d w n).2 ∧ z.1 = nI (aCl H T F d w n).1 ∧ (AI F H T (aCl H T F d w n).2 ∧ P (aCl H T F d w n).2) ∧ wT (aCl H T F d w n).2 ≤ wT w + 64) ∨ ((¬ ∃ n d, 1 ≤ n ∧ n ≤ 64 ∧ d ≤ 9 ∧ x = nI n ∧ y = nI d) ∧ rRp F H T z.2 w ∧ z.1 = -1)) := by
  show wp (O_calm_0 N x y S) (F_calm_0 N x y S) _
  unfold O_calm_0 F_calm_0
  have no : (¬ ∃ n d, 1 ≤ n ∧ n ≤ 64 ∧ d ≤ 9 ∧ x = nI n ∧ y = nI d) → wp (O_calm_21 N S) (F_calm_21 N S) (fun z => (∃ n d, 1 ≤ n ∧ n ≤ 64 ∧ d ≤ 9 ∧ x = nI n ∧ y = nI d ∧ rRp F H T z.2 (aCl H T F d w n).2 ∧ z.1 = nI (aCl H T F d w n).1 ∧ (AI F H T (aCl H T F d w n).2 ∧ P (aCl H T F d w n).2) ∧ wT (aCl H T F d w n).2 ≤ wT w + 64) ∨ ((¬ ∃ n d, 1 ≤ n ∧ n ≤ 64 ∧ d ≤ 9 ∧ x = nI n ∧ y = nI d) ∧ rRp F H T z.2 w ∧ z.1 = -1)) := fun g => by
    unfold O_calm_21 F_calm_21
    exact wp_fin trivial (Or.inr ⟨g, h, rfl⟩)
  refine wp_ite (fun c => ?_) (fun c => ?_)
  · refine no ?_
    rintro ⟨n, d, n1, n2, d1, e1, e2⟩
    rw [e1, n_lt' (by omega) (by omega)] at c
    omega
  have c' : ¬ x < 0 := fun z => c (by
    rw [Int32.lt_iff_toInt_lt] at z ⊢
    have : (0 : Int32).toInt = 0 := rfl
    have : (nI 1).toInt = 1 := rfl
    omega)
  obtain ⟨n, n1, n2⟩ := i_nat c'
  rw [n2, n_lt' n1 (by omega)] at c
  refine wp_ite (fun c2 => ?_) (fun c2 => ?_) <;> rw [n2, n_lt' (by omega) n1] at c2
  · refine no ?_
    rintro ⟨n', d, a1, a2, d1, e1, e2⟩
    rw [n2, n_eq' n1 (by omega)] at e1
    omega
  refine wp_ite (fun c3 => ?_) (fun c3 => ?_)
  · refine no ?_
    rintro ⟨n', d, a1, a2, d1, e1, e2⟩
    exact n_lt0 (show d < 2147483648 by omega) (by rw [← e2]; exact c3)
  obtain ⟨d, d1, d2⟩ := i_nat c3
  have q : y ≤ nI 9 ↔ d ≤ 9 := by rw [d2, n_le' d1 (by omega)]
  refine wp_ite (fun c4 => ?_) (fun c4 => ?_) <;> rw [q] at c4
  rotate_left
  · refine no ?_
    rintro ⟨n', d', a1, a2, a3, e1, e2⟩
    rw [d2, n_eq' d1 (by omega)] at e2
    omega
  rw [n2, d2]
  suffices L : wp (OL_calm_28 N N (nI n) (nI d) (nI (aCl H T F d w 0).1) (nI 0) S) (L_calm_28 N N (nI n) (nI d) (nI (aCl H T F d w 0).1) (nI 0) S) (fun z : Nat × Int32 × rS => z = (0, nI (aCl H T F d w n).1, z.2.2) ∧ rRp F H T z.2.2 (aCl H T F d w n).2 ∧ (AI F H T (aCl H T F d w n).2 ∧ P (aCl H T F d w n).2) ∧ wT (aCl H T F d w n).2 ≤ wT w + 64) by
    refine wp_seq L ?_
    rintro z ⟨z0, z1, z2, z3⟩
    rw [z0]
    generalize z.2.2 = S1 at z1 ⊢
    show wp (O_calm_92 N (nI (aCl H T F d w n).1) S1) (F_calm_92 N (nI (aCl H T F d w n).1) S1) _
    unfold O_calm_92 F_calm_92
    exact wp_fin trivial (Or.inl ⟨n, d, (by omega), (by omega), c4, rfl, rfl, z1, rfl, z2, z3⟩)
  refine wp_loop (K := n) (fun j (y : rS) => rRp F H T y (aCl H T F d w j).2 ∧ (AI F H T (aCl H T F d w j).2 ∧ P (aCl H T F d w j).2) ∧ wT (aCl H T F d w j).2 = wT w + j ∧ (aCl H T F d w j).1 ≤ 5000) (fun q j y => OL_calm_28 N q (nI n) (nI d) (nI (aCl H T F d w j).1) (nI j) y) (fun q j y => L_calm_28 N q (nI n) (nI d) (nI (aCl H T F d w j).1) (nI j) y) (fun q j y hj hI ih => ?_) 0 N S (by omega) (by omega) ⟨h, ⟨a, p⟩, rfl, by show 0 ≤ 5000; omega⟩
  obtain ⟨R, A, tt, dn⟩ := hI
  unfold OL_calm_28 L_calm_28 OB_calm_28 B_calm_28
  by_cases e : j = n
  · refine wp_pos (by rw [n_le' (by omega) (by omega)]; omega) ?_
    rw [e] at R A tt ⊢
    exact wp_fin trivial ⟨rfl, R, A, (by omega)⟩
  refine wp_neg (by rw [n_le' (by omega) (by omega)]; omega) (wp_seq (calm_34 (c := j) (n := n) hN (by omega) pl 5000 N (aCl H T F d w j) y R A (by omega) dn (by omega)) ?_)
  rintro z ⟨z0, z1, z2⟩
  rw [z0]
  have t1 := aCl1_T (H := H) (T := T) (F := F) (d := d) 5000 (aCl H T F d w j)
  have l1 := aCl1_le (H := H) (T := T) (F := F) (d := d) 5000 (aCl H T F d w j) dn
  generalize z.2.2.2.2.2 = S1 at z1 ⊢
  show wp (O_calm_81 N (OL_calm_28 N q) (nI n) (nI d) (nI (aCl1 H T F d 5000 (aCl H T F d w j)).1) (nI j) S1) (F_calm_81 N (L_calm_28 N q) (nI n) (nI d) (nI (aCl1 H T F d 5000 (aCl H T F d w j)).1) (nI j) S1) _
  unfold O_calm_81 F_calm_81
  obtain ⟨A2, t2⟩ := z2.1.tick (by rw [t1, tt]; omega)
  refine wp_call (tick_ok hN z1 z2.1.1 (fun m hm => (z2.1.2.2 m hm).mono (by omega)) (by rw [t1, tt]; omega)) (fun r => ?_)
  unfold O_calm_85 F_calm_85
  rw [n_add]
  exact ih _ ⟨r.1, ⟨A2, pt _ z2.1 z2.2 (by rw [t1, tt]; omega)⟩, by show wT (aTick (aCl1 H T F d 5000 (aCl H T F d w j)).2 H T F).2 = _; rw [t2, t1, tt]; omega, l1⟩ (by omega)
end
end
