section
/-! THE CLASS'S RULES ARE ASKED UNTIL NONE HOLDS -/
section
variable {F N g H T n : Nat} {s s0 S : cS} {ct : Nat → List Nat} {hd : List Nat} {w w' V X : Wd} {pe pe' : Nat → Int} {t f k : Nat} {G : Gh}
/-- chain and pool as they must be -/
def pz (w : Wd) (n : Nat) : Prop := chO w n ∧ nDp (wP w n)
/-- the rules keep that -/
def pzK (F H T n : Nat) : Prop := ∀ w G, GI F H T G w → giK (wN w n) → wN w n 0 = 1 → wN w n 1 ≤ 40 → pz w n → pz (aRule w n T F).2 n
/-- where the loop ends -/
def stQ (F g H T : Nat) (s0 : cS) (ct : Nat → List Nat) (hd : List Nat) (W : Wd) (pe : Nat → Int) (n : Nat) (Z : Nat × Option Nat × cS) : Prop := reC F g H T ct hd W pe Z.2.2 ∧ m6 g H n s0 Z.2.2 ∧ (∃ G, GI F H T G W) ∧ ((Z.1 = 0 ∧ cI Z.2.2 5 (nd g n + 6) = nI 0) ∨ (Z.1 = 1 ∧ Z.2.1 = some (nd g n)))
theorem stQ.c_ {ct' : Nat → List Nat} {Z : Nat × Option Nat × cS} {W : Wd} (h : stQ F g H T s0 ct' hd W pe n Z) (hc : ∀ b, b ∈ hd → ct' b = ct b) : stQ F g H T s0 ct hd W pe n Z := by
  obtain ⟨⟨c2, h1, h2⟩, h3⟩ := h
  exact ⟨⟨c2, fun b hb => (h1 b hb).trans (hc b hb), h2⟩, h3⟩
theorem aRuns_out {b : Bool} (h : ¬ (b = true ∧ wN w n 1 ≤ 40)) : ∀ k, aRuns n T F k b w = w
  | 0 => rfl
  | k + 1 => if_neg h
theorem aRuns_s (hu : wN w n 0 = 1) (h40 : wN w n 1 ≤ 40) : aRuns n T F (k + 1) (decide (wN w n 0 = 1)) w = aRuns n T F k (aRule w n T F).1 (aRule w n T F).2 := if_pos ⟨by rw [hu]; rfl, h40⟩
theorem settle_out (h : CR F g H T S ct hd w pe) (hn : n < H) (gi : GI F H T G w) (ho : wN w n 0 = 0 ∨ 40 < wN w n 1) (ht : t < 1000000) (hx : m6 g H n s0 S) : wp (KOL_X7_settle_2 N g H T (f + 1) (some (nd g n)) (nI t) S) (KL_X7_settle_2 N g H T (f + 1) (some (nd g n)) (nI t) S) (stQ F g H T s0 ct hd w pe n) := by
  have ga := (gi.2.1 n hn).a
  have g0 := ga.1
  have g1 := ga.2.1
  have e8 : cI S 8 (nd g n) = nI (wN w n 0).toNat := by
    rw [(h.node hn).1.2.1, ← iI_n, Int.toNat_of_nonneg ga.1.1]
  unfold KOL_X7_settle_2 KL_X7_settle_2 KOB_X7_settle_2 KB_X7_settle_2
  rw [zsome, e8, h.h1 hn (by omega), show (1000000 : Int32) = nI 1000000 from rfl]
  have fin : stQ F g H T s0 ct hd w pe n (1, some (nd g n), S) := ⟨h.re, hx, ⟨G, gi⟩, Or.inr ⟨rfl, rfl⟩⟩
  refine wp_neg (by rw [n_le' (by omega) (by omega)]; omega) (wp_and someN (wp_ite (fun c => ?_) (fun c => ?_))) <;> rw [n_eq0 (by omega)] at c
  · exact wp_fin trivial fin
  · exact wp_pos (by rw [n_lt' (by omega) (by omega)]; omega) (wp_fin trivial fin)
/-- one turn -/
theorem settle_turn (hN : 2100 ≤ N) (h : CR F g H T S ct hd w pe) (hn : n < H) (gi : GI F H T G w) (hu : wN w n 0 = 1) (h40 : wN w n 1 ≤ 40) (ht : t < 1000000) (hx : m6 g H n s0 S) {Q : Nat × Option Nat × cS → Prop} (nx : ∀ S1, CR F g H T S1 ct hd w pe → cI S1 5 (nd g n + 6) = nI 0 → m6 g H n s0 S1 → wp (KO_X7_settle_45 N g H T (KOL_X7_settle_2 N g H T f) (some (nd g n)) (nI t) S1) (KF_X7_settle_45 N g H T (KL_X7_settle_2 N g H T f) (some (nd g n)) (nI t) S1) Q) : wp (KOL_X7_settle_2 N g H T (f + 1) (some (nd g n)) (nI t) S) (KL_X7_settle_2 N g H T (f + 1) (some (nd g n)) (nI t) S) Q := by
  have gn := gi.2.1 n hn
  have ga := gn.a
  have g0 := ga.1
  have g1 := ga.2.1
  have e8 : cI S 8 (nd g n) = nI 1 := by
    rw [(h.node hn).1.2.1, hu]
    rfl
  unfold KOL_X7_settle_2 KL_X7_settle_2 KOB_X7_settle_2 KB_X7_settle_2
  rw [zsome, e8, h.h1 hn (by omega), show (1000000 : Int32) = nI 1000000 from rfl]
  refine wp_neg (by rw [n_le' (by omega) (by omega)]; omega) (wp_and someN (wp_neg (show ¬ nI 1 = 0 by decide) (wp_neg (by rw [n_lt' (by omega) (by omega)]; omega) (wp_call (refresh_C hN h hn gn.b.1) (fun q => ?_)))))
  exact nx _ q.1 q.2.1 (hx.trans q.2.2.1)
theorem settle_l (hN : 2100 ≤ N) (hn : n < H) (hl : hd.length ≤ 25) (hp : pe n = -1) (hz : pzK F H T n) : ∀ (mu : Nat) (w : Wd) (S : cS) (ct : Nat → List Nat) (t f k : Nat) (G : Gh), CR F g H T S ct hd w pe → GI F H T G w → giK (wN w n) → pz w n → muW w n < mu → mu ≤ k → 2 * mu + 2 ≤ f → t + 2 * mu + 2 ≤ 1000000 → m6 g H n s0 S → wp (KOL_X7_settle_2 N g H T f (some (nd g n)) (nI t) S) (KL_X7_settle_2 N g H T f (some (nd g n)) (nI t) S) (stQ F g H T s0 ct hd (aRuns n T F k (decide (wN w n 0 = 1)) w) pe n)
  | 0, w, S, ct, t, f, k, G, _, gi, _, _, hm, _, _, _, _ => absurd (gi.muB hn).1 (by show ¬ (0 : Int) ≤ muW w n; omega)
  | mu + 1, w, S, ct, t, f, k, G, h, gi, gk, hpz, hm, hk, hf, ht, hx => by
    obtain ⟨k', rfl⟩ : ∃ k', k = k' + 1 := ⟨k - 1, by omega⟩
    obtain ⟨f1, rfl⟩ : ∃ f1, f = f1 + 1 := ⟨f - 1, by omega⟩
    have ga := (gi.2.1 n hn).a
    have g0 := ga.1
    have g1 := ga.2.1
    by_cases hu : wN w n 0 = 1
    rotate_left
    · rw [aRuns_out (fun q => hu (of_decide_eq_true q.1))]
      exact settle_out h hn gi (Or.inl (by omega)) (by omega) hx
    by_cases h40 : wN w n 1 ≤ 40
    rotate_left
    · rw [aRuns_out (fun q => h40 q.2)]
      exact settle_out h hn gi (Or.inr (by omega)) (by omega) hx
    rw [aRuns_s hu h40]
    obtain ⟨⟨G', g'⟩, gk', mu'⟩ := gi.rule (F := F) gk hn h40
    have pz' := hz w G gi gk hu h40 hpz
    -- behind a rule
    have go : ∀ (S' : cS) (t' f' : Nat), reC F g H T ct hd (aRule w n T F).2 pe S' → ruU n (aRule w n T F) → m6 g H n s0 S' → 2 * mu + 2 ≤ f' → t' + 2 * mu + 2 ≤ 1000000 → wp (KOL_X7_settle_2 N g H T f' (some (nd g n)) (nI t') S') (KL_X7_settle_2 N g H T f' (some (nd g n)) (nI t') S') (stQ F g H T s0 ct hd (aRuns n T F k' (aRule w n T F).1 (aRule w n T F).2) pe n) := fun S' t' f' hr ru hx' hf' ht' => by
      obtain ⟨ct', c1, c2⟩ := hr
      rw [ru]
      by_cases up : wN (aRule w n T F).2 n 0 = 1
      · have tr : (aRule w n T F).1 = true := by
          rw [ru, up]
          rfl
        have lt := mu' tr
        exact wp_mono (settle_l hN hn hl hp hz mu _ S' ct' t' f' k' G' c2 g' gk' pz' (by omega) (by omega) hf' ht' hx') (fun q => q.c_ c1)
      · obtain ⟨f2, rfl⟩ : ∃ f2, f' = f2 + 1 := ⟨f' - 1, by omega⟩
        have gb := (g'.2.1 n hn).a.1
        rw [aRuns_out (fun q => up (of_decide_eq_true q.1))]
        exact wp_mono (settle_out c2 hn g' (Or.inl (by omega)) (by omega) hx') (fun q => q.c_ c1)
    refine settle_turn hN h hn gi hu h40 (by omega) hx (fun S1 c1 r1 x1 => ?_)
    refine st_45 (s0 := s0) (by omega) c1 hn hl gi gk hu h40 hp r1 hpz.1 hpz.2 x1 (fun S' c2 r2 x2 e => ?_) (fun S' c2 ru x2 => go S' (t + 1) f1 c2 ru x2 (by omega) (by omega)) (fun S' V r c2 be e x2 => ?_)
    · rw [e, aRuns_out (fun q => by cases q.1)]
      exact ⟨c2.re, x2, ⟨G, gi⟩, Or.inl ⟨rfl, r2⟩⟩
    · obtain ⟨⟨GV, gv⟩, gkv, uv, h4v, hr, b1, b2, b3⟩ := be
      obtain ⟨f2, rfl⟩ : ∃ f2, f1 = f2 + 1 := ⟨f1 - 1, by omega⟩
      refine settle_turn hN c2 hn gv uv h4v (by omega) x2 (fun S2 c3 r3 x3 => ?_)
      have pv : (fun m => if m = n then ((r : Nat) : Int) else pe m) n = (r : Int) := if_pos rfl
      have bg := begin_G (N := N) hN c3 hn hl gv gkv uv hr pv r3 b1 b2 b3
      have x5 := (k5c_X7_begin c3.2.1 (tN1 hn) bg.1).2
      have e18 : cI S2 18 (nd g n) = nI r := by
        rw [(c3.node hn).1.2.2.2.2.2.2.2.2.2, if_pos rfl, iI_n]
      have ep : (fun m => if m = n then -1 else if m = n then ((r : Nat) : Int) else pe m) = pe := funext fun m => by
        by_cases q : m = n
        · rw [if_pos q, q, hp]
        · rw [if_neg q, if_neg q]
      rw [ep] at bg
      unfold KO_X7_settle_45 KF_X7_settle_45 KO_X7_settle_56 KF_X7_settle_56 KO_X7_settle_133 KF_X7_settle_133
      rw [zsome, e18, n_add]
      refine wp_and someN (wp_neg (n_lt0 (by omega)) (wp_call bg (fun q => ?_)))
      exact go _ (t + 1 + 1) f2 (by rw [e]; exact q) (by rw [e]; exact ruU_up _) (x3.trans x5.six) (by omega) (by omega)
/-- all of it -/
theorem settle_C (hN : 12000 ≤ N) (h : CR F g H T s ct hd w pe) (hn : n < H) (hl : hd.length ≤ 25) (gi : GI F H T G w) (gk : giK (wN w n)) (hp : pe n = -1) (hz : pzK F H T n) (hpz : pz w n) : wp (p_X7_settle N g H T s (some (nd g n))) (k_X7_settle N g H T s (some (nd g n))) (fun s' => reC F g H T ct hd (aRules w n T F) pe s' ∧ m6 g H n s s' ∧ cI s' 5 (nd g n + 6) = nI 0) := by
  have mb := gi.muB hn
  show wp (KO_X7_settle_0 N g H T (some (nd g n)) s) (KF_X7_settle_0 N g H T (some (nd g n)) s) _
  unfold KO_X7_settle_0 KF_X7_settle_0
  refine wp_seq (settle_l (s0 := s) (by omega) hn hl hp hz 4000 w s ct 0 N 5000 G h gi gk hpz mb.2 (by omega) (by omega) (by omega) m6.refl) (fun Z hZ => ?_)
  unfold KOA_X7_settle_2 KA_X7_settle_2
  obtain ⟨hr, hx, ⟨G', g'⟩, q⟩ := hZ
  rcases q with ⟨z1, z2⟩ | ⟨z1, z2⟩
  · rw [if_pos z1, if_pos z1]
    unfold KO_X7_settle_132 KF_X7_settle_132
    exact wp_fin trivial ⟨hr, hx, z2⟩
  · have n0 : ¬ Z.1 = 0 := by omega
    obtain ⟨ct', c1, c2⟩ := hr
    rw [if_neg n0, if_neg n0, z2]
    unfold KO_X7_settle_139 KF_X7_settle_139
    rw [zsome]
    have rf := refresh_C (N := N) (by omega) c2 hn (g'.2.1 n hn).b.1
    exact wp_and someN (wp_fin ⟨rf.1, trivial⟩ ⟨⟨ct', c1, rf.2.1⟩, hx.trans rf.2.2.2.1, rf.2.2.1⟩)
end
end
