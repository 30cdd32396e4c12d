section
/-! RULES AT REST: what the class does not ask again -/
section
variable {F N g H T n k : Nat} {w w' V W : Wd} {G : Gh} {m : List Nat}
/-- what the rules read of a node -/
def qtR (w W : Wd) (n : Nat) : Prop := (∀ k, k < 9 ∨ 32 ≤ k → wN W n k = wN w n k) ∧ ∀ f, f ≠ 2 → wY W n f = wY w n f
theorem qtN.r (h : qtN w W n) : qtR w W n := ⟨fun k _ => by rw [h.1], h.2⟩
theorem qtR.trans (h : qtR w V n) (h' : qtR V W n) : qtR w W n := ⟨fun k hk => (h'.1 k hk).trans (h.1 k hk), fun f hf => (h'.2 f hf).trans (h.2 f hf)⟩
theorem wfr.qt (h : wfr n w W) (hk : k ≠ n) : qtR w W k := ⟨fun j _ => by rw [(h.1 k hk).1], fun f _ => by rw [(h.1 k hk).2.1]⟩
abbrev r8c (w : Wd) (n T F : Nat) : Prop := wN w n 8 = 0 ∧ 2 * F + 1 ≤ cRd w n 1 (wN w n 2).toNat 0 [] T
abbrev r4c (w : Wd) (n T F : Nat) : Prop := wN w n 3 = 1 ∧ wN w n 7 = 0 ∧ 2 * F + 1 ≤ cRd w n 0 (wN w n 2).toNat 0 [] T
abbrev r3c (w : Wd) (n T F : Nat) : Prop := wN w n 3 = 1 ∧ 2 * F + 1 ≤ cRd w n 0 (wN w n 2).toNat 1 [] T
abbrev r5c (w : Wd) (n T F : Nat) (m : List Nat) : Prop := wN w n 6 = 0 ∧ 2 * F + 1 ≤ cRd w n 0 (wN w n 2).toNat 2 (idB (m.drop 6)) T ∧ aVal w n (some (m.drop 6))
abbrev r1c (w : Wd) (n T F r : Nat) : Prop := (wN w n 2).toNat < r ∧ F < ahC w n T r T
/-- no rule holds -/
def nowt (w : Wd) (n T F : Nat) : Prop := lst (snF w n T F) T = none ∧ lst (deS w n T F) T = none ∧ lst (deH w n T F) 16 = none ∧ hst (r1c w n T F) 16 = none ∧ (wN w n 3 = 0 → ∀ m, hdR w n = some m → ¬ maV w n T F m) ∧ (wN w n 3 ≠ 0 → (∀ m, hdR w n = some m → ¬ r5c w n T F m) ∧ ¬ r3c w n T F ∧ ¬ r4c w n T F) ∧ ¬ r8c w n T F
theorem cV_q (h : wY W n 5 = wY w n 5) {c p r : Nat} {P : List Nat → Prop} [DecidablePred P] : ∀ t, cV W n c p r P t = cV w n c p r P t
  | 0 => rfl
  | t + 1 => by
    unfold cV
    rw [cV_q h t, h]
theorem cRd_q (h : qtR w W n) {c r s : Nat} {d : List Nat} : cRd W n c r s d T = cRd w n c r s d T := by
  unfold cRd cW
  rw [h.1 1 (by decide)]
  exact @cV_q n w W (h.2 5 (by decide)) c _ r (srt s d) (fun _ => Classical.propDecidable _) T
theorem snC_q (h : qtR w W n) : ∀ t, snC W n m t = snC w n m t
  | 0 => rfl
  | t + 1 => by
    unfold snC
    rw [snC_q h t, h.2 3 (by decide)]
theorem snF_q (h : qtR w W n) : snF W n T F = snF w n T F := funext fun s => by
  unfold snF
  rw [h.2 3 (by decide), h.1 1 (by decide)]
  exact propext ⟨fun ⟨m, q⟩ => ⟨m, by rw [← snC_q h T]; exact q⟩, fun ⟨m, q⟩ => ⟨m, by rw [snC_q h T]; exact q⟩⟩
theorem aVal_q (h : qtR w W n) {o : Option (List Nat)} : aVal W n o = aVal w n o := by
  unfold aVal
  rw [h.2 9 (by decide), h.1 1 (by decide), show bkN (wN W) n = bkN (wN w) n from funext fun i => h.1 (32 + i) (by omega)]
theorem saC_q (h : qtR w W n) {d : List Nat} : ∀ t, saC W n d t = saC w n d t
  | 0 => rfl
  | t + 1 => by
    unfold saC
    rw [saC_q h t, h.2 6 (by decide)]
theorem deS_q (h : qtR w W n) : deS W n T F = deS w n T F := funext fun s => by
  unfold deS
  rw [h.2 6 (by decide)]
  exact propext ⟨fun ⟨m, q⟩ => ⟨m, by rw [← saC_q h T, ← aVal_q h]; exact q⟩, fun ⟨m, q⟩ => ⟨m, by rw [saC_q h T, aVal_q h]; exact q⟩⟩
theorem deH_q (h : qtR w W n) : deH W n T F = deH w n T F := funext fun r => by
  unfold deH
  have e : ∀ d, cW W n 1 ((wN W n 1).toNat % 2) r 2 d T = cW w n 1 ((wN w n 1).toNat % 2) r 2 d T := fun d => cRd_q h
  refine propext ⟨fun ⟨m, q⟩ => ⟨m, ?_⟩, fun ⟨m, q⟩ => ⟨m, ?_⟩⟩
  · rw [← e, ← aVal_q h, ← h.1 1 (by decide), ← h.2 4 (by decide)]
    exact q
  · rw [e, aVal_q h, h.1 1 (by decide), h.2 4 (by decide)]
    exact q
theorem ahP_q (h : qtR w W n) {r t : Nat} : ahP W n T r t = ahP w n T r t := by
  unfold ahP
  rw [h.1 1 (by decide), h.2 4 (by decide), h.2 5 (by decide)]
theorem ahC_q (h : qtR w W n) {r : Nat} : ∀ t, ahC W n T r t = ahC w n T r t
  | 0 => rfl
  | t + 1 => by
    unfold ahC
    rw [ahC_q h t, ahP_q h]
theorem nowt_q (h : qtR w W n) (q : nowt w n T F) : nowt W n T F := by
  have e2 := h.1 2 (by decide)
  have e3 := h.1 3 (by decide)
  have e1 : r1c W n T F = r1c w n T F := funext fun r => by
    unfold r1c
    rw [e2, ahC_q h T]
  have eh : hdR W n = hdR w n := by
    unfold hdR
    rw [h.1 1 (by decide), e2, h.2 4 (by decide)]
  have em : ∀ m, maV W n T F m = maV w n T F m := fun m => by
    unfold maV
    rw [e2, cRd_q h]
  have e5 : ∀ m, r5c W n T F m = r5c w n T F m := fun m => by
    unfold r5c
    rw [e2, cRd_q h, aVal_q h, h.1 6 (by decide)]
  have e33 : r3c W n T F = r3c w n T F := by
    unfold r3c
    rw [e2, e3, cRd_q h]
  have e44 : r4c W n T F = r4c w n T F := by
    unfold r4c
    rw [e2, e3, cRd_q h, h.1 7 (by decide)]
  have e88 : r8c W n T F = r8c w n T F := by
    unfold r8c
    rw [e2, cRd_q h, h.1 8 (by decide)]
  obtain ⟨q1, q2, q3, q4, q5, q6, q7⟩ := q
  refine ⟨by rw [snF_q h]; exact q1, by rw [deS_q h]; exact q2, by rw [deH_q h]; exact q3, by rw [e1]; exact q4, fun z m hm => ?_, fun z => ⟨fun m hm => ?_, ?_, ?_⟩, by rw [e88]; exact q7⟩
  · rw [em]
    exact q5 (by rw [← e3]; exact z) m (by rw [← eh]; exact hm)
  · rw [e5]
    exact (q6 (by rw [← e3]; exact z)).1 m (by rw [← eh]; exact hm)
  · rw [e33]
    exact (q6 (by rw [← e3]; exact z)).2.1
  · rw [e44]
    exact (q6 (by rw [← e3]; exact z)).2.2
theorem nowt_8 (h : ¬ r8c w n T F) : aR8 w n T F = (false, w) := by
  unfold aR8
  exact if_neg h
theorem nowt_4 (h4 : ¬ r4c w n T F) (h8 : ¬ r8c w n T F) : aR4 w n T F = (false, w) := by
  unfold aR4
  rw [cif_neg h4]
  exact nowt_8 h8
theorem nowt_3 (h3 : ¬ r3c w n T F) (h4 : ¬ r4c w n T F) (h8 : ¬ r8c w n T F) : aR3 w n T F = (false, w) := by
  unfold aR3
  rw [cif_neg h3]
  exact nowt_4 h4 h8
/-- then none acts -/
theorem nowt.out (h : nowt w n T F) : aRule w n T F = (false, w) := by
  obtain ⟨q1, q2, q3, q4, q5, q6, q7⟩ := h
  unfold aRule aR0 aR1 aR2
  rw [q1]
  dsimp only
  rw [q2]
  dsimp only
  rw [q3]
  dsimp only
  rw [show hst (fun r => (wN w n 2).toNat < r ∧ F < ahC w n T r T) 16 = none from q4]
  dsimp only
  by_cases c : wN w n 3 = 0
  · rw [if_pos c]
    have q5 := q5 c
    cases e : hdR w n with
    | none => exact nowt_8 q7
    | some m =>
      dsimp only
      rw [cif_neg (q5 m e)]
      exact nowt_8 q7
  · rw [if_neg c]
    obtain ⟨q5, q6, q8⟩ := q6 c
    cases e : hdR w n with
    | none => exact nowt_3 q6 q8 q7
    | some m =>
      dsimp only
      rw [cif_neg (q5 m e)]
      exact nowt_3 q6 q8 q7
theorem no_act {x : Bool × Wd} {P : Prop} (r : ruU n x) (h : x.1 = false) (u : wN x.2 n 0 = 1) : P := by
  rw [r, u] at h
  cases h
theorem now_8 (hu : wN w n 0 = 1) (h : (aR8 w n T F).1 = false) : ¬ r8c w n T F := fun c => by
  unfold aR8 at h
  rw [if_pos c] at h
  cases h
theorem now_4 (hu : wN w n 0 = 1) (h : (aR4 w n T F).1 = false) : ¬ r4c w n T F ∧ ¬ r8c w n T F := by
  unfold aR4 at h
  by_cases c : r4c w n T F
  · rw [cif_pos c] at h
    cases h
  · rw [cif_neg c] at h
    exact ⟨c, now_8 hu h⟩
theorem now_3 (hu : wN w n 0 = 1) (h : (aR3 w n T F).1 = false) (u : wN (aR3 w n T F).2 n 0 = 1) : ¬ r3c w n T F ∧ ¬ r4c w n T F ∧ ¬ r8c w n T F := by
  unfold aR3 at h u
  by_cases c : r3c w n T F
  · rw [cif_pos c] at h u
    exact no_act (ruU_vote hu) h u
  · rw [cif_neg c] at h
    exact ⟨c, now_4 hu h⟩
/-- a rule that does nothing, of a node that stays up: none holds -/
theorem nowt.of (hu : wN w n 0 = 1) (h : (aRule w n T F).1 = false) (u : wN (aRule w n T F).2 n 0 = 1) : nowt w n T F := by
  unfold aRule at h u
  cases e1 : lst (snF w n T F) T with
  | some s =>
    rw [e1] at h u
    exact no_act (ruU_up _) h u
  | none =>
    rw [e1] at h u
    dsimp only at h u
    unfold aR0 at h u
    cases e2 : lst (deS w n T F) T with
    | some s =>
      rw [e2] at h u
      exact no_act (ruU_up _) h u
    | none =>
      rw [e2] at h u
      dsimp only at h u
      cases e3 : lst (deH w n T F) 16 with
      | some s =>
        rw [e3] at h u
        exact no_act (ruU_up _) h u
      | none =>
        rw [e3] at h u
        dsimp only at h u
        unfold aR1 at h u
        cases e4 : hst (r1c w n T F) 16 with
        | some s =>
          rw [show hst (fun r => (wN w n 2).toNat < r ∧ F < ahC w n T r T) 16 = some s from e4] at h u
          exact no_act (ruU_up _) h u
        | none =>
          rw [show hst (fun r => (wN w n 2).toNat < r ∧ F < ahC w n T r T) 16 = none from e4] at h u
          dsimp only at h u
          unfold aR2 at h u
          by_cases c : wN w n 3 = 0
          · rw [if_pos c] at h u
            cases e5 : hdR w n with
            | none =>
              rw [e5] at h u
              exact ⟨e1, e2, e3, e4, (fun _ m q => by rw [e5] at q; cases q), fun q => absurd c q, now_8 hu h⟩
            | some m =>
              rw [e5] at h u
              dsimp only at h u
              by_cases c5 : maV w n T F m
              · rw [cif_pos c5] at h u
                exact no_act (ruU_pre hu) h u
              · rw [cif_neg c5] at h
                refine ⟨e1, e2, e3, e4, fun _ m' q => ?_, fun q => absurd c q, now_8 hu h⟩
                rw [e5] at q
                rw [← Option.some.inj q]
                exact c5
          · rw [if_neg c] at h u
            cases e5 : hdR w n with
            | none =>
              rw [e5] at h u
              have z := now_3 hu h u
              exact ⟨e1, e2, e3, e4, fun q => absurd q c, (fun _ => ⟨(fun m q => by rw [e5] at q; cases q), z.1, z.2.1⟩), z.2.2⟩
            | some m =>
              rw [e5] at h u
              dsimp only at h u
              by_cases c5 : r5c w n T F m
              · rw [cif_pos c5] at h u
                exact no_act (ruU_5 hu) h u
              · rw [cif_neg c5] at h u
                have z := now_3 hu h u
                refine ⟨e1, e2, e3, e4, fun q => absurd q c, fun _ => ⟨fun m' q => ?_, z.1, z.2.1⟩, z.2.2⟩
                rw [e5] at q
                rw [← Option.some.inj q]
                exact c5
/-- a node at rest -/
def rest (w : Wd) (n T F : Nat) : Prop := wN w n 0 = 1 → wN w n 1 ≤ 40 → nowt w n T F
theorem rest.q (h : rest w n T F) (q : qtR w W n) : rest W n T F := fun u h4 => nowt_q q (h (by rw [← q.1 0 (by decide)]; exact u) (by rw [← q.1 1 (by decide)]; exact h4))
theorem rest.dn (h : wN w n 0 = 0) : rest w n T F := fun u => absurd u (by omega)
theorem aRuns_0 (hn : n < H) : ∀ (k : Nat) (b : Bool) (w : Wd) (G : Gh), GI F H T G w → giK (wN w n) → muW w n < (k : Int) → (b = true → wN w n 0 = 1) → (b = false → rest w n T F) → rest (aRuns n T F k b w) n T F
  | 0, b, w, G, gi, gk, hm, h1, h0 => absurd (gi.muB hn).1 (by omega)
  | k + 1, b, w, G, gi, gk, hm, h1, h0 => by
    unfold aRuns
    by_cases c : b = true ∧ wN w n 1 ≤ 40
    · rw [if_pos c]
      have hu := h1 c.1
      obtain ⟨⟨G', g'⟩, gk', mu'⟩ := gi.rule (F := F) gk hn c.2
      cases e : (aRule w n T F).1 with
      | true =>
        have lt := mu' e
        have up : wN (aRule w n T F).2 n 0 = 1 := aRule_u e hu
        exact aRuns_0 hn k true _ G' g' gk' (by omega) (fun _ => up) (fun q => by cases q)
      | false =>
        rw [aRuns_out (fun q => by cases q.1)]
        intro u h4
        have z := nowt.of hu e u
        rw [z.out]
        exact z
    · rw [if_neg c]
      cases b with
      | true => exact fun u h4 => absurd ⟨rfl, h4⟩ c
      | false => exact h0 rfl
/-- the rules leave a node at rest, and leave a node at rest as it is -/
theorem rest_rules (hn : n < H) (gi : GI F H T G w) (gk : giK (wN w n)) : rest (aRules w n T F) n T F := by
  have mb := gi.muB hn
  refine aRuns_0 hn 5000 _ w G gi gk (by omega) (fun q => of_decide_eq_true q) (fun q u => ?_)
  exact absurd u (of_decide_eq_false q)
theorem rest.rules (h : rest w n T F) : aRules w n T F = w := by
  unfold aRules
  by_cases hu : wN w n 0 = 1
  · by_cases h4 : wN w n 1 ≤ 40
    · rw [aRuns_s hu h4, (h hu h4).out]
      exact aRuns_out (fun q => by cases q.1) _
    · exact aRuns_out (fun q => h4 q.2) _
  · exact aRuns_out (fun q => hu (of_decide_eq_true q.1)) _
end
end
