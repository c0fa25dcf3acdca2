/-! the names of a lambda -/
section
variable {x_textLength : Int32} {x_pairCount : Int32} {x_placeCount : Int32} {x_procedureCount : Int32} {x_continuationCount : Int32} {x_frameCount : Int32} {x_state : Int32} {x_ending : Int32} {x_form : Int64} {x_environment : Int32} {x_frame : Int32} {x_value : Int64} {x_applied : Int64} {x_argumentCount : Int32} {x_countedCount : Int32} {x_consCount : Int32} {x_entryCount : Int32} {x_outputCount : Int32} {x_itemCount : Int32} {x_text : Nat → Int32} {x_firsts : Nat → Int64} {x_rests : Nat → Int64} {x_placeNames : Nat → Int32} {x_placeValues : Nat → Int64} {x_placeOuters : Nat → Int32} {x_procedureParts : Nat → Int64} {x_procedurePlaces : Nat → Int32} {x_continuationFrames : Nat → Int32} {x_frameTasks : Nat → Int32} {x_frameForms : Nat → Int64} {x_frameValues : Nat → Int64} {x_framePlaces : Nat → Int32} {x_frameNexts : Nat → Int32} {x_arguments : Nat → Int64} {x_outputs : Nat → Int32} {x_itemKinds : Nat → Int32} {x_itemNumbers : Nat → Int32} {x_openLists : Nat → Int64}
variable {y_size : Int32} {y_pairs : Int32} {y_open : Int32} {y_formCount : Int32} {y_places : Int32} {y_procedures : Int32} {y_continuationCount : Int32} {y_things : Int32} {y_foundCount : Int32} {y_argumentCount : Int32} {y_value : Int64} {y_form : Int64} {y_wherein : Int32} {y_next : Int32} {y_working : Int32} {y_ending : Int32} {y_counts : Int32} {y_made : Int32} {y_entered : Int32} {y_printCount : Int32} {y_itemCount : Int32} {y_text : Nat → Int32} {y_firsts : Nat → Int64} {y_rests : Nat → Int64} {y_heads : Nat → Int32} {y_lasts : Nat → Int32} {y_globals : Nat → Int64} {y_placeNames : Nat → Int32} {y_placeValues : Nat → Int64} {y_placeNexts : Nat → Int32} {y_procedureForms : Nat → Int64} {y_procedurePlaces : Nat → Int32} {y_continuations : Nat → Int32} {y_whats : Nat → Int32} {y_withs : Nat → Int64} {y_whereins : Nat → Int32} {y_soFars : Nat → Int32} {y_afters : Nat → Int32} {y_found : Nat → Int64} {y_foundNexts : Nat → Int32} {y_arguments : Nat → Int64} {y_prints : Nat → Int32} {y_itemKinds : Nat → Int32} {y_itemNumbers : Nat → Int32} {y_pile : Nat → Int64}
variable {T : Nat → Nat} {n px py np nc : Nat} {M : Nat → Nat → Prop}
theorem na_q {q : Nat} (hR : pz_Rd T n) (hd : 1 ≤ pz_dd T q) (hq : q ≤ n) : q < n := by
  by_cases z : q = n
  · rw [z, hR.2.1] at hd; omega
  · omega
theorem na_bit : ∀ k, k < 10 → (1 : Int32) <<< ((zv_c 1 (30 + k) - 4294967326).toInt32 &&& 31) = na_b (30 + k) ∧ (1 : Int32) <<< ((nI (30 + k) - 30) &&& 31) = na_b (30 + k) ∧ na_b (30 + k) ≠ 0 := by decide +kernel
/-- what is no name -/
theorem nv_x {q : Nat} (hR : pz_Rd T n) (hn : n ≤ 70) (hT : ∀ i, i < n → zv_tk (T i)) (hpx : px ≤ 1400) (hb : ∀ r j, pz_Nd T n r j → pz_AY T n r j < py ∧ pz_AX T n r j < px) (hqn : q < n) (c : T q ≠ 1) (hm : ¬ pz_mk T q) (cn : ¬ (30 ≤ T q ∧ T q ≤ 39)) :
    ∃ s' l', s' < 16 ∧ l' < 4294967296 ∧ cd_xv T n q = zv_c s' l' ∧ ¬ (s' = 1 ∧ 30 ≤ l' ∧ l' ≤ 39) := by
  by_cases w : 40 ≤ T q ∧ T q ≤ 45
  · refine ⟨1, T q, by decide, by omega, ?_, by omega⟩
    rw [cd_xv_a (by omega)]
    unfold zv_xA
    rw [if_neg (by omega), if_neg (by omega)]
  · obtain ⟨⟨s', l', a1, a2, a3, a4⟩, _⟩ := hd_v hn hR hT hqn c hm w
    refine ⟨s', l', a1, a2, a3, ?_⟩
    intro ⟨b1, b2, b3⟩
    subst b1
    by_cases c0 : T q = 0
    · rw [cd_xv_0 c0] at a3
      unfold cd_xl pz_lst at a3
      split at a3
      · rename_i z
        have := (hb 0 (q + 1) ⟨z.1, Or.inl ⟨rfl, z.2, fun y => by have := pz_mk_s.mp y; omega⟩⟩).2
        have := (zv_eq (by decide) (by omega) (by decide) a2).mp a3
        omega
      · have := (zv_eq (by decide) (by decide) (by decide) a2).mp a3
        omega
    · by_cases c2 : T q = 2
      · rw [cd_xv_2 c2] at a3
        have := (hb 1 q ⟨hqn, Or.inr ⟨Or.inl rfl, c2⟩⟩).2
        have := (zv_eq (by decide) (by omega) (by decide) a2).mp a3
        omega
      · rw [cd_xv_a (by omega)] at a3
        have ht := hT q hqn
        rcases cd_atom ht (by omega) with ⟨a, s, k, k1, k2, _, k3, k4⟩ | ⟨k1, k2, k3⟩
        · rw [k4] at a3
          have := (zv_eq (by omega) k1 (by decide) a2).mp a3
          omega
        · unfold zv_tk at ht
          rw [k3] at a3
          have := (zv_eq (by decide) (by omega) (by decide) a2).mp a3
          omega
theorem nv_y {q : Nat} (hR : pz_Rd T n) (hn : n ≤ 70) (hT : ∀ i, i < n → zv_tk (T i)) (hpy : py ≤ 900) (hb : ∀ r j, pz_Nd T n r j → pz_AY T n r j < py ∧ pz_AX T n r j < px) (hqn : q < n) (c : T q ≠ 1) (hm : ¬ pz_mk T q) (cn : ¬ (30 ≤ T q ∧ T q ≤ 39)) :
    ∃ s' l', s' < 16 ∧ l' < 4294967296 ∧ cd_yv T n q = zv_c s' l' ∧ (s' = 4 → 40 ≤ l' ∧ l' < 100) := by
  have ht := hT q hqn
  by_cases c0 : T q = 0
  · rw [cd_yv_0 c0]
    by_cases z : q + 1 < n ∧ T (q + 1) ≠ 1
    · have := (hb 0 (q + 1) ⟨z.1, Or.inl ⟨rfl, z.2, fun y => by have := pz_mk_s.mp y; omega⟩⟩).1
      exact ⟨3, _, by decide, by omega, cd_yl_p z.1 z.2, fun y => by omega⟩
    · exact ⟨2, 0, by decide, by decide, cd_yl_e z, fun y => by omega⟩
  · by_cases c2 : T q = 2
    · have := (hb 1 q ⟨hqn, Or.inr ⟨Or.inl rfl, c2⟩⟩).1
      exact ⟨3, _, by decide, by omega, cd_yv_2 c2, fun y => by omega⟩
    · rw [cd_yv_a (by omega)]
      rcases cd_atom ht (by omega) with ⟨a, s, k, k1, k2, _, k3, k4⟩ | ⟨k1, k2, k3⟩
      · exact ⟨a, k, by omega, k1, k3, fun y => by omega⟩
      · unfold zv_tk at ht
        exact ⟨4, T q, by decide, by omega, k2, fun y => by omega⟩
theorem ys_isName {post : Int32 → Prop} {q : Nat} (hR : pz_Rd T n) (hn : n ≤ 70) (hT : ∀ i, i < n → zv_tk (T i)) (hpy : py ≤ 900) (hb : ∀ r j, pz_Nd T n r j → pz_AY T n r j < py ∧ pz_AX T n r j < px) (hqn : q < n) (c : T q ≠ 1) (hm : ¬ pz_mk T q)
    (g1 : 30 ≤ T q ∧ T q ≤ 39 → post 1) (g0 : ¬ (30 ≤ T q ∧ T q ≤ 39) → post 0) : wpY_isName post (y_size, y_pairs, y_open, y_formCount, y_places, y_procedures, y_continuationCount, y_things, y_foundCount, y_argumentCount, y_value, y_form, y_wherein, y_next, y_working, y_ending, y_counts, y_made, y_entered, y_printCount, y_itemCount, y_text, y_firsts, y_rests, y_heads, y_lasts, y_globals, y_placeNames, y_placeValues, y_placeNexts, y_procedureForms, y_procedurePlaces, y_continuations, y_whats, y_withs, y_whereins, y_soFars, y_afters, y_found, y_foundNexts, y_arguments, y_prints, y_itemKinds, y_itemNumbers, y_pile) (cd_yv T n q) := by
  by_cases cn : 30 ≤ T q ∧ T q ≤ 39
  · have hy : cd_yv T n q = zv_c 4 (T q) := by
      rw [cd_yv_a (by omega)]
      unfold zv_yA
      rw [if_neg (by omega), if_neg (by omega)]
    rw [hy]
    unfold wpY_isName
    refine ys_tag (by decide) (by omega) (br_t rfl ?_)
    rw [zv_lo]
    exact br_f (nI_ge (b := 40) (by omega) (by decide)) (g1 cn)
  · obtain ⟨s', l', a1, a2, a3, a4⟩ := nv_y hR hn hT hpy hb hqn c hm cn
    rw [a3]
    unfold wpY_isName
    refine ys_tag a1 a2 ?_
    by_cases z : s' = 4
    · subst z
      have := a4 rfl
      refine br_t rfl ?_
      rw [zv_lo]
      exact br_t (nI_le (a := 40) (by omega) (by omega)) (g0 cn)
    · exact br_f (ne_I (b := 4) z (by omega) (by decide)) (g0 cn)
theorem na_X {post : Int32 → Prop} (hR : pz_Rd T n) (hn : n ≤ 70) (hT : ∀ i, i < n → zv_tk (T i)) (hpx : px ≤ 1400) (hc : cd_OK T n y_firsts y_rests x_firsts x_rests) (hb : ∀ r j, pz_Nd T n r j → pz_AY T n r j < py ∧ pz_AX T n r j < px) :
    ∀ f i q s, i + f = 4 → q ≤ n → 1 ≤ pz_dd T q → ¬ pz_mk T q → ¬ pz_D0 T q → (na_W T f q s → post 1) → (¬ na_W T f q s → post 0) → wX_areNames_8 post x_textLength x_pairCount x_placeCount x_procedureCount x_continuationCount x_frameCount x_state x_ending x_form x_environment x_frame x_value x_applied x_argumentCount x_countedCount x_consCount x_entryCount x_outputCount x_itemCount x_text x_firsts x_rests x_placeNames x_placeValues x_placeOuters x_procedureParts x_procedurePlaces x_continuationFrames x_frameTasks x_frameForms x_frameValues x_framePlaces x_frameNexts x_arguments x_outputs x_itemKinds x_itemNumbers x_openLists (f + 1) (cd_xl T n q) s (nI i) := by
  intro f
  induction f with
  | zero =>
    intro i q s hi hq hd hm hD h1 h0
    have hqn := na_q hR hd hq
    refine br_t (nI_le (a := 4) (by omega) (by omega)) ?_
    by_cases c : T q = 1
    · exact br_t (by rw [cd_xl_e (fun z => z.2 c), zk_xE]) (h1 c)
    · have := (hb 0 q ⟨hqn, Or.inl ⟨rfl, c, hm⟩⟩).2
      refine br_f ?_ (h0 c)
      rw [cd_xl_p hqn c, zk_xE]
      exact ch_X0 (B := px) (by omega) _ this
  | succ f ih =>
    intro i q s hi hq hd hm hD h1 h0
    have hqn := na_q hR hd hq
    refine br_f (nI_ge (b := 4) (by omega) (by decide)) ?_
    by_cases c : T q = 1
    · rw [cd_xl_e (fun z => z.2 c), zv_sh (by decide) (by decide)]
      exact br_f (by decide) (br_t (by rw [zk_xE]) (h1 (Or.inl c)))
    · obtain ⟨e1, e2, e3, e4, e5, e6⟩ := cd_cell hc hb hqn c hm hD
      rw [cd_xl_p hqn c, zv_sh (by decide) (by omega)]
      have hin : vp_in (zv_c 2 (pz_AX T n 0 q)).toInt32 1400 := zv_in (by omega) (by decide)
      have hcl : (zv_c 2 (pz_AX T n 0 q)).toInt32.toNatClampNeg = pz_AX T n 0 q := zv_cl (by omega)
      refine br_t rfl ⟨hin, nm_r ((cl_R hcl).trans e5) ?_⟩
      by_cases cn : 30 ≤ T q ∧ T q ≤ 39
      · have hx : cd_xv T n q = zv_c 1 (T q) := by
          rw [cd_xv_a (by omega)]
          unfold zv_xA
          rw [if_neg (by omega), if_neg (by omega)]
        obtain ⟨k, hk⟩ : ∃ k, T q = 30 + k := ⟨T q - 30, by omega⟩
        have hbit := na_bit k (by omega)
        have hnx : pz_nx T n q = q + 1 := pz_nx_a (by omega)
        rw [hx, zk_30, zk_39]
        refine br_f (fun z => by have := (zv_lt (by decide) (by omega) (by decide) (by decide)).mp z; omega) (br_t ((zv_le (by decide) (by omega) (by decide) (by decide)).mpr (by omega)) ?_)
        rw [← zk_30, hk]
        refine nm_r hbit.1 ?_
        by_cases cs : (s &&& na_b (30 + k)) = 0
        · refine br_t cs (nm_e ⟨hin, nm_r ((cl_R hcl).trans e6) (nm_r (nI_1 i) ?_)⟩)
          rw [hnx]
          have hF := (pz_nx_ok hR hqn c).2
          rw [hnx] at hF
          refine ih (i + 1) (q + 1) _ (by omega) (by omega) (by rw [pz_Fm_dd hF]; exact hd) (pz_Fm_nmk hF) (pz_D0n_e hF hD) (fun z => h1 (Or.inr ⟨cn, by rw [hk]; exact cs, by rw [hk]; exact z⟩)) (fun z => h0 (fun w => ?_))
          rcases w with w | ⟨_, _, w⟩
          · exact c w
          · rw [hk] at w; exact z w
        · refine br_f cs (h0 (fun w => ?_))
          rcases w with w | ⟨_, w, _⟩
          · exact c w
          · rw [hk] at w; exact cs w
      · have hno : ¬ na_W T (f + 1) q s := by
          intro w
          rcases w with w | ⟨w, _⟩
          · exact c w
          · exact cn w
        obtain ⟨s', l', a1, a2, a3, a4⟩ := nv_x hR hn hT hpx hb hqn c hm cn
        rw [a3, zk_30, zk_39]
        by_cases z : zv_c s' l' < zv_c 1 30
        · exact br_t z (h0 hno)
        · refine br_f z (br_f (fun y => ?_) (h0 hno))
          rw [zv_lt a1 a2 (by decide) (by decide)] at z
          rw [zv_le a1 a2 (by decide) (by decide)] at y
          omega
theorem xs_areNames {post : Int32 → Prop} {p : Nat} (hR : pz_Rd T n) (hn : n ≤ 70) (hT : ∀ i, i < n → zv_tk (T i)) (hpx : px ≤ 1400) (hc : cd_OK T n y_firsts y_rests x_firsts x_rests) (hb : ∀ r j, pz_Nd T n r j → pz_AY T n r j < py ∧ pz_AX T n r j < px)
    (hp : p < n) (h1 : T p ≠ 1) (hC : pz_CF T p) (g1 : T p = 0 ∧ na_W T 4 (p + 1) 0 → post 1) (g0 : ¬ (T p = 0 ∧ na_W T 4 (p + 1) 0) → post 0) : wpX_areNames post (x_textLength, x_pairCount, x_placeCount, x_procedureCount, x_continuationCount, x_frameCount, x_state, x_ending, x_form, x_environment, x_frame, x_value, x_applied, x_argumentCount, x_countedCount, x_consCount, x_entryCount, x_outputCount, x_itemCount, x_text, x_firsts, x_rests, x_placeNames, x_placeValues, x_placeOuters, x_procedureParts, x_procedurePlaces, x_continuationFrames, x_frameTasks, x_frameForms, x_frameValues, x_framePlaces, x_frameNexts, x_arguments, x_outputs, x_itemKinds, x_itemNumbers, x_openLists) (cd_xv T n p) := by
  by_cases c0 : T p = 0
  · obtain ⟨d1, d2, d3, d4, d5⟩ := cd_in hR hp c0 hC
    rw [cd_xv_0 c0]
    exact ⟨5, na_X hR hn hT hpx hc hb 4 0 (p + 1) 0 rfl (by omega) (by rw [pz_dd_o c0]; omega) d2 d3 (fun z => g1 ⟨c0, z⟩) (fun z => g0 (fun w => z w.2))⟩
  · have hno : post 0 := g0 (fun w => c0 w.1)
    by_cases c2 : T p = 2
    · obtain ⟨_, b1, b2, b3, b4⟩ := hc.2 p hp c2 hC
      have a := (hb 1 p ⟨hp, Or.inr ⟨Or.inl rfl, c2⟩⟩).2
      rw [cd_xv_2 c2]
      have hcl : (zv_c 2 (pz_AX T n 1 p)).toInt32.toNatClampNeg = pz_AX T n 1 p := zv_cl (by omega)
      refine ⟨1, br_f (by decide) ?_⟩
      rw [zv_sh (by decide) (by omega)]
      refine br_t rfl ⟨zv_in (by omega) (by decide), nm_r ((cl_R hcl).trans b1) (br_f ?_ (br_f ?_ hno))⟩
      · rw [zk_30]; exact fun z => by have := (zv_lt (by decide) (by decide) (by decide) (by decide)).mp z; omega
      · rw [zk_39]; exact fun z => by have := (zv_le (by decide) (by decide) (by decide) (by decide)).mp z; omega
    · rw [cd_xv_a (by omega)]
      have key : ∀ s k, s < 16 → k < 4294967296 → s ≠ 2 → s ≠ 3 → wpX_areNames post (x_textLength, x_pairCount, x_placeCount, x_procedureCount, x_continuationCount, x_frameCount, x_state, x_ending, x_form, x_environment, x_frame, x_value, x_applied, x_argumentCount, x_countedCount, x_consCount, x_entryCount, x_outputCount, x_itemCount, x_text, x_firsts, x_rests, x_placeNames, x_placeValues, x_placeOuters, x_procedureParts, x_procedurePlaces, x_continuationFrames, x_frameTasks, x_frameForms, x_frameValues, x_framePlaces, x_frameNexts, x_arguments, x_outputs, x_itemKinds, x_itemNumbers, x_openLists) (zv_c s k) := by
        intro s k q1 q2 q3 q4
        refine ⟨1, br_f (by decide) ?_⟩
        rw [zv_sh q1 q2]
        refine br_f (fun z => q3 ((pk_lEQ (a := s) (b := 2) (by omega) (by omega)).mp z)) (br_f ?_ hno)
        rw [zk_xE]
        exact fun z => q4 ((zv_eq q1 q2 (by decide) (by decide)).mp z).1
      rcases cd_atom (hT p hp) (by omega) with ⟨a, s, k, k1, k2, _, k3, k4⟩ | ⟨k1, k2, k3⟩
      · rw [k4]; exact key s k (by omega) k1 (by omega) (by omega)
      · have ht := hT p hp
        unfold zv_tk at ht
        rw [k3]; exact key 1 _ (by decide) (by omega) (by decide) (by decide)
/-- Y's walk over the names, in a list of k -/
theorem na_Y {post : Int32 → Prop} (hR : pz_Rd T n) (hn : n ≤ 70) (hT : ∀ i, i < n → zv_tk (T i)) (hpy : py ≤ 900) (hc : cd_OK T n y_firsts y_rests x_firsts x_rests) (hb : ∀ r j, pz_Nd T n r j → pz_AY T n r j < py ∧ pz_AX T n r j < px) :
    ∀ k f q s, pz_Ln T n k q → k ≤ f → q ≤ n → 1 ≤ pz_dd T q → ¬ pz_mk T q → ¬ pz_D0 T q → (na_W T f q s → post 1) → (¬ na_W T f q s → post 0) → wY_areNames_16 post y_size y_pairs y_open y_formCount y_places y_procedures y_continuationCount y_things y_foundCount y_argumentCount y_value y_form y_wherein y_next y_working y_ending y_counts y_made y_entered y_printCount y_itemCount y_text y_firsts y_rests y_heads y_lasts y_globals y_placeNames y_placeValues y_placeNexts y_procedureForms y_procedurePlaces y_continuations y_whats y_withs y_whereins y_soFars y_afters y_found y_foundNexts y_arguments y_prints y_itemKinds y_itemNumbers y_pile (k + 1) s (cd_yl T n q) := by
  intro k
  induction k with
  | zero =>
    intro f q s hL hf hq hd hm hD h1 h0
    have hqn := na_q hR hd hq
    have c : T q = 1 := by
      by_cases z : T q = 1
      · exact z
      · exact absurd ⟨hqn, z⟩ hL
    rw [cd_yl_e hL, wY_areNames_16]
    refine ys_isPair_f (by decide) (by decide) (by decide) (br_t rfl (ys_tag (by decide) (by decide) (br_t rfl (h1 ?_))))
    cases f with
    | zero => exact c
    | succ f => exact Or.inl c
  | succ k ih =>
    intro f q s ⟨hqn, c, hL⟩ hf hq hd hm hD h1 h0
    obtain ⟨f, rfl⟩ : ∃ g, f = g + 1 := ⟨f - 1, by omega⟩
    obtain ⟨e1, e2, e3, e4, e5, e6⟩ := cd_cell hc hb hqn c hm hD
    rw [cd_yl_p hqn c, wY_areNames_16]
    refine ys_isPair_t (by omega) (br_f (by decide) (ys_firstOf (by omega) ?_))
    rw [e3]
    by_cases cn : 30 ≤ T q ∧ T q ≤ 39
    · have hy : cd_yv T n q = zv_c 4 (T q) := by
        rw [cd_yv_a (by omega)]
        unfold zv_yA
        rw [if_neg (by omega), if_neg (by omega)]
      obtain ⟨j, hj⟩ : ∃ j, T q = 30 + j := ⟨T q - 30, by omega⟩
      have hbit := na_bit j (by omega)
      have hnx : pz_nx T n q = q + 1 := pz_nx_a (by omega)
      have hF := (pz_nx_ok hR hqn c).2
      rw [hnx] at hF hL e4
      rw [hy]
      unfold wpY_isName
      refine ys_tag (by decide) (by omega) (br_t rfl ?_)
      rw [zv_lo]
      refine br_f (nI_ge (b := 40) (by omega) (by decide)) (br_f (by decide) (ys_firstOf (by omega) ?_))
      rw [e3, hy, zv_lo, hj, hbit.2.1]
      refine br_f hbit.2.2 ?_
      by_cases cs : (s &&& na_b (30 + j)) = 0
      · refine br_t cs (nm_e (ys_restOf (by omega) ?_))
        rw [e4]
        refine ih f (q + 1) _ hL (by omega) (by omega) (by rw [pz_Fm_dd hF]; exact hd) (pz_Fm_nmk hF) (pz_D0n_e hF hD) (fun z => h1 (Or.inr ⟨cn, by rw [hj]; exact cs, by rw [hj]; exact z⟩)) (fun z => h0 (fun w => ?_))
        rcases w with w | ⟨_, _, w⟩
        · exact c w
        · rw [hj] at w; exact z w
      · refine br_f cs (h0 (fun w => ?_))
        rcases w with w | ⟨_, w, _⟩
        · exact c w
        · rw [hj] at w; exact cs w
    · have hno : post 0 := h0 (by
        intro w
        rcases w with w | ⟨w, _⟩
        · exact c w
        · exact cn w)
      have hz : wY_areNames_54 post (wY_areNames_16 post y_size y_pairs y_open y_formCount y_places y_procedures y_continuationCount y_things y_foundCount y_argumentCount y_value y_form y_wherein y_next y_working y_ending y_counts y_made y_entered y_printCount y_itemCount y_text y_firsts y_rests y_heads y_lasts y_globals y_placeNames y_placeValues y_placeNexts y_procedureForms y_procedurePlaces y_continuations y_whats y_withs y_whereins y_soFars y_afters y_found y_foundNexts y_arguments y_prints y_itemKinds y_itemNumbers y_pile (k + 1)) s (zv_c 3 (pz_AY T n 0 q)) 0 y_size y_pairs y_open y_formCount y_places y_procedures y_continuationCount y_things y_foundCount y_argumentCount y_value y_form y_wherein y_next y_working y_ending y_counts y_made y_entered y_printCount y_itemCount y_text y_firsts y_rests y_heads y_lasts y_globals y_placeNames y_placeValues y_placeNexts y_procedureForms y_procedurePlaces y_continuations y_whats y_withs y_whereins y_soFars y_afters y_found y_foundNexts y_arguments y_prints y_itemKinds y_itemNumbers y_pile := br_t rfl hno
      obtain ⟨s', l', a1, a2, a3, a4⟩ := nv_y hR hn hT hpy hb hqn c hm cn
      rw [a3]
      unfold wpY_isName
      refine ys_tag a1 a2 ?_
      by_cases z : s' = 4
      · subst z
        have := a4 rfl
        refine br_t rfl ?_
        rw [zv_lo]
        exact br_t (nI_le (a := 40) (by omega) (by omega)) (br_t rfl hz)
      · exact br_f (ne_I (b := 4) z (by omega) (by decide)) (br_t rfl hz)
theorem na_Ln (hR : pz_Rd T n) : ∀ f q s, na_W T f q s → 1 ≤ pz_dd T q → q ≤ n → ∃ c, c ≤ f ∧ pz_Ln T n c q := by
  intro f
  induction f with
  | zero => intro q s h hd hq; exact ⟨0, by omega, fun z => z.2 h⟩
  | succ f ih =>
    intro q s h hd hq
    have hqn := na_q hR hd hq
    rcases h with h | ⟨h1, _, h2⟩
    · exact ⟨0, by omega, fun z => z.2 h⟩
    · have hnx : pz_nx T n q = q + 1 := pz_nx_a (by omega)
      have hF := (pz_nx_ok hR hqn (by omega)).2
      rw [hnx] at hF
      obtain ⟨c, c1, c2⟩ := ih (q + 1) _ h2 (by rw [pz_Fm_dd hF]; exact hd) (by omega)
      exact ⟨c + 1, by omega, hqn, by omega, by rw [hnx]; exact c2⟩
theorem ys_areNames {post : Int32 → Prop} {p : Nat} (hR : pz_Rd T n) (hn : n ≤ 70) (hT : ∀ i, i < n → zv_tk (T i)) (hpy : py ≤ 900) (hc : cd_OK T n y_firsts y_rests x_firsts x_rests) (hb : ∀ r j, pz_Nd T n r j → pz_AY T n r j < py ∧ pz_AX T n r j < px)
    (hp : p < n) (h1 : T p ≠ 1) (hC : pz_CF T p) (g1 : T p = 0 ∧ na_W T 4 (p + 1) 0 → post 1) (g0 : ¬ (T p = 0 ∧ na_W T 4 (p + 1) 0) → post 0) : wpY_areNames post (y_size, y_pairs, y_open, y_formCount, y_places, y_procedures, y_continuationCount, y_things, y_foundCount, y_argumentCount, y_value, y_form, y_wherein, y_next, y_working, y_ending, y_counts, y_made, y_entered, y_printCount, y_itemCount, y_text, y_firsts, y_rests, y_heads, y_lasts, y_globals, y_placeNames, y_placeValues, y_placeNexts, y_procedureForms, y_procedurePlaces, y_continuations, y_whats, y_withs, y_whereins, y_soFars, y_afters, y_found, y_foundNexts, y_arguments, y_prints, y_itemKinds, y_itemNumbers, y_pile) (cd_yv T n p) := by
  by_cases c0 : T p = 0
  · obtain ⟨d1, d2, d3, d4, d5⟩ := cd_in hR hp c0 hC
    have hd : 1 ≤ pz_dd T (p + 1) := by rw [pz_dd_o c0]; omega
    rw [cd_yv_0 c0]
    obtain ⟨k, hk, hk2⟩ := pz_Ln_ex hR _ (p + 1) rfl (by omega)
    unfold wpY_areNames
    refine ys_len_ch hpy (cd_chY hR hc hb k (p + 1) hk d2 d3) (pk_le k 4 (fun z => ?_) (fun z => g0 (fun w => ?_)))
    · exact ⟨k + 1, na_Y hR hn hT hpy hc hb k 4 (p + 1) 0 hk z (by omega) hd d2 d3 (fun z => g1 ⟨c0, z⟩) (fun z => g0 (fun w => z w.2))⟩
    · obtain ⟨c, c1, c2⟩ := na_Ln hR _ _ _ w.2 hd (by omega)
      have := pz_Ln_u _ _ _ hk c2
      omega
  · have hno : post 0 := g0 (fun w => c0 w.1)
    by_cases c2 : T p = 2
    · obtain ⟨⟨b1, b2, b3, b4⟩, _⟩ := hc.2 p hp c2 hC
      have a := (hb 1 p ⟨hp, Or.inr ⟨Or.inl rfl, c2⟩⟩).1
      have a' := (hb 2 p ⟨hp, Or.inr ⟨Or.inr rfl, c2⟩⟩).1
      rw [cd_yv_2 c2]
      have hch : ch_N y_rests (zv_c 3) (zv_c 2 0) py 2 (zv_c 3 (pz_AY T n 1 p)) := ⟨_, a, rfl, _, a', b2, b4⟩
      unfold wpY_areNames
      refine ys_len_ch hpy hch (br_t (by decide) ⟨1, ?_⟩)
      rw [wY_areNames_16]
      refine ys_isPair_t (by omega) (br_f (by decide) (ys_firstOf (by omega) ?_))
      rw [b1]
      unfold wpY_isName
      refine ys_tag (by decide) (by decide) (br_t rfl ?_)
      rw [zv_lo]
      exact br_t (by decide) (br_t rfl (br_t rfl hno))
    · rw [cd_yv_a (by omega)]
      have key : ∀ s k, s < 16 → k < 4294967296 → s ≠ 2 → s ≠ 3 → wpY_areNames post (y_size, y_pairs, y_open, y_formCount, y_places, y_procedures, y_continuationCount, y_things, y_foundCount, y_argumentCount, y_value, y_form, y_wherein, y_next, y_working, y_ending, y_counts, y_made, y_entered, y_printCount, y_itemCount, y_text, y_firsts, y_rests, y_heads, y_lasts, y_globals, y_placeNames, y_placeValues, y_placeNexts, y_procedureForms, y_procedurePlaces, y_continuations, y_whats, y_withs, y_whereins, y_soFars, y_afters, y_found, y_foundNexts, y_arguments, y_prints, y_itemKinds, y_itemNumbers, y_pile) (zv_c s k) := by
        intro s k q1 q2 q3 q4
        unfold wpY_areNames
        refine ys_len (S := fun w => w = zv_c s k) hpy (fun w hw => ⟨s, k, q1, q2, hw, fun z => absurd z q4, fun z => absurd z q3⟩) rfl (fun m hm => ?_) (fun _ => ?_)
        · cases m with
          | zero => exact absurd ((zv_eq q1 q2 (by decide) (by decide)).mp hm).1 q3
          | succ m =>
            obtain ⟨c, r1, r2, _⟩ := hm
            exact absurd ((zv_eq q1 q2 (by decide) (by omega)).mp r2).1 q4
        · refine br_t (by decide) ⟨1, ?_⟩
          rw [wY_areNames_16]
          exact ys_isPair_f q1 q4 q2 (br_t rfl (ys_tag q1 q2 (br_f (ne_I (b := 2) q3 (by omega) (by decide)) hno)))
      rcases cd_atom (hT p hp) (by omega) with ⟨a, s, k, k1, k2, _, k3, k4⟩ | ⟨k1, k2, k3⟩
      · rw [k3]; exact key a k (by omega) k1 (by omega) (by omega)
      · have ht := hT p hp
        unfold zv_tk at ht
        rw [k2]; exact key 4 _ (by decide) (by omega) (by decide) (by decide)
end
