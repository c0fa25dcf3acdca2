/-! a value is given: it is kept for an application, or the application begins -/
def fl_R (M : Nat → Nat → Prop) (np nc : Nat) (FX RX fnd : Nat → Int64) (fnx : Nat → Int32) (px fo : Nat) : Nat → Int32 → Int64 → Prop
  | 0, y, x => y = -1 ∧ x = zv_c 3 0
  | k + 1, y, x => ∃ i c, i < fo ∧ c < px ∧ y = nI i ∧ x = zv_c 2 c ∧ zv_V M np nc (fnd i) (FX c) ∧ fl_R M np nc FX RX fnd fnx px fo k (fnx i) (RX c)
section
variable {x_textLength : Int32} {x_pairCount : Int32} {x_placeCount : Int32} {x_procedureCount : Int32} {x_continuationCount : Int32} {x_frameCount : Int32} {x_state : Int32} {x_ending : Int32} {x_form : Int64} {x_environment : Int32} {x_frame : Int32} {x_value : Int64} {x_applied : Int64} {x_argumentCount : Int32} {x_countedCount : Int32} {x_consCount : Int32} {x_entryCount : Int32} {x_outputCount : Int32} {x_itemCount : Int32} {x_text : Nat → Int32} {x_firsts : Nat → Int64} {x_rests : Nat → Int64} {x_placeNames : Nat → Int32} {x_placeValues : Nat → Int64} {x_placeOuters : Nat → Int32} {x_procedureParts : Nat → Int64} {x_procedurePlaces : Nat → Int32} {x_continuationFrames : Nat → Int32} {x_frameTasks : Nat → Int32} {x_frameForms : Nat → Int64} {x_frameValues : Nat → Int64} {x_framePlaces : Nat → Int32} {x_frameNexts : Nat → Int32} {x_arguments : Nat → Int64} {x_outputs : Nat → Int32} {x_itemKinds : Nat → Int32} {x_itemNumbers : Nat → Int32} {x_openLists : Nat → Int64}
variable {y_size : Int32} {y_pairs : Int32} {y_open : Int32} {y_formCount : Int32} {y_places : Int32} {y_procedures : Int32} {y_continuationCount : Int32} {y_things : Int32} {y_foundCount : Int32} {y_argumentCount : Int32} {y_value : Int64} {y_form : Int64} {y_wherein : Int32} {y_next : Int32} {y_working : Int32} {y_ending : Int32} {y_counts : Int32} {y_made : Int32} {y_entered : Int32} {y_printCount : Int32} {y_itemCount : Int32} {y_text : Nat → Int32} {y_firsts : Nat → Int64} {y_rests : Nat → Int64} {y_heads : Nat → Int32} {y_lasts : Nat → Int32} {y_globals : Nat → Int64} {y_placeNames : Nat → Int32} {y_placeValues : Nat → Int64} {y_placeNexts : Nat → Int32} {y_procedureForms : Nat → Int64} {y_procedurePlaces : Nat → Int32} {y_continuations : Nat → Int32} {y_whats : Nat → Int32} {y_withs : Nat → Int64} {y_whereins : Nat → Int32} {y_soFars : Nat → Int32} {y_afters : Nat → Int32} {y_found : Nat → Int64} {y_foundNexts : Nat → Int32} {y_arguments : Nat → Int64} {y_prints : Nat → Int32} {y_itemKinds : Nat → Int32} {y_itemNumbers : Nat → Int32} {y_pile : Nat → Int64}
variable {T : Nat → Nat} {n px py pl np nc nf fo co cn et pc m : Nat} {M : Nat → Nat → Prop} {G : Nat → Nat}
theorem fl_ex {FX RX fnd : Nat → Int64} {fnx : Nat → Int32} (h : fd_OK T n M np nc G fo px FX RX fnd fnx) : ∀ b y x, b ≤ fo → so_R G b y x → ∃ k, k ≤ b ∧ fl_R M np nc FX RX fnd fnx px fo k y x := by
  intro b
  induction b using Nat.strongRecOn with
  | ind b ih =>
    intro y x hb hs
    rcases hs with hs | ⟨i, h1, h2, h3⟩
    · exact ⟨0, by omega, hs⟩
    · obtain ⟨g1, g2, g3, g4, g5⟩ := h i (by omega)
      obtain ⟨k, k1, k2⟩ := ih i h1 _ _ (by omega) g5
      exact ⟨k + 1, by omega, i, G i, by omega, g1, h2, h3, g4, k2⟩
theorem fl_ch {FX RX fnd : Nat → Int64} {fnx : Nat → Int32} : ∀ k y x, fl_R M np nc FX RX fnd fnx px fo k y x → ch_N RX (zv_c 2) (zv_c 3 0) px k x := by
  intro k
  induction k with
  | zero => intro y x h; exact h.2
  | succ k ih =>
    intro y x h
    obtain ⟨i, c, h1, h2, h3, h4, h5, h6⟩ := h
    exact ⟨c, h2, h4, ih _ _ h6⟩
/-- Y counts what was found -/
theorem fl_cnt {post : SY → Prop} {x1 : Int32} {ac : Nat} (hfo : fo ≤ 1700) (hp : ∃ n34 : Nat, wY_applyFound_34 post y_size y_pairs y_open y_formCount y_places y_procedures y_continuationCount y_things y_foundCount (nI ac) y_value y_form y_wherein y_next y_working y_ending y_counts y_made y_entered y_printCount y_itemCount n34 (nI ac) 0 x1 y_text y_firsts y_rests y_heads y_lasts y_globals y_placeNames y_placeValues y_placeNexts y_procedureForms y_procedurePlaces y_continuations y_whats y_withs y_whereins y_soFars y_afters y_found y_foundNexts y_arguments y_prints y_itemKinds y_itemNumbers y_pile) :
    ∀ k i y x, fl_R M np nc x_firsts x_rests y_found y_foundNexts px fo k y x → i + k = ac + 1 → wY_applyFound_4 post x1 y_size y_pairs y_open y_formCount y_places y_procedures y_continuationCount y_things y_foundCount y_argumentCount y_value y_form y_wherein y_next y_working y_ending y_counts y_made y_entered y_printCount y_itemCount y_text y_firsts y_rests y_heads y_lasts y_globals y_placeNames y_placeValues y_placeNexts y_procedureForms y_procedurePlaces y_continuations y_whats y_withs y_whereins y_soFars y_afters y_found y_foundNexts y_arguments y_prints y_itemKinds y_itemNumbers y_pile (k + 1) (nI i + (-1)) y := by
  intro k
  induction k with
  | zero =>
    intro i y x h hi
    obtain ⟨rfl, _⟩ := h
    have e : i = ac + 1 := by omega
    subst e
    rw [pk_m1]
    exact br_t (by decide) hp
  | succ k ih =>
    intro i y x h hi
    obtain ⟨j, c, h1, h2, rfl, h4, h5, h6⟩ := h
    have e : (nI j).toNatClampNeg = j := nI_clamp (by omega)
    have e2 : nI i + (-1) + 1 = nI (i + 1) + (-1) := by
      rw [pk_m1, Int32.add_assoc, show (-1 : Int32) + 1 = 0 from rfl, Int32.add_zero]
    exact br_f (nI_pos (by omega)) (nm_r e2 ⟨vp_in_nI (by omega) (by decide), nm_r (cl_R e) (ih (i + 1) _ _ h6 (by omega))⟩)
/-- both sides lay out the values -/
theorem fl_args {ac : Nat} (hfo : fo ≤ 1700) (hpx : px ≤ 1400) (hac : ac ≤ 800) :
    ∀ k y x, fl_R M np nc x_firsts x_rests y_found y_foundNexts px fo (k + 1) y x → k ≤ ac → ∀ ay ax : Nat → Int64, (∀ j, k ≤ j → j < ac → zv_V M np nc (ay j) (ax j)) →
      ∃ ay' ax' g a, zv_V M np nc g a ∧ (∀ j, j < ac → zv_V M np nc (ay' j) (ax' j)) ∧
        (∀ post : SX → Prop, post (x_textLength, x_pairCount, x_placeCount, x_procedureCount, x_continuationCount, x_frameCount, 1, x_ending, x_form, x_environment, x_frame, x_value, a, x_argumentCount, x_countedCount, x_consCount, x_entryCount, x_outputCount, x_itemCount, x_text, x_firsts, x_rests, x_placeNames, x_placeValues, x_placeOuters, x_procedureParts, x_procedurePlaces, x_continuationFrames, x_frameTasks, x_frameForms, x_frameValues, x_framePlaces, x_frameNexts, ax', x_outputs, x_itemKinds, x_itemNumbers, x_openLists) → wX_startApplication_21 post x_textLength x_pairCount x_placeCount x_procedureCount x_continuationCount x_frameCount x_state x_ending x_form x_environment x_frame x_value x_applied x_argumentCount x_countedCount x_consCount x_entryCount x_outputCount x_itemCount (k + 1) x (nI k + (-1)) x_text x_firsts x_rests x_placeNames x_placeValues x_placeOuters x_procedureParts x_procedurePlaces x_continuationFrames x_frameTasks x_frameForms x_frameValues x_framePlaces x_frameNexts ax x_outputs x_itemKinds x_itemNumbers x_openLists) ∧
        (∀ (post : SY → Prop) (z : Int64), (∃ n86 : Nat, wY_applyFound_86 post n86 g 1 y_size y_pairs y_open y_formCount y_places y_procedures y_continuationCount y_things y_foundCount y_argumentCount y_value y_form y_wherein y_next y_working y_ending y_counts y_made y_entered y_printCount y_itemCount y_text y_firsts y_rests y_heads y_lasts y_globals y_placeNames y_placeValues y_placeNexts y_procedureForms y_procedurePlaces y_continuations y_whats y_withs y_whereins y_soFars y_afters y_found y_foundNexts (ay') y_prints y_itemKinds y_itemNumbers y_pile) → wY_applyFound_34 post y_size y_pairs y_open y_formCount y_places y_procedures y_continuationCount y_things y_foundCount y_argumentCount y_value y_form y_wherein y_next y_working y_ending y_counts y_made y_entered y_printCount y_itemCount (k + 2) (nI k) z y y_text y_firsts y_rests y_heads y_lasts y_globals y_placeNames y_placeValues y_placeNexts y_procedureForms y_procedurePlaces y_continuations y_whats y_withs y_whereins y_soFars y_afters y_found y_foundNexts ay y_prints y_itemKinds y_itemNumbers y_pile) := by
  intro k
  induction k with
  | zero =>
    intro y x h hk ay ax hV
    obtain ⟨i, c, h1, h2, rfl, rfl, h5, ⟨h6, h7⟩⟩ := h
    have e : (nI i).toNatClampNeg = i := nI_clamp (by omega)
    have hcl : (zv_c 2 c).toInt32.toNatClampNeg = c := zv_cl (by omega)
    refine ⟨ay, ax, y_found i, x_firsts c, h5, fun j hj => hV j (by omega) hj, fun post hp => ?_, fun post z hp => ?_⟩
    · exact br_t (by decide) ⟨zv_in (by omega) (by decide), nm_r (cl_R hcl) hp⟩
    · exact br_f (nI_pos (by omega)) (nm_e (br_f (by decide) ⟨vp_in_nI (by omega) (by decide), nm_r (cl_R e) ⟨vp_in_nI (by omega) (by decide), nm_r ((cl_R e).trans h6) (br_t (by decide) hp)⟩⟩))
  | succ k ih =>
    intro y x h hk ay ax hV
    obtain ⟨i, c, h1, h2, rfl, rfl, h5, h6⟩ := h
    have e : (nI i).toNatClampNeg = i := nI_clamp (by omega)
    have ek : (nI k).toNatClampNeg = k := nI_clamp (by omega)
    have hcl : (zv_c 2 c).toInt32.toNatClampNeg = c := zv_cl (by omega)
    have hin : vp_in (zv_c 2 c).toInt32 1400 := zv_in (by omega) (by decide)
    obtain ⟨ay', ax', g, a, g1, g2, g3, g4⟩ := ih _ _ h6 (by omega) (vp_updL ay k (y_found i)) (vp_updL ax k (x_firsts c)) (fun j j1 j2 => by
      by_cases z : j = k
      · rw [z, pk_uLs, pk_uLs]; exact h5
      · rw [pk_uLn z, pk_uLn z]; exact hV j (by omega) j2)
    refine ⟨ay', ax', g, a, g1, g2, fun post hp => ?_, fun post z hp => ?_⟩
    · rw [pk_m1]
      refine br_f (nI_pos (by omega)) ⟨hin, vp_in_nI (by omega) (by decide), ?_⟩
      rw [hcl]
      exact nm_r (cl_L ek) ⟨hin, nm_e (nm_e (g3 post hp))⟩
    · refine br_f (nI_pos (by omega)) (nm_r (pk_m1 k) (br_t (nI_pos' (by omega)) ⟨vp_in_nI (by omega) (by decide), vp_in_nI (by omega) (by decide), ?_⟩))
      rw [e]
      exact nm_r (cl_L ek) ⟨vp_in_nI (by omega) (by decide), nm_e (g4 post z hp)⟩
theorem st_V4 {p : Nat} (h : sm_R T n M G px py pl np nc nf fo co cn et pc (x_textLength, x_pairCount, x_placeCount, x_procedureCount, x_continuationCount, x_frameCount, x_state, -1, x_form, x_environment, nI m, x_value, x_applied, x_argumentCount, x_countedCount, x_consCount, x_entryCount, x_outputCount, x_itemCount, x_text, x_firsts, x_rests, x_placeNames, x_placeValues, x_placeOuters, x_procedureParts, x_procedurePlaces, x_continuationFrames, x_frameTasks, x_frameForms, x_frameValues, x_framePlaces, x_frameNexts, x_arguments, x_outputs, x_itemKinds, x_itemNumbers, x_openLists) (y_size, y_pairs, y_open, y_formCount, y_places, y_procedures, y_continuationCount, y_things, y_foundCount, y_argumentCount, y_value, y_form, y_wherein, nI m, 0, -1000000003, y_counts, y_made, y_entered, y_printCount, y_itemCount, y_text, y_firsts, y_rests, y_heads, y_lasts, y_globals, y_placeNames, y_placeValues, y_placeNexts, y_procedureForms, y_procedurePlaces, y_continuations, y_whats, y_withs, y_whereins, y_soFars, y_afters, y_found, y_foundNexts, y_arguments, y_prints, y_itemKinds, y_itemNumbers, y_pile)) (hb : fo ≤ co ∧ nf ≤ co) (hV : zv_V M np nc y_value x_value) (hm : m < nf) (he : en_R pl (y_whereins m) (x_framePlaces m)) (hf : fm_N m (y_afters m)) (hn : x_frameNexts m = y_afters m)
    (h1 : y_whats m = 4) (h2 : x_frameTasks m = 4) (h3 : ls_P T n p) (h6 : y_withs m = cd_yl T n p) (h7 : x_frameForms m = cd_xl T n p) (h8 : so_R G fo (y_soFars m) (x_frameValues m)) :
    (∃ u' v', (∀ post : SX → Prop, post u' → wpX_goOn post (x_textLength, x_pairCount, x_placeCount, x_procedureCount, x_continuationCount, x_frameCount, x_state, -1, x_form, x_environment, nI m, x_value, x_applied, x_argumentCount, x_countedCount, x_consCount, x_entryCount, x_outputCount, x_itemCount, x_text, x_firsts, x_rests, x_placeNames, x_placeValues, x_placeOuters, x_procedureParts, x_procedurePlaces, x_continuationFrames, x_frameTasks, x_frameForms, x_frameValues, x_framePlaces, x_frameNexts, x_arguments, x_outputs, x_itemKinds, x_itemNumbers, x_openLists)) ∧ (∀ post : SY → Prop, post v' → wpY_goOn post (y_size, y_pairs, y_open, y_formCount, y_places, y_procedures, y_continuationCount, y_things, y_foundCount, y_argumentCount, y_value, y_form, y_wherein, nI m, 0, -1000000003, y_counts, y_made, y_entered, y_printCount, y_itemCount, y_text, y_firsts, y_rests, y_heads, y_lasts, y_globals, y_placeNames, y_placeValues, y_placeNexts, y_procedureForms, y_procedurePlaces, y_continuations, y_whats, y_withs, y_whereins, y_soFars, y_afters, y_found, y_foundNexts, y_arguments, y_prints, y_itemKinds, y_itemNumbers, y_pile)) ∧ sm_go T n co m u' v') ∨
    (∃ u' v' g, (∀ post : SX → Prop, post u' → wpX_goOn post (x_textLength, x_pairCount, x_placeCount, x_procedureCount, x_continuationCount, x_frameCount, x_state, -1, x_form, x_environment, nI m, x_value, x_applied, x_argumentCount, x_countedCount, x_consCount, x_entryCount, x_outputCount, x_itemCount, x_text, x_firsts, x_rests, x_placeNames, x_placeValues, x_placeOuters, x_procedureParts, x_procedurePlaces, x_continuationFrames, x_frameTasks, x_frameForms, x_frameValues, x_framePlaces, x_frameNexts, x_arguments, x_outputs, x_itemKinds, x_itemNumbers, x_openLists)) ∧ (∀ (post q : SY → Prop), (∀ v, post v → q v) → (∃ f, yA_loop post f g v') → True) ∧ (∀ post : SY → Prop, (∀ q : SY → Prop, (∀ v, post v → q v) → ∃ f, yA_loop q f g v') → wpY_goOn post (y_size, y_pairs, y_open, y_formCount, y_places, y_procedures, y_continuationCount, y_things, y_foundCount, y_argumentCount, y_value, y_form, y_wherein, nI m, 0, -1000000003, y_counts, y_made, y_entered, y_printCount, y_itemCount, y_text, y_firsts, y_rests, y_heads, y_lasts, y_globals, y_placeNames, y_placeValues, y_placeNexts, y_procedureForms, y_procedurePlaces, y_continuations, y_whats, y_withs, y_whereins, y_soFars, y_afters, y_found, y_foundNexts, y_arguments, y_prints, y_itemKinds, y_itemNumbers, y_pile)) ∧ sm_A T n co g u' v') := by
  have hk1 := rk_found h hV h8
  have hk1' := hk1
  obtain ⟨a0, ⟨n1, n2, n3, n4, n5, n6, n7, n8, n9, n10, n11⟩, ⟨m1, m2, m3, m4, m5, m6, m7, m8, m9, m10, m11⟩, b0, _⟩ := h
  obtain ⟨_, _, _, b1, c1, c2, c3, _⟩ := hk1'
  have hR := a0.1
  have hbb := c2.1.2.2.2.2.2
  subst n2 n6 m6 m7
  have e : (nI m).toNatClampNeg = m := nI_clamp (by omega)
  have ef : (nI fo).toNatClampNeg = fo := nI_clamp (by omega)
  have hi : vp_in (nI m) 700 := vp_in_nI (by omega) (by decide)
  have hj : vp_in (nI m) 3400 := vp_in_nI (by omega) (by decide)
  have hq : vp_in (nI fo) 1700 := vp_in_nI (by omega) (by decide)
  have ew : ¬ y_whats (nI m).toNatClampNeg = 0 ∧ ¬ y_whats (nI m).toNatClampNeg = 1 ∧ ¬ y_whats (nI m).toNatClampNeg = 2 ∧ ¬ y_whats (nI m).toNatClampNeg = 3 := by
    rw [e, h1]; decide
  have eso : y_soFars (nI m).toNatClampNeg = y_soFars m := cl_R e
  have efv : x_frameValues (nI m).toNatClampNeg = x_frameValues m := cl_R e
  have eG : zv_c 2 px = zv_c 2 ((fun k => if k = fo then px else G k) fo) := by
    show zv_c 2 px = zv_c 2 (if fo = fo then px else G fo)
    rw [if_pos rfl]
  by_cases c : p < n ∧ T p ≠ 1
  · left
    obtain ⟨e1, e2, e3, e4, e5, e6⟩ := cd_cell c1 hbb c.1 c.2 h3.2.2 (pz_CL_nD0 h3.2.1)
    rw [cd_yl_p c.1 c.2] at h6
    rw [cd_xl_p c.1 c.2] at h7
    have hin : vp_in (zv_c 2 (pz_AX T n 0 p)).toInt32 1400 := zv_in (by omega) (by decide)
    have hcl : (zv_c 2 (pz_AX T n 0 p)).toInt32.toNatClampNeg = pz_AX T n 0 p := zv_cl (by omega)
    have hls := ls_nx hR h3 c.1 c.2
    have hk2 := rk_push (w := 4) (ey := y_whereins m) (ex := x_framePlaces m) (sy := nI fo) (sx := zv_c 2 px) (f := y_afters m) hk1 he (fm_mono (by omega) hf) (Or.inr (Or.inr ⟨_, rfl, hls, rfl, rfl, Or.inr ⟨fo, by omega, rfl, eG⟩⟩))
    refine ⟨(x_textLength, nI (px + 1), x_placeCount, x_procedureCount, x_continuationCount, nI (nf + 1), 0, -1, cd_xv T n p, x_framePlaces m, nI nf, x_value, x_applied, x_argumentCount, x_countedCount, x_consCount, x_entryCount, x_outputCount, x_itemCount, x_text, vp_updL x_firsts px x_value, vp_updL x_rests px (x_frameValues m), x_placeNames, x_placeValues, x_placeOuters, x_procedureParts, x_procedurePlaces, x_continuationFrames, upd x_frameTasks nf 4, vp_updL x_frameForms nf (cd_xl T n (pz_nx T n p)), vp_updL x_frameValues nf (zv_c 2 px), upd x_framePlaces nf (x_framePlaces m), upd x_frameNexts nf (y_afters m), x_arguments, x_outputs, x_itemKinds, x_itemNumbers, x_openLists),
      (y_size, y_pairs, y_open, y_formCount, y_places, y_procedures, y_continuationCount, nI (nf + 1), nI (fo + 1), y_argumentCount, y_value, cd_yv T n p, y_whereins m, nI nf, 1, -1000000003, y_counts, y_made, y_entered, y_printCount, y_itemCount, y_text, y_firsts, y_rests, y_heads, y_lasts, y_globals, y_placeNames, y_placeValues, y_placeNexts, y_procedureForms, y_procedurePlaces, y_continuations, upd y_whats nf 4, vp_updL y_withs nf (cd_yl T n (pz_nx T n p)), upd y_whereins nf (y_whereins m), upd y_soFars nf (nI fo), upd y_afters nf (y_afters m), vp_updL y_found fo y_value, upd y_foundNexts fo (y_soFars m), y_arguments, y_prints, y_itemKinds, y_itemNumbers, y_pile), fun post hp => ?_, fun post hp => ?_,
      Or.inr (Or.inl ⟨M, _, px + 1, py, pl, np, nc, nf + 1, fo + 1, cn, et, pc, p, rk_ig hk2, by omega, rfl, rfl, rfl, rfl, ⟨c.1, c.2, ls_CF h3⟩, rfl, rfl, he, rfl, Or.inr ⟨nf, by omega, rfl⟩⟩)⟩
    · refine br_f (ap_m1 (by omega)) ⟨hi, nm_r ((cl_R e).trans h7) ⟨hi, nm_r (cl_R e) ⟨hi, nm_r ((cl_R e).trans hn) ⟨hi, nm_r ((cl_R e).trans h2) (br_f (by decide) (br_t (by decide) ⟨hi, ?_⟩))⟩⟩⟩⟩
      rw [efv]
      unfold wpX_collect
      refine xs_newPair (by omega) (br_f ?_ ⟨hin, ?_⟩)
      · rw [zk_xE]
        exact ch_X0 (B := px + 1) (by omega) _ e2
      · rw [hcl, e6]
        exact xs_push (by omega) ⟨hin, nm_r e5 hp⟩
    · refine ⟨hj, nm_r ((cl_R e).trans h6) ⟨hj, nm_r (cl_R e) ⟨hj, nm_r (cl_R e) ⟨hj, br_f ew.1 ⟨hj, br_f ew.2.1 ⟨hj, br_f ew.2.2.1 ⟨hj, br_f ew.2.2.2 ⟨hq, nm_r (cl_L ef) ⟨hj, hq, ?_⟩⟩⟩⟩⟩⟩⟩⟩⟩
      rw [eso]
      refine nm_r (cl_I ef) (nm_r (nI_1 fo) (ys_isPair_t (by omega) (br_f (by decide) (ys_restOf (by omega) ?_))))
      rw [nI_pred, e4]
      refine ys_later (by omega) (ys_firstOf (by omega) ?_)
      rw [e3]
      exact hp
  · right
    rw [cd_yl_e c] at h6
    rw [cd_xl_e c] at h7
    obtain ⟨k, k1, k2⟩ := fl_ex c3 (fo + 1) (nI fo) (zv_c 2 px) (Nat.le_refl _) (Or.inr ⟨fo, by omega, rfl, eG⟩)
    obtain ⟨ac, rfl⟩ : ∃ ac, k = ac + 1 := by
      cases k with
      | zero => exact absurd k2.1 (ap_m1 (by omega))
      | succ k => exact ⟨k, rfl⟩
    obtain ⟨ay', ax', g, a, g1, g2, g3, g4⟩ := fl_args (x_textLength := x_textLength) (x_pairCount := nI (px + 1)) (x_placeCount := x_placeCount) (x_procedureCount := x_procedureCount) (x_continuationCount := x_continuationCount) (x_frameCount := nI nf) (x_state := x_state) (x_ending := -1) (x_form := x_form) (x_environment := x_framePlaces m) (x_frame := y_afters m) (x_value := x_value) (x_applied := x_applied) (x_argumentCount := nI ac) (x_countedCount := x_countedCount) (x_consCount := x_consCount) (x_entryCount := x_entryCount) (x_outputCount := x_outputCount) (x_itemCount := x_itemCount) (x_text := x_text) (x_placeNames := x_placeNames) (x_placeValues := x_placeValues) (x_placeOuters := x_placeOuters) (x_procedureParts := x_procedureParts) (x_procedurePlaces := x_procedurePlaces) (x_continuationFrames := x_continuationFrames) (x_frameTasks := x_frameTasks) (x_frameForms := x_frameForms) (x_frameValues := x_frameValues) (x_framePlaces := x_framePlaces) (x_frameNexts := x_frameNexts) (x_outputs := x_outputs) (x_itemKinds := x_itemKinds) (x_itemNumbers := x_itemNumbers) (x_openLists := x_openLists)
      (y_size := y_size) (y_pairs := y_pairs) (y_open := y_open) (y_formCount := y_formCount) (y_places := y_places) (y_procedures := y_procedures) (y_continuationCount := y_continuationCount) (y_things := nI nf) (y_foundCount := nI (fo + 1)) (y_argumentCount := nI ac) (y_value := y_value) (y_form := y_form) (y_wherein := y_wherein) (y_next := y_afters m) (y_working := 0) (y_ending := -1000000003) (y_counts := y_counts) (y_made := y_made) (y_entered := y_entered) (y_printCount := y_printCount) (y_itemCount := y_itemCount) (y_text := y_text) (y_firsts := y_firsts) (y_rests := y_rests) (y_heads := y_heads) (y_lasts := y_lasts) (y_globals := y_globals) (y_placeNames := y_placeNames) (y_placeValues := y_placeValues) (y_placeNexts := y_placeNexts) (y_procedureForms := y_procedureForms) (y_procedurePlaces := y_procedurePlaces) (y_continuations := y_continuations) (y_whats := y_whats) (y_withs := y_withs) (y_whereins := y_whereins) (y_soFars := y_soFars) (y_afters := y_afters) (y_prints := y_prints) (y_itemKinds := y_itemKinds) (y_itemNumbers := y_itemNumbers) (y_pile := y_pile)
      (ac := ac) (by omega) (by omega) (by omega) ac _ _ k2 (Nat.le_refl _) y_arguments x_arguments (fun j j1 j2 => by omega)
    refine ⟨(x_textLength, nI (px + 1), x_placeCount, x_procedureCount, x_continuationCount, nI nf, 1, -1, x_form, x_framePlaces m, y_afters m, x_value, a, nI ac, x_countedCount, x_consCount, x_entryCount, x_outputCount, x_itemCount, x_text, vp_updL x_firsts px x_value, vp_updL x_rests px (x_frameValues m), x_placeNames, x_placeValues, x_placeOuters, x_procedureParts, x_procedurePlaces, x_continuationFrames, x_frameTasks, x_frameForms, x_frameValues, x_framePlaces, x_frameNexts, ax', x_outputs, x_itemKinds, x_itemNumbers, x_openLists),
      (y_size, y_pairs, y_open, y_formCount, y_places, y_procedures, y_continuationCount, nI nf, nI (fo + 1), nI ac, y_value, y_form, y_wherein, y_afters m, 0, -1000000003, y_counts, y_made, y_entered, y_printCount, y_itemCount, y_text, y_firsts, y_rests, y_heads, y_lasts, y_globals, y_placeNames, y_placeValues, y_placeNexts, y_procedureForms, y_procedurePlaces, y_continuations, y_whats, y_withs, y_whereins, y_soFars, y_afters, vp_updL y_found fo y_value, upd y_foundNexts fo (y_soFars m), ay', y_prints, y_itemKinds, y_itemNumbers, y_pile), g, fun post hp => ?_, fun _ _ _ _ => trivial, fun post hp => ?_,
      ⟨M, _, px + 1, py, pl, np, nc, nf, fo + 1, cn, et, pc, ac, rk_ig hk1, by omega, rfl, rfl, rfl, rfl, g1, rfl, rfl, g2, rfl, fm_mono (by omega) hf⟩⟩
    · refine br_f (ap_m1 (by omega)) ⟨hi, nm_r ((cl_R e).trans h7) ⟨hi, nm_r (cl_R e) ⟨hi, nm_r ((cl_R e).trans hn) ⟨hi, nm_r ((cl_R e).trans h2) (br_f (by decide) (br_t (by decide) ⟨hi, ?_⟩))⟩⟩⟩⟩
      rw [efv]
      unfold wpX_collect
      refine xs_newPair (by omega) (br_t (by rw [zk_xE]) ?_)
      unfold wpX_startApplication
      refine xs_len_ch (by omega) (fl_ch _ _ _ k2) (nm_r (nI_pred ac) (nm_r (Int32.sub_eq_add_neg (nI ac) 1) ⟨ac + 1, g3 _ hp⟩))
    · refine ⟨hj, nm_r ((cl_R e).trans h6) ⟨hj, nm_r (cl_R e) ⟨hj, nm_r (cl_R e) ⟨hj, br_f ew.1 ⟨hj, br_f ew.2.1 ⟨hj, br_f ew.2.2.1 ⟨hj, br_f ew.2.2.2 ⟨hq, nm_r (cl_L ef) ⟨hj, hq, ?_⟩⟩⟩⟩⟩⟩⟩⟩⟩
      rw [eso]
      refine nm_r (cl_I ef) (nm_r (nI_1 fo) (ys_isPair_f (by decide) (by decide) (by decide) (br_t rfl ?_)))
      rw [nI_pred]
      have hz := hp (fun u => match u with | (y_size, y_pairs, y_open, y_formCount, y_places, y_procedures, y_continuationCount, y_things, y_foundCount, y_argumentCount, y_value, y_form, y_wherein, y_next, y_working, y_ending, y_counts, y_made, y_entered, y_printCount, y_itemCount, y_text, y_firsts, y_rests, y_heads, y_lasts, y_globals, y_placeNames, y_placeValues, y_placeNexts, y_procedureForms, y_procedurePlaces, y_continuations, y_whats, y_withs, y_whereins, y_soFars, y_afters, y_found, y_foundNexts, y_arguments, y_prints, y_itemKinds, y_itemNumbers, y_pile) => post (y_size, y_pairs, y_open, y_formCount, y_places, y_procedures, y_continuationCount, y_things, y_foundCount, y_argumentCount, y_value, y_form, y_wherein, y_next, y_working, y_ending, y_counts, y_made, y_entered, y_printCount, y_itemCount, y_text, y_firsts, y_rests, y_heads, y_lasts, y_globals, y_placeNames, y_placeValues, y_placeNexts, y_procedureForms, y_procedurePlaces, y_continuations, y_whats, y_withs, y_whereins, y_soFars, y_afters, y_found, y_foundNexts, y_arguments, y_prints, y_itemKinds, y_itemNumbers, y_pile)) (fun v hv => by
        obtain ⟨y_size, y_pairs, y_open, y_formCount, y_places, y_procedures, y_continuationCount, y_things, y_foundCount, y_argumentCount, y_value, y_form, y_wherein, y_next, y_working, y_ending, y_counts, y_made, y_entered, y_printCount, y_itemCount, y_text, y_firsts, y_rests, y_heads, y_lasts, y_globals, y_placeNames, y_placeValues, y_placeNexts, y_procedureForms, y_procedurePlaces, y_continuations, y_whats, y_withs, y_whereins, y_soFars, y_afters, y_found, y_foundNexts, y_arguments, y_prints, y_itemKinds, y_itemNumbers, y_pile⟩ := v
        exact hv)
      have hcnt := fl_cnt (post := fun u => match u with | (y_size, y_pairs, y_open, y_formCount, y_places, y_procedures, y_continuationCount, y_things, y_foundCount, y_argumentCount, y_value, y_form, y_wherein, y_next, y_working, y_ending, y_counts, y_made, y_entered, y_printCount, y_itemCount, y_text, y_firsts, y_rests, y_heads, y_lasts, y_globals, y_placeNames, y_placeValues, y_placeNexts, y_procedureForms, y_procedurePlaces, y_continuations, y_whats, y_withs, y_whereins, y_soFars, y_afters, y_found, y_foundNexts, y_arguments, y_prints, y_itemKinds, y_itemNumbers, y_pile) => post (y_size, y_pairs, y_open, y_formCount, y_places, y_procedures, y_continuationCount, y_things, y_foundCount, y_argumentCount, y_value, y_form, y_wherein, y_next, y_working, y_ending, y_counts, y_made, y_entered, y_printCount, y_itemCount, y_text, y_firsts, y_rests, y_heads, y_lasts, y_globals, y_placeNames, y_placeValues, y_placeNexts, y_procedureForms, y_procedurePlaces, y_continuations, y_whats, y_withs, y_whereins, y_soFars, y_afters, y_found, y_foundNexts, y_arguments, y_prints, y_itemKinds, y_itemNumbers, y_pile)) (y_argumentCount := y_argumentCount) (x1 := nI fo) (ac := ac) (by omega) ⟨ac + 2, g4 _ 0 hz⟩ (ac + 1) 0 _ _ k2 (by omega)
      exact ⟨ac + 1 + 1, hcnt⟩
end
