/-! the relation of both sides in a run -/
def en_R (pl : Nat) (y x : Int32) : Prop := (y = -1 ∧ x = 0) ∨ ∃ e, e < pl ∧ y = nI e ∧ x = nI (e + 10)
def fm_N (nf : Nat) (f : Int32) : Prop := f = -1 ∨ ∃ m, m < nf ∧ f = nI m
def so_R (G : Nat → Nat) (fo : Nat) (y : Int32) (x : Int64) : Prop := (y = -1 ∧ x = zv_c 3 0) ∨ ∃ m, m < fo ∧ y = nI m ∧ x = zv_c 2 (G m)
def fd_OK (T : Nat → Nat) (n : Nat) (M : Nat → Nat → Prop) (np nc : Nat) (G : Nat → Nat) (fo px : Nat) (FX RX fnd : Nat → Int64) (fnx : Nat → Int32) : Prop :=
  ∀ k, k < fo → G k < px ∧ (∀ p, ¬ M p (G k)) ∧ (∀ r j, pz_Nd T n r j → G k ≠ pz_AX T n r j) ∧ zv_V M np nc (fnd k) (FX (G k)) ∧ so_R G k (fnx k) (RX (G k))
def fr_OK (T : Nat → Nat) (n : Nat) (G : Nat → Nat) (nf fo pl : Nat) (wh : Nat → Int32) (wi : Nat → Int64) (we so af tk : Nat → Int32) (fm vl : Nat → Int64) (pc nx : Nat → Int32) : Prop :=
  ∀ i, i < nf → en_R pl (we i) (pc i) ∧ fm_N i (af i) ∧ nx i = af i ∧
    ((∃ w p, w < 2 ∧ wh i = nI w ∧ tk i = nI w ∧ ls_P T n p ∧ p < n ∧ T p ≠ 1 ∧ wi i = cd_yl T n p ∧ fm i = cd_xl T n p) ∨
     (∃ w k, 2 ≤ w ∧ w < 4 ∧ wh i = nI w ∧ tk i = nI w ∧ 30 ≤ k ∧ k ≤ 39 ∧ wi i = zv_c 4 k ∧ fm i = zv_c 1 k) ∨
     (∃ p, wh i = 4 ∧ tk i = 4 ∧ ls_P T n p ∧ wi i = cd_yl T n p ∧ fm i = cd_xl T n p ∧ so_R G fo (so i) (vl i)))
def pl_OK (M : Nat → Nat → Prop) (np nc pl : Nat) (gl : Nat → Int64) (pn : Nat → Int32) (pv : Nat → Int64) (pe xn : Nat → Int32) (xv : Nat → Int64) (xo : Nat → Int32) : Prop :=
  (∀ k, k < 10 → (gl k = zv_c 9 0 ∧ xv k = -1) ∨ zv_V M np nc (gl k) (xv k)) ∧
  (∀ e, e < pl → (∃ k, 30 ≤ k ∧ k ≤ 39 ∧ pn e = nI k) ∧ xn (e + 10) = pn e ∧ zv_V M np nc (pv e) (xv (e + 10)) ∧ en_R e (pe e) (xo (e + 10)))
def pc_OK (T : Nat → Nat) (n pl np : Nat) (pf : Nat → Int64) (pp : Nat → Int32) (xp : Nat → Int64) (xq : Nat → Int32) : Prop :=
  ∀ i, i < np → en_R pl (pp i) (xq i) ∧ ∃ p c, ls_P T n p ∧ p < n ∧ pf i = cd_yl T n p ∧ xp i = cd_xl T n p ∧ na_L T p c ∧ pz_nx T n p < n ∧ T (pz_nx T n p) ≠ 1
def ct_OK (nc nf : Nat) (cy cx : Nat → Int32) : Prop := ∀ i, i < nc → cx i = cy i ∧ fm_N nf (cy i)
def tx_R (T : Nat → Nat) (n : Nat) (u : SX) (v : SY) : Prop := match u, v with
  | (x_textLength, x_pairCount, x_placeCount, x_procedureCount, x_continuationCount, x_frameCount, x_state, x_ending, x_form, x_environment, x_frame, x_value, x_applied, x_argumentCount, x_countedCount, x_consCount, x_entryCount, x_outputCount, x_itemCount, x_text, x_firsts, x_rests, x_placeNames, x_placeValues, x_placeOuters, x_procedureParts, x_procedurePlaces, x_continuationFrames, x_frameTasks, x_frameForms, x_frameValues, x_framePlaces, x_frameNexts, x_arguments, x_outputs, x_itemKinds, x_itemNumbers, x_openLists), (y_size, y_pairs, y_open, y_formCount, y_places, y_procedures, y_continuationCount, y_things, y_foundCount, y_argumentCount, y_value, y_form, y_wherein, y_next, y_working, y_ending, y_counts, y_made, y_entered, y_printCount, y_itemCount, y_text, y_firsts, y_rests, y_heads, y_lasts, y_globals, y_placeNames, y_placeValues, y_placeNexts, y_procedureForms, y_procedurePlaces, y_continuations, y_whats, y_withs, y_whereins, y_soFars, y_afters, y_found, y_foundNexts, y_arguments, y_prints, y_itemKinds, y_itemNumbers, y_pile) => n ≤ 70 ∧ (∀ i, i < n → zv_tk (T i)) ∧ x_textLength = nI n ∧ y_size = nI n ∧ ∀ i, i < n → x_text i = nI (T i) ∧ y_text i = nI (T i)
def sm_R (T : Nat → Nat) (n : Nat) (M : Nat → Nat → Prop) (G : Nat → Nat) (px py pl np nc nf fo co cn et pc : Nat) (u : SX) (v : SY) : Prop := match u, v with
  | (x_textLength, x_pairCount, x_placeCount, x_procedureCount, x_continuationCount, x_frameCount, x_state, x_ending, x_form, x_environment, x_frame, x_value, x_applied, x_argumentCount, x_countedCount, x_consCount, x_entryCount, x_outputCount, x_itemCount, x_text, x_firsts, x_rests, x_placeNames, x_placeValues, x_placeOuters, x_procedureParts, x_procedurePlaces, x_continuationFrames, x_frameTasks, x_frameForms, x_frameValues, x_framePlaces, x_frameNexts, x_arguments, x_outputs, x_itemKinds, x_itemNumbers, x_openLists), (y_size, y_pairs, y_open, y_formCount, y_places, y_procedures, y_continuationCount, y_things, y_foundCount, y_argumentCount, y_value, y_form, y_wherein, y_next, y_working, y_ending, y_counts, y_made, y_entered, y_printCount, y_itemCount, y_text, y_firsts, y_rests, y_heads, y_lasts, y_globals, y_placeNames, y_placeValues, y_placeNexts, y_procedureForms, y_procedurePlaces, y_continuations, y_whats, y_withs, y_whereins, y_soFars, y_afters, y_found, y_foundNexts, y_arguments, y_prints, y_itemKinds, y_itemNumbers, y_pile) =>
    (pz_Rd T n ∧ n ≤ 70 ∧ (∀ i, i < n → zv_tk (T i)) ∧ ∀ i, i < n → x_text i = nI (T i) ∧ y_text i = nI (T i)) ∧
    (x_textLength = nI n ∧ x_pairCount = nI px ∧ x_placeCount = nI (pl + 10) ∧ x_procedureCount = nI np ∧ x_continuationCount = nI nc ∧ x_frameCount = nI nf ∧ x_countedCount = nI co ∧ x_consCount = nI cn ∧ x_entryCount = nI et ∧ x_outputCount = nI pc ∧ x_itemCount = -1000000003) ∧
    (y_size = nI n ∧ y_pairs = nI py ∧ y_places = nI pl ∧ y_procedures = nI np ∧ y_continuationCount = nI nc ∧ y_things = nI nf ∧ y_foundCount = nI fo ∧ y_counts = nI co ∧ y_made = nI cn ∧ y_entered = nI et ∧ y_printCount = nI pc) ∧
    (co ≤ 600 ∧ px ≤ 140 + cn + fo ∧ py ≤ 140 + cn ∧ cn ≤ co ∧ np ≤ co ∧ nc ≤ co ∧ pl ≤ 4 * co ∧ pc ≤ 20) ∧
    cd_OK T n y_firsts y_rests x_firsts x_rests ∧
    (hp_OK T n M np nc py px y_firsts y_rests x_firsts x_rests ∧ ∀ p q, cd_M T n p q → M p q) ∧
    fd_OK T n M np nc G fo px x_firsts x_rests y_found y_foundNexts ∧
    fr_OK T n G nf fo pl y_whats y_withs y_whereins y_soFars y_afters x_frameTasks x_frameForms x_frameValues x_framePlaces x_frameNexts ∧
    pl_OK M np nc pl y_globals y_placeNames y_placeValues y_placeNexts x_placeNames x_placeValues x_placeOuters ∧
    pc_OK T n pl np y_procedureForms y_procedurePlaces x_procedureParts x_procedurePlaces ∧
    ct_OK nc nf y_continuations x_continuationFrames ∧
    (∀ i, i < pc → x_outputs i = y_prints i)
