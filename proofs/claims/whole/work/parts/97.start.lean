abbrev mB8 : List Value := [.int 0, .null, .null, .null, .null, .null, .int 0, .null, .int 0, .null, .null, .null, .null, .int 0]
set_option maxHeartbeats 4000000 in
set_option maxRecDepth 100000 in
theorem whole_start {p : Program} {e : Env} {s : State} {m : MethodId} {below : List Frame} {meth : Method} {c : Code} (l : Launch) (htr : l.stackTraces = false) {b L : Nat} {xs : Nat → Int32} (hL : L ≤ 3075) (C0 : lw_At p s m meth c b L xs) : W p l e room_1 s m #[Value.ref b] below meth c s.heap [] 0 0 (lw_Z below #[Value.ref b] s) (entryFrame m ([Value.ref b] : List Value).toArray 7) := by
  obtain ⟨hx, hb, hr, hml, hown, htb, hXs, hbl, hlocks, hgv⟩ := C0
  have hb : c.code = cL_law := hb
  have hown : s.vm.findClass RL = some m.cls := hown
  have hts : ∀ w ∈ lw_good, w.before #[Value.ref b] s = true := fun w h => htb w (List.mem_filter.mp h).1
  have hflat := flat_of_before _ hgv
  have hTT : mw_T s := sw_T htb (hflat xi1 (by decide +kernel)) (hflat xi2 (by decide +kernel))
  have hXX : mw_X s := sw_X htb (hflat (Cond.not (.castable xS xA)) (by decide +kernel))
  have hC : LC p l s m c b L xs := ⟨hx, hb, hml, hown, hts, hXs, hbl, hTT, hXX, htr, hL⟩
  obtain ⟨D, G, hK⟩ := sw_K htb
  have hbA : ¬ LA s b := Nat.not_le.mpr hbl
  have hw : mw_W D vwCl (mw_tys G) mw_aos (LA s) s (fun _ => none, s.heap.size) s.heap [] := ⟨⟨fun a e h => (by cases h), rfl⟩, hK, va_S.rf, fun q h => h⟩
  have hl := lv_entry ([.ref b]) (n := 7) (Nat.le_of_ble_eq_true rfl)
  rw [lg_entry_eq]
  generalize (lg_sl ([.ref b]) ++ List.replicate (7 - (lg_sl ([.ref b])).length) Slot.unset).toArray = ls at hl ⊢
  have hl : lv_has ls 7 [(0, .ref b)] := hl
  generalize hc0 : cellv L xs 0 = c0
  generalize hc1 : cellv L xs 1 = c1
  generalize hc2 : cellv L xs 2 = c2
  obtain ⟨sz, z1, z2, z3, z4, z5, z6⟩ := clp (lo := 16) (hi := 60) (by decide) (by decide) c0
  obtain ⟨pn, y1, y2, y3, y4, y5, y6⟩ := clp (lo := 0) (hi := 4) (by decide) (by decide) c1
  obtain ⟨kl, x1, x2, x3, x4, x5, x6⟩ := clp (lo := 1) (hi := 5) (by decide) (by decide) c2
  have e1 : mw_no (fun _ => none, s.heap.size) 8 mB8 = some (s.heap.size, mw_ad (fun _ => none, s.heap.size) (.inr (8, mB8))) := rfl
  generalize hS1 : mw_ad (fun _ => none, s.heap.size) (.inr (8, mB8)) = S1 at e1
  have s10 : S1.1 s.heap.size = some (.inr (8, mB8)) := by rw [← hS1]; exact if_pos rfl
  have s12 : S1.2 = s.heap.size + 1 := by rw [← hS1]; rfl
  have s1b : S1.1 b = none := by rw [← hS1]; exact if_neg (by omega)
  obtain ⟨S2, e2, hRR, n2⟩ := main_new (G := G) (N := 10000) (S := S1) (b := s.heap.size) (x1 := c0) (x2 := c1) (x3 := c2) (sz := sz) (p := pn) (kl := kl) s10 s12 ⟨z1, z2⟩ y2 ⟨x1, x2⟩ z3 y3 x3 (by decide)
  have e3 : mw_no S2 9 mBl = some (s.heap.size + 36 + 2 * pn + 4 * kl + 10, mw_ad S2 (.inr (9, mBl))) := by
    unfold mw_no
    rw [n2.2]
  generalize hS3 : mw_ad S2 (.inr (9, mBl)) = S3 at e3
  have s30 : S3.1 (s.heap.size + 36 + 2 * pn + 4 * kl + 10) = some (.inr (9, mBl)) := by rw [← hS3]; exact if_pos n2.2.symm
  have s32 : S3.2 = s.heap.size + 36 + 2 * pn + 4 * kl + 10 + 1 := by rw [← hS3]; exact congrArg (· + 1) n2.2
  have s3q : ∀ q, q < s.heap.size + 36 + 2 * pn + 4 * kl + 10 → S3.1 q = S2.1 q := fun q hq => by rw [← hS3]; exact if_neg (by rw [n2.2]; omega)
  have s3b : S3.1 b = none := by rw [s3q b (by omega), n2.1 b hbl]; exact s1b
  obtain ⟨S4, e4, hmR, n4⟩ := model_new (G := G) (N := 10000) (S := S3) (h := s.heap.size + 36 + 2 * pn + 4 * kl + 10) (x1 := c0) (x2 := c1) (x3 := c2) (sz := sz) (p := pn) (kl := kl) s30 s32 z4 z5 z6 y4 y5 y6 x4 x5 x6
  have s42 : S4.2 = s.heap.size + 36 + 2 * pn + 4 * kl + 36 := by rw [n4.2]
  have e5 : mw_nj S4 (G 8) 1 1 = some (s.heap.size + 36 + 2 * pn + 4 * kl + 36, mw_ad S4 (.inl (G 8, 1, .inr (.inl (fun _ => 0))))) := by
    unfold mw_nj
    rw [if_pos ⟨by decide, by decide⟩, s42]
    rfl
  generalize hS5 : mw_ad S4 (.inl (G 8, 1, .inr (.inl (fun _ => 0)))) = S5 at e5
  have s5q : ∀ q, q < s.heap.size + 36 + 2 * pn + 4 * kl + 36 → S5.1 q = S4.1 q := fun q hq => by rw [← hS5]; exact if_neg (by rw [s42]; omega)
  have hLW : LW G s.heap.size pn kl sz 0 S5 (mIni pn kl sz) := by
    refine ⟨hRR.fr (fun q w => ?_), hmR.fr (fun q q1 q2 => s5q q (by omega)), ⟨fun _ => 0, ?_⟩, ?_⟩
    · obtain ⟨w1, w2⟩ := w
      rw [s5q q (by omega), n4.1 q (by omega), s3q q (by omega)]
    · rw [← hS5]; exact if_pos s42.symm
    · rw [← hS5]; show _ < S4.2 + 1; omega
  have hXU : ∀ {S : mw_M} {H : Heap} {locs : List Loc}, mw_W D vwCl (mw_tys G) mw_aos (LA s) s S H locs → ∀ U : State, U.heap = H → s.WarmedH U.vm → va_X b L xs U U.heap := fun hw U hU hW => by
    rw [hU]
    exact (hXs.kept (hw.2.2.1.2.1 b hbl hbA)).moved hW.alike
  refine mw_newc hx hb hts inX8 tyX8 tyX8_ok hown (hts _ tw_17) (hts _ tw_18) (hts _ tw_1) hw (ci := 8) rfl mw_blX8 (by show _ ≤ (601024 : Nat); omega) (by show _ ≤ (7293000 : Nat); omega) dL_law_0 e1 (fun H hw => ?_)
  refine lv_dup hx hb dL_law_3 rfl ?_
  refine lv_aload_n hx hb dL_law_4 rfl (lv_at hl 0 rfl) ?_
  refine lv_iconst (v := nI 0) hx hb dL_law_5 (by decide) ?_
  refine mw_calli (va_runS (As := [.ref b, .int (nI 0)]) (rest := [.ref s.heap.size, .ref s.heap.size]) ⟨hx, hb, hml, hown, hts⟩ (cm_L_cell l D G S1 b L 0 xs (by decide) hL (fun q => by rcases q with ⟨e, q⟩ | q; (· rw [s1b] at q; cases q); (· rw [s12] at q; omega))) (cwS 2 hts (mw_gS tw_530 tw_531 tw_0 tw_532) rfl rfl rfl (by decide +kernel) ⟨Nat.le_of_ble_eq_true rfl, Nat.le_of_ble_eq_true rfl⟩) ⟨cell_blind D vwCl (mw_tys G) mw_aos S1 b L xs _, fun U hU hW => ⟨rfl, (mw_pre hw [] U hU hW).2, hXU hw U hU hW⟩⟩ rfl rfl hl.1 rfl (lv_room (Nat.le_of_ble_eq_true rfl)) dL_law_6 ⟨by show _ ≤ (601024 : Nat); omega, by show _ ≤ (7293000 : Nat); omega⟩) hw (fun H locs hw => ?_)
  rw [hc0]
  refine lv_aload_n hx hb dL_law_9 rfl (lv_at hl 0 rfl) ?_
  refine lv_iconst (v := nI 1) hx hb dL_law_10 (by decide) ?_
  refine mw_calli (va_runS (As := [.ref b, .int (nI 1)]) (rest := [.int c0, .ref s.heap.size, .ref s.heap.size]) ⟨hx, hb, hml, hown, hts⟩ (cm_L_cell l D G S1 b L 1 xs (by decide) hL (fun q => by rcases q with ⟨e, q⟩ | q; (· rw [s1b] at q; cases q); (· rw [s12] at q; omega))) (cwS 2 hts (mw_gS tw_530 tw_531 tw_0 tw_532) rfl rfl rfl (by decide +kernel) ⟨Nat.le_of_ble_eq_true rfl, Nat.le_of_ble_eq_true rfl⟩) ⟨cell_blind D vwCl (mw_tys G) mw_aos S1 b L xs _, fun U hU hW => ⟨rfl, (mw_pre hw [] U hU hW).2, hXU hw U hU hW⟩⟩ rfl rfl hl.1 rfl (lv_room (Nat.le_of_ble_eq_true rfl)) dL_law_11 ⟨by show _ ≤ (601024 : Nat); omega, by show _ ≤ (7293000 : Nat); omega⟩) hw (fun H locs hw => ?_)
  rw [hc1]
  refine lv_aload_n hx hb dL_law_14 rfl (lv_at hl 0 rfl) ?_
  refine lv_iconst (v := nI 2) hx hb dL_law_15 (by decide) ?_
  refine mw_calli (va_runS (As := [.ref b, .int (nI 2)]) (rest := [.int c1, .int c0, .ref s.heap.size, .ref s.heap.size]) ⟨hx, hb, hml, hown, hts⟩ (cm_L_cell l D G S1 b L 2 xs (by decide) hL (fun q => by rcases q with ⟨e, q⟩ | q; (· rw [s1b] at q; cases q); (· rw [s12] at q; omega))) (cwS 2 hts (mw_gS tw_530 tw_531 tw_0 tw_532) rfl rfl rfl (by decide +kernel) ⟨Nat.le_of_ble_eq_true rfl, Nat.le_of_ble_eq_true rfl⟩) ⟨cell_blind D vwCl (mw_tys G) mw_aos S1 b L xs _, fun U hU hW => ⟨rfl, (mw_pre hw [] U hU hW).2, hXU hw U hU hW⟩⟩ rfl rfl hl.1 rfl (lv_room (Nat.le_of_ble_eq_true rfl)) dL_law_16 ⟨by show _ ≤ (601024 : Nat); omega, by show _ ≤ (7293000 : Nat); omega⟩) hw (fun H locs hw => ?_)
  rw [hc2]
  refine mw_callv (va_runI (As := [.int c0, .int c1, .int c2]) (rest := [.ref s.heap.size]) ⟨hx, hb, hml, hown, hts⟩ (cm_X8_init l D G 10000 S1 s.heap.size c0 c1 c2 S2 e2) (cwI 3 hts (mw_gI tw_21) rfl rfl rfl (hts _ tw_1) (hts _ tw_19) (hts _ tw_20) rfl (by decide +kernel) ⟨Nat.le_of_ble_eq_true rfl, Nat.le_of_ble_eq_true rfl⟩) (mw_preS hw) rfl rfl hl.1 rfl (lv_room (Nat.le_of_ble_eq_true rfl)) dL_law_19 ⟨by show _ ≤ (601024 : Nat); omega, by show _ ≤ (7293000 : Nat); omega⟩) hw (fun H locs hw => ?_)
  refine lv_astore_n hx hb dL_law_22 rfl hl (by decide) rfl (fun ls hl => ?_)
  refine mw_newc hx hb hts inX9 tyX9 tyX9_ok hown (hts _ tw_717) (hts _ tw_718) (hts _ tw_11) hw (ci := 9) rfl mw_blX9 (by show _ ≤ (601024 : Nat); omega) (by show _ ≤ (7293000 : Nat); omega) dL_law_23 e3 (fun H hw => ?_)
  refine lv_dup hx hb dL_law_26 rfl ?_
  refine lv_aload_n hx hb dL_law_27 rfl (lv_at hl 1 rfl) ?_
  refine lv_iconst (v := nI 0) hx hb dL_law_28 (by decide) ?_
  refine mw_calli (va_runS (As := [.ref b, .int (nI 0)]) (rest := [.ref (s.heap.size + 36 + 2 * pn + 4 * kl + 10), .ref (s.heap.size + 36 + 2 * pn + 4 * kl + 10)]) ⟨hx, hb, hml, hown, hts⟩ (cm_L_cell l D G S3 b L 0 xs (by decide) hL (fun q => by rcases q with ⟨e, q⟩ | q; (· rw [s3b] at q; cases q); (· rw [s32] at q; omega))) (cwS 2 hts (mw_gS tw_530 tw_531 tw_0 tw_532) rfl rfl rfl (by decide +kernel) ⟨Nat.le_of_ble_eq_true rfl, Nat.le_of_ble_eq_true rfl⟩) ⟨cell_blind D vwCl (mw_tys G) mw_aos S3 b L xs _, fun U hU hW => ⟨rfl, (mw_pre hw [] U hU hW).2, hXU hw U hU hW⟩⟩ rfl rfl hl.1 rfl (lv_room (Nat.le_of_ble_eq_true rfl)) dL_law_29 ⟨by show _ ≤ (601024 : Nat); omega, by show _ ≤ (7293000 : Nat); omega⟩) hw (fun H locs hw => ?_)
  rw [hc0]
  refine lv_aload_n hx hb dL_law_32 rfl (lv_at hl 1 rfl) ?_
  refine lv_iconst (v := nI 1) hx hb dL_law_33 (by decide) ?_
  refine mw_calli (va_runS (As := [.ref b, .int (nI 1)]) (rest := [.int c0, .ref (s.heap.size + 36 + 2 * pn + 4 * kl + 10), .ref (s.heap.size + 36 + 2 * pn + 4 * kl + 10)]) ⟨hx, hb, hml, hown, hts⟩ (cm_L_cell l D G S3 b L 1 xs (by decide) hL (fun q => by rcases q with ⟨e, q⟩ | q; (· rw [s3b] at q; cases q); (· rw [s32] at q; omega))) (cwS 2 hts (mw_gS tw_530 tw_531 tw_0 tw_532) rfl rfl rfl (by decide +kernel) ⟨Nat.le_of_ble_eq_true rfl, Nat.le_of_ble_eq_true rfl⟩) ⟨cell_blind D vwCl (mw_tys G) mw_aos S3 b L xs _, fun U hU hW => ⟨rfl, (mw_pre hw [] U hU hW).2, hXU hw U hU hW⟩⟩ rfl rfl hl.1 rfl (lv_room (Nat.le_of_ble_eq_true rfl)) dL_law_34 ⟨by show _ ≤ (601024 : Nat); omega, by show _ ≤ (7293000 : Nat); omega⟩) hw (fun H locs hw => ?_)
  rw [hc1]
  refine lv_aload_n hx hb dL_law_37 rfl (lv_at hl 1 rfl) ?_
  refine lv_iconst (v := nI 2) hx hb dL_law_38 (by decide) ?_
  refine mw_calli (va_runS (As := [.ref b, .int (nI 2)]) (rest := [.int c1, .int c0, .ref (s.heap.size + 36 + 2 * pn + 4 * kl + 10), .ref (s.heap.size + 36 + 2 * pn + 4 * kl + 10)]) ⟨hx, hb, hml, hown, hts⟩ (cm_L_cell l D G S3 b L 2 xs (by decide) hL (fun q => by rcases q with ⟨e, q⟩ | q; (· rw [s3b] at q; cases q); (· rw [s32] at q; omega))) (cwS 2 hts (mw_gS tw_530 tw_531 tw_0 tw_532) rfl rfl rfl (by decide +kernel) ⟨Nat.le_of_ble_eq_true rfl, Nat.le_of_ble_eq_true rfl⟩) ⟨cell_blind D vwCl (mw_tys G) mw_aos S3 b L xs _, fun U hU hW => ⟨rfl, (mw_pre hw [] U hU hW).2, hXU hw U hU hW⟩⟩ rfl rfl hl.1 rfl (lv_room (Nat.le_of_ble_eq_true rfl)) dL_law_39 ⟨by show _ ≤ (601024 : Nat); omega, by show _ ≤ (7293000 : Nat); omega⟩) hw (fun H locs hw => ?_)
  rw [hc2]
  refine mw_callv (va_runI (As := [.int c0, .int c1, .int c2]) (rest := [.ref (s.heap.size + 36 + 2 * pn + 4 * kl + 10)]) ⟨hx, hb, hml, hown, hts⟩ (cm_X9_init l D G 10000 S3 (s.heap.size + 36 + 2 * pn + 4 * kl + 10) c0 c1 c2 S4 e4) (cwI 3 hts (mw_gI tw_721) rfl rfl rfl (hts _ tw_11) (hts _ tw_719) (hts _ tw_720) rfl (by decide +kernel) ⟨Nat.le_of_ble_eq_true rfl, Nat.le_of_ble_eq_true rfl⟩) (mw_preS hw) rfl rfl hl.1 rfl (lv_room (Nat.le_of_ble_eq_true rfl)) dL_law_42 ⟨by show _ ≤ (601024 : Nat); omega, by show _ ≤ (7293000 : Nat); omega⟩) hw (fun H locs hw => ?_)
  refine lv_astore_n hx hb dL_law_45 rfl hl (by decide) rfl (fun ls hl => ?_)
  refine lv_iconst (v := 1) hx hb dL_law_46 (by decide) ?_
  refine mw_newj (atype := .long) hx hb (hts _ tw_1006) rfl rfl hw 8 rfl rfl (cap := 1) (by decide) (by show _ ≤ (601024 : Nat); omega) (by show _ ≤ (7293000 : Nat); omega) e5 dL_law_47 (fun H hw => ?_)
  refine lv_astore_n hx hb dL_law_49 rfl hl (by decide) rfl (fun ls hl => ?_)
  refine lv_iconst (v := nI 3) hx hb dL_law_50 (by decide) ?_
  refine lv_istore hx hb dL_law_51 hl (by decide) rfl (fun ls hl => ?_)
  exact lw_loop hC hr hlocks (Nat.le_refl _) 512 3 0 _ _ S5 (mIni pn kl sz) H locs ls (by omega) (by omega) hLW (lv_sub hl [4, 3, 2, 1, 0] rfl) hw (by decide) (by decide) (by decide)
