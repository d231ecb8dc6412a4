theorem lg_iff {i L : Nat} (hL : L ≤ 3075) (hi : i ≤ 4000) : (Int32.ofNat L - 6 < nI i) ↔ L < i + 6 := by
  by_cases h : 6 ≤ L
  · have e : Int32.ofNat L - 6 = nI (L - 6) := nI_sb (a := L) (b := 6) h
    rw [e, nI_ltI (by omega) (by omega)]
    omega
  · have h0 : Int32.ofNat L - 6 < 0 := by
      rcases (show L = 0 ∨ L = 1 ∨ L = 2 ∨ L = 3 ∨ L = 4 ∨ L = 5 by omega) with rfl | rfl | rfl | rfl | rfl | rfl <;> decide
    have h1 : (0 : Int32) ≤ nI i := nI_le (a := 0) (Nat.zero_le i) (by omega)
    exact ⟨fun _ => by omega, fun _ => Int32.lt_of_lt_of_le h0 h1⟩
section LLP
variable {p : Program} {l : Launch} {e : Env} {s : State} {m : MethodId} {below : List Frame} {meth : Method} {c : Code} {b L : Nat} {xs : Nat → Int32} {D : va_G} {G : Nat → ClassId} {X pn kl sz : Nat}
set_option maxHeartbeats 4000000 in
set_option maxRecDepth 100000 in
theorem lw_loop (hC : LC p l s m c b L xs) (hr : meth.sig.returnType = ret) (hlocks : meth.locks = false) (hX : s.heap.size ≤ X) : ∀ (n i kc cells slots : Nat) (S : mw_M) (M : mm_M) (H : Heap) (locs : List Loc) (ls : Array Slot), L ≤ i + 6 * n + 5 → i ≤ L + 3 → LW G X pn kl sz kc S M → lv_has ls 7 (LV b X pn kl i) → mw_W D vwCl (mw_tys G) mw_aos (LA s) s S H locs → cells + n ≤ 601024 → slots + 6 * n ≤ 7293000 → kc + n < 100000 → W p l e room_1 s m #[Value.ref b] below meth c H locs cells slots (lw_Z below #[Value.ref b] s) (F0 m 53 ls []) := by
  have hC0 := hC
  obtain ⟨hx, hb, hml, hown, hts, hXs, hbl, hTT, hXX, htr, hL⟩ := hC
  have hbA : ¬ LA s b := Nat.not_le.mpr hbl
  intro n
  induction n with
  | zero =>
    intro i kc cells slots S M H locs ls h1 h2 hLW hl hw h3 h4 h5
    refine lv_iload hx hb dL_law_53 (lv_at hl 4 rfl) ?_
    refine lv_aload_n hx hb dL_law_55 rfl (lv_at hl 0 rfl) ?_
    refine va_slen hx hb hXs hbl hbA hw.2.2.1 dL_law_56 ?_
    refine lv_bipush (v := 6) hx hb dL_law_57 (by decide) ?_
    refine lv_isub hx hb dL_law_59 ?_
    refine lv_icmp_gt hx hb dL_law_60 (tgt := 919) (by decide) (fun _ => ?_) (fun hgt => ?_)
    · refine lv_iconst (v := 1) hx hb dL_law_919 (by decide) ?_
      refine W.widen (k := 601024) (n := 7293000) (by omega) (by omega) ?_
      refine va_forget (fun q hq => hw.2.2.1.2.2 q hq) ?_
      exact lw_ret hx hb hr hlocks dL_law_920
    · exact absurd ((lg_iff hL (by omega)).mpr (by omega)) hgt
  | succ n ih =>
    intro i kc cells slots S M H locs ls h1 h2 hLW hl hw h3 h4 h5
    refine lv_iload hx hb dL_law_53 (lv_at hl 4 rfl) ?_
    refine lv_aload_n hx hb dL_law_55 rfl (lv_at hl 0 rfl) ?_
    refine va_slen hx hb hXs hbl hbA hw.2.2.1 dL_law_56 ?_
    refine lv_bipush (v := 6) hx hb dL_law_57 (by decide) ?_
    refine lv_isub hx hb dL_law_59 ?_
    refine lv_icmp_gt hx hb dL_law_60 (tgt := 919) (by decide) (fun _ => ?_) (fun hgt => ?_)
    · refine lv_iconst (v := 1) hx hb dL_law_919 (by decide) ?_
      refine W.widen (k := 601024) (n := 7293000) (by omega) (by omega) ?_
      refine va_forget (fun q hq => hw.2.2.1.2.2 q hq) ?_
      exact lw_ret hx hb hr hlocks dL_law_920
    · have hi : i + 6 ≤ L := Nat.le_of_not_lt (fun q => hgt ((lg_iff hL (by omega)).mpr q))
      have kk : LK p l e s m below meth c (lw_Z below #[Value.ref b] s) b D G X pn kl sz (kc + 1) i cells slots := by
        intro S1 M1 H1 locs1 ls1 c1 s1 q1 q2 qLW ql qw
        refine lv_iinc hx hb dL_law_913 ql (k := 4) rfl (show nI i + Int32.ofInt 6 = nI (i + 6) from nI_add i 6) (by decide) rfl (fun ls hl => ?_)
        refine lv_goto hx hb dL_law_916 (tgt := 53) (by decide) ?_
        exact ih (i + 6) (kc + 1) c1 s1 S1 M1 H1 locs1 ls (by omega) (by omega) qLW (lv_sub hl [1, 2, 3, 4, 0] rfl) qw (by omega) (by omega) (by omega)
      refine lv_aload_n hx hb dL_law_63 rfl (lv_at hl 0 rfl) ?_
      refine lv_iload hx hb dL_law_64 (lv_at hl 4 rfl) ?_
      refine va_sld hx hb hXs hbl hbA hw.2.2.1 (vp_in_nI (by omega) (by omega)) dL_law_66 ?_
      refine lv_bipush (v := 31) hx hb dL_law_67 (by decide) ?_
      refine lv_iand hx hb dL_law_69 ?_
      generalize xs (nI i).toNatClampNeg &&& 31 = v
      rcases Classical.em (v = 0) with hc0 | hc0
      · refine lv_tableIn hx hb dL_law_70 (off := 90) (tgt := 160) (by rw [hc0]; decide) (by rw [hc0]; decide) (by rw [hc0]; rfl) (by decide) ?_
        exact lc_write hC0 hi hX hLW hl hw (by omega) (by omega) (by omega) kk
      rcases Classical.em (v = 1) with hc1 | hc1
      · refine lv_tableIn hx hb dL_law_70 (off := 117) (tgt := 187) (by rw [hc1]; decide) (by rw [hc1]; decide) (by rw [hc1]; rfl) (by decide) ?_
        exact lc_advance hC0 hi hX hLW hl hw (by omega) (by omega) (by omega) kk
      rcases Classical.em (v = 2) with hc2 | hc2
      · refine lv_tableIn hx hb dL_law_70 (off := 142) (tgt := 212) (by rw [hc2]; decide) (by rw [hc2]; decide) (by rw [hc2]; rfl) (by decide) ?_
        exact lc_type hC0 hi hX hLW hl hw (by omega) (by omega) (by omega) kk
      rcases Classical.em (v = 3) with hc3 | hc3
      · refine lv_tableIn hx hb dL_law_70 (off := 226) (tgt := 296) (by rw [hc3]; decide) (by rw [hc3]; decide) (by rw [hc3]; rfl) (by decide) ?_
        exact lc_begin hC0 hi hX hLW hl hw (by omega) (by omega) (by omega) kk
      rcases Classical.em (v = 4) with hc4 | hc4
      · refine lv_tableIn hx hb dL_law_70 (off := 251) (tgt := 321) (by rw [hc4]; decide) (by rw [hc4]; decide) (by rw [hc4]; rfl) (by decide) ?_
        exact lc_commit hC0 hi hX hLW hl hw (by omega) (by omega) (by omega) kk
      rcases Classical.em (v = 5) with hc5 | hc5
      · refine lv_tableIn hx hb dL_law_70 (off := 324) (tgt := 394) (by rw [hc5]; decide) (by rw [hc5]; decide) (by rw [hc5]; rfl) (by decide) ?_
        exact lc_flush hC0 hi hX hLW hl hw (by omega) (by omega) (by omega) kk
      rcases Classical.em (v = 6) with hc6 | hc6
      · refine lv_tableIn hx hb dL_law_70 (off := 337) (tgt := 407) (by rw [hc6]; decide) (by rw [hc6]; decide) (by rw [hc6]; rfl) (by decide) ?_
        exact lc_record hC0 hi hX hLW hl hw (by omega) (by omega) (by omega) kk
      rcases Classical.em (v = 7) with hc7 | hc7
      · refine lv_tableIn hx hb dL_law_70 (off := 381) (tgt := 451) (by rw [hc7]; decide) (by rw [hc7]; decide) (by rw [hc7]; rfl) (by decide) ?_
        exact lc_settings hC0 hi hX hLW hl hw (by omega) (by omega) (by omega) kk
      rcases Classical.em (v = 8) with hc8 | hc8
      · refine lv_tableIn hx hb dL_law_70 (off := 437) (tgt := 507) (by rw [hc8]; decide) (by rw [hc8]; decide) (by rw [hc8]; rfl) (by decide) ?_
        exact lc_profile hC0 hi hX hLW hl hw (by omega) (by omega) (by omega) kk
      rcases Classical.em (v = 9) with hc9 | hc9
      · refine lv_tableIn hx hb dL_law_70 (off := 450) (tgt := 520) (by rw [hc9]; decide) (by rw [hc9]; decide) (by rw [hc9]; rfl) (by decide) ?_
        exact lc_start hC0 hi hX hLW hl hw (by omega) (by omega) (by omega) kk
      rcases Classical.em (v = 10) with hc10 | hc10
      · refine lv_tableIn hx hb dL_law_70 (off := 506) (tgt := 576) (by rw [hc10]; decide) (by rw [hc10]; decide) (by rw [hc10]; rfl) (by decide) ?_
        exact lc_stop hC0 hi hX hLW hl hw (by omega) (by omega) (by omega) kk
      rcases Classical.em (v = 11) with hc11 | hc11
      · refine lv_tableIn hx hb dL_law_70 (off := 562) (tgt := 632) (by rw [hc11]; decide) (by rw [hc11]; decide) (by rw [hc11]; rfl) (by decide) ?_
        exact lc_close hC0 hi hX hLW hl hw (by omega) (by omega) (by omega) kk
      rcases Classical.em (v = 12) with hc12 | hc12
      · refine lv_tableIn hx hb dL_law_70 (off := 625) (tgt := 695) (by rw [hc12]; decide) (by rw [hc12]; decide) (by rw [hc12]; rfl) (by decide) ?_
        exact lc_dump hC0 hi hX hLW hl hw (by omega) (by omega) (by omega) kk
      rcases Classical.em (v = 13) with hc13 | hc13
      · refine lv_tableIn hx hb dL_law_70 (off := 681) (tgt := 751) (by rw [hc13]; decide) (by rw [hc13]; decide) (by rw [hc13]; rfl) (by decide) ?_
        exact lc_output hC0 hi hX hLW hl hw (by omega) (by omega) (by omega) kk
      rcases Classical.em (v = 14) with hc14 | hc14
      · refine lv_tableIn hx hb dL_law_70 (off := 706) (tgt := 776) (by rw [hc14]; decide) (by rw [hc14]; decide) (by rw [hc14]; rfl) (by decide) ?_
        exact lc_state hC0 hi hX hLW hl hw (by omega) (by omega) (by omega) kk
      rcases Classical.em (v = 15) with hc15 | hc15
      · refine lv_tableIn hx hb dL_law_70 (off := 731) (tgt := 801) (by rw [hc15]; decide) (by rw [hc15]; decide) (by rw [hc15]; rfl) (by decide) ?_
        exact lc_threshold hC0 hi hX hLW hl hw (by omega) (by omega) (by omega) kk
      rcases Classical.em (v = 16) with hc16 | hc16
      · refine lv_tableIn hx hb dL_law_70 (off := 768) (tgt := 838) (by rw [hc16]; decide) (by rw [hc16]; decide) (by rw [hc16]; rfl) (by decide) ?_
        exact lc_buffered hC0 hi hX hLW hl hw (by omega) (by omega) (by omega) kk
      rcases Classical.em (v = 17) with hc17 | hc17
      · refine lv_tableIn hx hb dL_law_70 (off := 793) (tgt := 863) (by rw [hc17]; decide) (by rw [hc17]; decide) (by rw [hc17]; rfl) (by decide) ?_
        exact lc_count hC0 hi hX hLW hl hw (by omega) (by omega) (by omega) kk
      rcases Classical.em (v = 18) with hc18 | hc18
      · refine lv_tableIn hx hb dL_law_70 (off := 818) (tgt := 888) (by rw [hc18]; decide) (by rw [hc18]; decide) (by rw [hc18]; rfl) (by decide) ?_
        exact lc_lost hC0 hi hX hLW hl hw (by omega) (by omega) (by omega) kk
      refine lv_tableOut hx hb dL_law_70 (tgt := 913) (mw_tout18 hc0 hc1 hc2 hc3 hc4 hc5 hc6 hc7 hc8 hc9 hc10 hc11 hc12 hc13 hc14 hc15 hc16 hc17 hc18) (by decide) ?_
      exact kk S M H locs ls cells slots (by omega) (by omega) (hLW.mono (by omega) (by omega)) hl hw
end LLP
