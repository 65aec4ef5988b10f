set_option maxHeartbeats 8000000 in
set_option maxRecDepth 100000 in
theorem lw_loop {p : Program} {l : Launch} {e : Env} {s : State} {mm : MethodId} {below : List Frame} {meth : Method} {c : Code} {k0 n0 : Nat} {Inv : Nat → az_S × Nat → az_M → Prop} {G b L : Nat} {xs : Nat → Int32} (obs : ∀ m Z M, Inv m Z M → Inv (m + 1) Z M) (ob0 : Ob_put Inv G) (ob1 : Ob_bullet Inv G) (ob2 : Ob_place Inv G) (ob3 : Ob_at Inv G) (ob4 : Ob_person Inv G) (ob5 : Ob_of Inv G) (ob6 : Ob_quarrel Inv G) (ob7 : Ob_about Inv G) (ob8 : Ob_terms Inv G) (ob9 : Ob_feed Inv G) (ob10 : Ob_end Inv G) (ob11 : Ob_row Inv G) (ob12 : Ob_chips Inv G) (ob13 : Ob_law Inv G) (ob14 : Ob_orders Inv G) (ob15 : Ob_fault Inv G) (ob16 : Ob_stopped Inv G) (ob17 : Ob_force Inv G) (ob18 : Ob_barred Inv G) (ob19 : Ob_fire Inv G) (ob20 : Ob_duel Inv G) (ob21 : Ob_rest Inv G) (ob22 : Ob_undo Inv G) (ob23 : Ob_log Inv G) (ob24 : Ob_odds Inv G) (ob25 : Ob_queue Inv G) (ob26 : Ob_spades Inv G) (ob27 : Ob_free Inv G) (ob28 : Ob_marks Inv G) (ob29 : Ob_game Inv G) (ob30 : Ob_share Inv G) (ob31 : Ob_season Inv G) (ob32 : Ob_drawn Inv G) (ob33 : Ob_image Inv G) (ob34 : Ob_back Inv G) (ob35 : Ob_count Inv G) (ob36 : Ob_status Inv G) (hS : az_sc (p, l, e, room_1, s, mm, #[Value.ref b], below, meth, c, (fun q => s.heap.size ≤ q), k0, n0) b L xs) (hL2 : L ≤ 3072) : ∀ (f m : Nat), 520 ≤ f + m → 6 * m ≤ L + 6 → lw_H (p, l, e, room_1, s, mm, #[Value.ref b], below, meth, c, (fun q => s.heap.size ≤ q), k0, n0) b Inv (lw_Z below #[Value.ref b] s) m := by
  generalize hY : ((p, l, e, room_1, s, mm, #[Value.ref b], below, meth, c, (fun q => s.heap.size ≤ q), k0, n0) : az_Y) = Y at hS ⊢
  have hR : Y.2.2.2.1.cells = 600000 ∧ Y.2.2.2.1.slots = 7302250 := by rw [← hY]; exact ⟨rfl, rfl⟩
  intro f
  induction f with
  | zero => intro m h1 h2; exact absurd h1 (by omega)
  | succ f ihf =>
    intro m hf hm
    intro V M k n C hI hk hn2
    have e32 : (Int32.ofNat L) = nI L := rfl
    refine az_iload_n C 3 dL_law_18 rfl ?_
    refine az_aload_n C 0 dL_law_19 rfl ?_
    refine az_slenr C hS dL_law_20 ?_
    refine az_bipush (v := 6) C dL_law_21 (by decide) ?_
    refine az_isub C dL_law_23 ?_
    have eL : (Int32.ofNat L - 6).toInt = (L : Int) - 6 := pk_sub_toInt (a := L) (b := 6) (by omega) (by omega)
    have em : (nI (6 * m)).toInt = ((6 * m : Nat) : Int) := nI_toInt (by omega)
    refine az_icmp_gt C 1203 dL_law_24 (by decide) (fun cg => ?_) (fun cg => ?_)
    · refine az_iconst (v := 1) C dL_law_1203 (by decide) ?_
      exact lw_end hY C (by omega) (by omega)
    have hlt : 6 * m + 6 ≤ L := by
      have := Int32.not_lt.mp cg
      have := Int32.le_iff_toInt_le.mp this
      rw [eL, em] at this
      omega
    have ih := ihf (m + 1) (by omega) (by omega)
    refine az_aload_n C 0 dL_law_27 rfl ?_
    refine az_iload_n C 3 dL_law_28 rfl ?_
    refine az_sarg0 C hS (by omega) (by omega) dL_law_29 ?_
    refine az_bipush (v := 63) C dL_law_30 (by decide) ?_
    refine az_iand C dL_law_32 ?_
    by_cases c0 : (xs (6 * m) &&& 63) = 0
    · refine az_tabIn (off := 163) C 196 dL_law_33 (by rw [c0]; decide) (by rw [c0]; decide) (by rw [c0]; decide) (by decide) ?_
      exact lc_put ob0 hS hR (by omega) hL2 ih C hI hk hn2
    have n0 := lv_neT c0 (a := 0) (by decide)
    by_cases c1 : (xs (6 * m) &&& 63) = 1
    · refine az_tabIn (off := 196) C 229 dL_law_33 (by rw [c1]; decide) (by rw [c1]; decide) (by rw [c1]; decide) (by decide) ?_
      exact lc_bullet ob1 hS hR (by omega) hL2 ih C hI hk hn2
    have n1 := lv_neT c1 (a := 1) (by decide)
    by_cases c2 : (xs (6 * m) &&& 63) = 2
    · refine az_tabIn (off := 219) C 252 dL_law_33 (by rw [c2]; decide) (by rw [c2]; decide) (by rw [c2]; decide) (by decide) ?_
      exact lc_place ob2 hS hR (by omega) hL2 ih C hI hk hn2
    have n2 := lv_neT c2 (a := 2) (by decide)
    by_cases c3 : (xs (6 * m) &&& 63) = 3
    · refine az_tabIn (off := 262) C 295 dL_law_33 (by rw [c3]; decide) (by rw [c3]; decide) (by rw [c3]; decide) (by decide) ?_
      exact lc_at ob3 hS hR (by omega) hL2 ih C hI hk hn2
    have n3 := lv_neT c3 (a := 3) (by decide)
    by_cases c4 : (xs (6 * m) &&& 63) = 4
    · refine az_tabIn (off := 295) C 328 dL_law_33 (by rw [c4]; decide) (by rw [c4]; decide) (by rw [c4]; decide) (by decide) ?_
      exact lc_person ob4 hS hR (by omega) hL2 ih C hI hk hn2
    have n4 := lv_neT c4 (a := 4) (by decide)
    by_cases c5 : (xs (6 * m) &&& 63) = 5
    · refine az_tabIn (off := 328) C 361 dL_law_33 (by rw [c5]; decide) (by rw [c5]; decide) (by rw [c5]; decide) (by decide) ?_
      exact lc_of ob5 hS hR (by omega) hL2 ih C hI hk hn2
    have n5 := lv_neT c5 (a := 5) (by decide)
    by_cases c6 : (xs (6 * m) &&& 63) = 6
    · refine az_tabIn (off := 361) C 394 dL_law_33 (by rw [c6]; decide) (by rw [c6]; decide) (by rw [c6]; decide) (by decide) ?_
      exact lc_quarrel ob6 hS hR (by omega) hL2 ih C hI hk hn2
    have n6 := lv_neT c6 (a := 6) (by decide)
    by_cases c7 : (xs (6 * m) &&& 63) = 7
    · refine az_tabIn (off := 414) C 447 dL_law_33 (by rw [c7]; decide) (by rw [c7]; decide) (by rw [c7]; decide) (by decide) ?_
      exact lc_about ob7 hS hR (by omega) hL2 ih C hI hk hn2
    have n7 := lv_neT c7 (a := 7) (by decide)
    by_cases c8 : (xs (6 * m) &&& 63) = 8
    · refine az_tabIn (off := 447) C 480 dL_law_33 (by rw [c8]; decide) (by rw [c8]; decide) (by rw [c8]; decide) (by decide) ?_
      exact lc_terms ob8 hS hR (by omega) hL2 ih C hI hk hn2
    have n8 := lv_neT c8 (a := 8) (by decide)
    by_cases c9 : (xs (6 * m) &&& 63) = 9
    · refine az_tabIn (off := 480) C 513 dL_law_33 (by rw [c9]; decide) (by rw [c9]; decide) (by rw [c9]; decide) (by decide) ?_
      exact lc_feed ob9 hS hR (by omega) hL2 ih C hI hk hn2
    have n9 := lv_neT c9 (a := 9) (by decide)
    by_cases c10 : (xs (6 * m) &&& 63) = 10
    · refine az_tabIn (off := 543) C 576 dL_law_33 (by rw [c10]; decide) (by rw [c10]; decide) (by rw [c10]; decide) (by decide) ?_
      exact lc_end ob10 hS hR (by omega) hL2 ih C hI hk hn2
    have n10 := lv_neT c10 (a := 10) (by decide)
    by_cases c11 : (xs (6 * m) &&& 63) = 11
    · refine az_tabIn (off := 566) C 599 dL_law_33 (by rw [c11]; decide) (by rw [c11]; decide) (by rw [c11]; decide) (by decide) ?_
      exact lc_row ob11 hS hR (by omega) hL2 ih C hI hk hn2
    have n11 := lv_neT c11 (a := 11) (by decide)
    by_cases c12 : (xs (6 * m) &&& 63) = 12
    · refine az_tabIn (off := 579) C 612 dL_law_33 (by rw [c12]; decide) (by rw [c12]; decide) (by rw [c12]; decide) (by decide) ?_
      exact lc_chips ob12 hS hR (by omega) hL2 ih C hI hk hn2
    have n12 := lv_neT c12 (a := 12) (by decide)
    by_cases c13 : (xs (6 * m) &&& 63) = 13
    · refine az_tabIn (off := 592) C 625 dL_law_33 (by rw [c13]; decide) (by rw [c13]; decide) (by rw [c13]; decide) (by decide) ?_
      exact lc_law ob13 hS hR (by omega) hL2 ih C hI hk hn2
    have n13 := lv_neT c13 (a := 13) (by decide)
    by_cases c14 : (xs (6 * m) &&& 63) = 14
    · refine az_tabIn (off := 605) C 638 dL_law_33 (by rw [c14]; decide) (by rw [c14]; decide) (by rw [c14]; decide) (by decide) ?_
      exact lc_orders ob14 hS hR (by omega) hL2 ih C hI hk hn2
    have n14 := lv_neT c14 (a := 14) (by decide)
    by_cases c15 : (xs (6 * m) &&& 63) = 15
    · refine az_tabIn (off := 618) C 651 dL_law_33 (by rw [c15]; decide) (by rw [c15]; decide) (by rw [c15]; decide) (by decide) ?_
      exact lc_fault ob15 hS hR (by omega) hL2 ih C hI hk hn2
    have n15 := lv_neT c15 (a := 15) (by decide)
    by_cases c16 : (xs (6 * m) &&& 63) = 16
    · refine az_tabIn (off := 631) C 664 dL_law_33 (by rw [c16]; decide) (by rw [c16]; decide) (by rw [c16]; decide) (by decide) ?_
      exact lc_stopped ob16 hS hR (by omega) hL2 ih C hI hk hn2
    have n16 := lv_neT c16 (a := 16) (by decide)
    by_cases c17 : (xs (6 * m) &&& 63) = 17
    · refine az_tabIn (off := 644) C 677 dL_law_33 (by rw [c17]; decide) (by rw [c17]; decide) (by rw [c17]; decide) (by decide) ?_
      exact lc_force ob17 hS hR (by omega) hL2 ih C hI hk hn2
    have n17 := lv_neT c17 (a := 17) (by decide)
    by_cases c18 : (xs (6 * m) &&& 63) = 18
    · refine az_tabIn (off := 667) C 700 dL_law_33 (by rw [c18]; decide) (by rw [c18]; decide) (by rw [c18]; decide) (by decide) ?_
      exact lc_barred ob18 hS hR (by omega) hL2 ih C hI hk hn2
    have n18 := lv_neT c18 (a := 18) (by decide)
    by_cases c19 : (xs (6 * m) &&& 63) = 19
    · refine az_tabIn (off := 700) C 733 dL_law_33 (by rw [c19]; decide) (by rw [c19]; decide) (by rw [c19]; decide) (by decide) ?_
      exact lc_fire ob19 hS hR (by omega) hL2 ih C hI hk hn2
    have n19 := lv_neT c19 (a := 19) (by decide)
    by_cases c20 : (xs (6 * m) &&& 63) = 20
    · refine az_tabIn (off := 733) C 766 dL_law_33 (by rw [c20]; decide) (by rw [c20]; decide) (by rw [c20]; decide) (by decide) ?_
      exact lc_duel ob20 hS hR (by omega) hL2 ih C hI hk hn2
    have n20 := lv_neT c20 (a := 20) (by decide)
    by_cases c21 : (xs (6 * m) &&& 63) = 21
    · refine az_tabIn (off := 766) C 799 dL_law_33 (by rw [c21]; decide) (by rw [c21]; decide) (by rw [c21]; decide) (by decide) ?_
      exact lc_rest ob21 hS hR (by omega) hL2 ih C hI hk hn2
    have n21 := lv_neT c21 (a := 21) (by decide)
    by_cases c22 : (xs (6 * m) &&& 63) = 22
    · refine az_tabIn (off := 789) C 822 dL_law_33 (by rw [c22]; decide) (by rw [c22]; decide) (by rw [c22]; decide) (by decide) ?_
      exact lc_undo ob22 hS hR (by omega) hL2 ih C hI hk hn2
    have n22 := lv_neT c22 (a := 22) (by decide)
    by_cases c23 : (xs (6 * m) &&& 63) = 23
    · refine az_tabIn (off := 802) C 835 dL_law_33 (by rw [c23]; decide) (by rw [c23]; decide) (by rw [c23]; decide) (by decide) ?_
      exact lc_log ob23 hS hR (by omega) hL2 ih C hI hk hn2
    have n23 := lv_neT c23 (a := 23) (by decide)
    by_cases c24 : (xs (6 * m) &&& 63) = 24
    · refine az_tabIn (off := 825) C 858 dL_law_33 (by rw [c24]; decide) (by rw [c24]; decide) (by rw [c24]; decide) (by decide) ?_
      exact lc_odds ob24 hS hR (by omega) hL2 ih C hI hk hn2
    have n24 := lv_neT c24 (a := 24) (by decide)
    by_cases c25 : (xs (6 * m) &&& 63) = 25
    · refine az_tabIn (off := 858) C 891 dL_law_33 (by rw [c25]; decide) (by rw [c25]; decide) (by rw [c25]; decide) (by decide) ?_
      exact lc_queue ob25 hS hR (by omega) hL2 ih C hI hk hn2
    have n25 := lv_neT c25 (a := 25) (by decide)
    by_cases c26 : (xs (6 * m) &&& 63) = 26
    · refine az_tabIn (off := 881) C 914 dL_law_33 (by rw [c26]; decide) (by rw [c26]; decide) (by rw [c26]; decide) (by decide) ?_
      exact lc_spades ob26 hS hR (by omega) hL2 ih C hI hk hn2
    have n26 := lv_neT c26 (a := 26) (by decide)
    by_cases c27 : (xs (6 * m) &&& 63) = 27
    · refine az_tabIn (off := 894) C 927 dL_law_33 (by rw [c27]; decide) (by rw [c27]; decide) (by rw [c27]; decide) (by decide) ?_
      exact lc_free ob27 hS hR (by omega) hL2 ih C hI hk hn2
    have n27 := lv_neT c27 (a := 27) (by decide)
    by_cases c28 : (xs (6 * m) &&& 63) = 28
    · refine az_tabIn (off := 917) C 950 dL_law_33 (by rw [c28]; decide) (by rw [c28]; decide) (by rw [c28]; decide) (by decide) ?_
      exact lc_marks ob28 hS hR (by omega) hL2 ih C hI hk hn2
    have n28 := lv_neT c28 (a := 28) (by decide)
    by_cases c29 : (xs (6 * m) &&& 63) = 29
    · refine az_tabIn (off := 970) C 1003 dL_law_33 (by rw [c29]; decide) (by rw [c29]; decide) (by rw [c29]; decide) (by decide) ?_
      exact lc_game ob29 hS hR (by omega) hL2 ih C hI hk hn2
    have n29 := lv_neT c29 (a := 29) (by decide)
    by_cases c30 : (xs (6 * m) &&& 63) = 30
    · refine az_tabIn (off := 993) C 1026 dL_law_33 (by rw [c30]; decide) (by rw [c30]; decide) (by rw [c30]; decide) (by decide) ?_
      exact lc_share ob30 hS hR (by omega) hL2 ih C hI hk hn2
    have n30 := lv_neT c30 (a := 30) (by decide)
    by_cases c31 : (xs (6 * m) &&& 63) = 31
    · refine az_tabIn (off := 1026) C 1059 dL_law_33 (by rw [c31]; decide) (by rw [c31]; decide) (by rw [c31]; decide) (by decide) ?_
      exact lc_season ob31 hS hR (by omega) hL2 ih C hI hk hn2
    have n31 := lv_neT c31 (a := 31) (by decide)
    by_cases c32 : (xs (6 * m) &&& 63) = 32
    · refine az_tabIn (off := 1059) C 1092 dL_law_33 (by rw [c32]; decide) (by rw [c32]; decide) (by rw [c32]; decide) (by decide) ?_
      exact lc_drawn ob32 hS hR (by omega) hL2 ih C hI hk hn2
    have n32 := lv_neT c32 (a := 32) (by decide)
    by_cases c33 : (xs (6 * m) &&& 63) = 33
    · refine az_tabIn (off := 1082) C 1115 dL_law_33 (by rw [c33]; decide) (by rw [c33]; decide) (by rw [c33]; decide) (by decide) ?_
      exact lc_image ob33 hS hR (by omega) hL2 ih C hI hk hn2
    have n33 := lv_neT c33 (a := 33) (by decide)
    by_cases c34 : (xs (6 * m) &&& 63) = 34
    · refine az_tabIn (off := 1105) C 1138 dL_law_33 (by rw [c34]; decide) (by rw [c34]; decide) (by rw [c34]; decide) (by decide) ?_
      exact lc_back ob34 hS hR (by omega) hL2 ih C hI hk hn2
    have n34 := lv_neT c34 (a := 34) (by decide)
    by_cases c35 : (xs (6 * m) &&& 63) = 35
    · refine az_tabIn (off := 1128) C 1161 dL_law_33 (by rw [c35]; decide) (by rw [c35]; decide) (by rw [c35]; decide) (by decide) ?_
      exact lc_count ob35 hS hR (by omega) hL2 ih C hI hk hn2
    have n35 := lv_neT c35 (a := 35) (by decide)
    by_cases c36 : (xs (6 * m) &&& 63) = 36
    · refine az_tabIn (off := 1151) C 1184 dL_law_33 (by rw [c36]; decide) (by rw [c36]; decide) (by rw [c36]; decide) (by decide) ?_
      exact lc_status ob36 hS hR (by omega) hL2 ih C hI hk hn2
    have n36 := lv_neT c36 (a := 36) (by decide)
    refine az_tabOut C 1197 dL_law_33 (by omega) (by decide) ?_
    exact lw_next ih C (obs _ _ _ hI) (by omega) (by omega)
